theorem fstF_cases (p : Nat → Bool) : ∀ m j, (fstF p m j = -1 ∧ ∀ i, j ≤ i → i < j + m → p i = false) ∨ ∃ i, j ≤ i ∧ i < j + m ∧ p i = true ∧ fstF p m j = nI i ∧ ∀ k, j ≤ k → k < i → p k = false
  | 0, j => Or.inl ⟨rfl, fun i h1 h2 => absurd h2 (by omega)⟩
  | m + 1, j => by
    unfold fstF
    cases hp : p j with
    | true =>
      exact Or.inr ⟨j, Nat.le_refl _, by omega, hp, by simp, fun k h1 h2 => absurd h2 (by omega)⟩
    | false =>
      rcases fstF_cases p m (j + 1) with ⟨h1, h2⟩ | ⟨i, h1, h2, h3, h4, h5⟩
      · refine Or.inl ⟨by simpa using h1, fun i q1 q2 => ?_⟩
        rcases Nat.lt_or_ge j i with q | q
        · exact h2 i q (by omega)
        · obtain rfl : i = j := by omega
          exact hp
      · refine Or.inr ⟨i, by omega, by omega, h3, by simpa using h4, fun k q1 q2 => ?_⟩
        rcases Nat.lt_or_ge j k with q | q
        · exact h5 k q q2
        · obtain rfl : k = j := by omega
          exact hp
theorem fstI_cases (p : Nat → Bool) (c : Nat) : (fstI p c = -1 ∧ ∀ i, i < c → p i = false) ∨ ∃ i, i < c ∧ p i = true ∧ fstI p c = nI i ∧ ∀ k, k < i → p k = false := by
  rcases fstF_cases p c 0 with ⟨h1, h2⟩ | ⟨i, h1, h2, h3, h4, h5⟩
  · exact Or.inl ⟨h1, fun i hi => h2 i (Nat.zero_le _) (by omega)⟩
  · exact Or.inr ⟨i, by omega, h3, h4, fun k hk => h5 k (Nat.zero_le _) hk⟩
def lnRow (l : List Row) (v : Int32) : Int32 := fstI (fun j => (rAt l j).1 == v) l.length
set_option maxRecDepth 100000 in
set_option maxHeartbeats 2000000 in
theorem c_letGo {h h1 : AHp} {a i : Nat} {F sl : Nat → Int32} {l : List Row} {E Jn : Int64} {v : Int32} (H : lnIs h a F sl l E Jn h1) (hi : i < l.length) (hv : lnRow l v = nI i) : JM mi_X2_letGo 2 0 0 [.ref a, .int v] h1 (fun r h' => r = .inl (some (.int (nI (l.eraseIdx i).length))) ∧ lnIs h a (fset F 8 (F 8 + 1)) sl (l.eraseIdx i) E Jn h') := by
  obtain ⟨e0, e1, hC⟩ := lnIs_at H
  have hC' := hC
  obtain ⟨R, ⟨f0, -, -, -, -, -, -, -, hlen⟩, -⟩ := hC'
  refine JM_of gd_X2_letGo rfl (by decide +kernel) (Nat.le_of_ble_eq_true rfl) (oj_cats rfl) (by decide) ?_
  repeat (first | (refine J_step rfl rfl ?_) | (refine J_getf rfl rfl rfl (by assumption) rfl ?_))
  refine J_cV rfl rfl rfl rfl rfl (by assumption) rfl rfl rfl rfl rfl rfl (c_rowOf (d := 0) hC) ?_
  rw [show fstI (fun j => (rAt l j).1 == v) l.length = nI i from hv]
  repeat (first | (refine J_step rfl rfl ?_) | (refine J_getf rfl rfl rfl (by assumption) rfl ?_))
  refine J_ic rfl (fun hq => absurd (show nI i = -1 from hq) (fun z => absurd (congrArg Int32.toInt z) (by rw [nI_toInt (by omega)]; have : (-1 : Int32).toInt = -1 := rfl; omega))) (fun hq => ?_)
  repeat (first | (refine J_step rfl rfl ?_) | (refine J_getf rfl rfl rfl (by assumption) rfl ?_))
  refine J_callV rfl rfl rfl rfl rfl (by assumption) rfl rfl rfl rfl (c_drop hC hi) (Nat.le_refl _) (Nat.le_refl _) (fun E h9 q => by cases q.1) (fun v h9 q => ?_)
  obtain ⟨q1, q2⟩ := q
  cases q1
  have H2 := lnIs_cr H q2
  rw [fset_self] at H2
  have g0 := (lnIs_at H2).1
  iterate 5 (first | (refine J_step rfl rfl ?_) | (refine J_getf rfl rfl rfl g0 rfl ?_))
  refine J_putf rfl rfl rfl g0 rfl rfl (fun _ => rfl) rfl rfl ?_
  have H3 := lnIs_fld (F' := fset F 8 (F 8 + 1)) (E' := E) (Jn' := Jn) H2 rfl
  refine J_heap (h2 := oj_up h9 a (lnObj a (fset F 8 (F 8 + 1)) E Jn)) rfl ?_
  generalize oj_up h9 a (lnObj a (fset F 8 (F 8 + 1)) E Jn) = h3 at H3 ⊢
  have k0 := (lnIs_at H3).1
  have hC3 := (lnIs_at H3).2.2
  obtain ⟨R3, ⟨f30, -⟩, -⟩ := hC3
  clear e0 g0 f0
  repeat (first | (refine J_step rfl rfl ?_) | (refine J_getf rfl rfl rfl (by assumption) rfl ?_))
  exact J_iret rfl rfl rfl rfl ⟨rfl, H3⟩
theorem bI_fit (b : Bool) : fits .boolean (.int (bI b)) = true := by cases b <;> rfl
theorem lnIs_cong {h h1 : AHp} {a : Nat} {F F' sl : Nat → Int32} {l : List Row} {E Jn : Int64} (H : lnIs h a F sl l E Jn h1) (e0 : F 0 = F' 0) (e1 : F 1 = F' 1) (e2 : F 2 = F' 2) (e3 : F 3 = F' 3) (e4 : F 4 = F' 4) (e5 : F 5 = F' 5) (e6 : F 6 = F' 6) (e7 : F 7 = F' 7) (e8 : F 8 = F' 8) (e9 : F 9 = F' 9) (e12 : F 12 = F' 12) : lnIs h a F' sl l E Jn h1 := by
  obtain ⟨R, rfl, hR, hl⟩ := H
  refine ⟨R, ?_, hR, hl⟩
  funext x
  unfold lnPut lnObj
  rw [e0, e1, e2, e3, e4, e5, e6, e7, e8, e9, e12]
set_option maxRecDepth 100000 in
set_option maxHeartbeats 2000000 in
theorem c_lnCopyFrom {h h1 : AHp} {a b : Nat} {F sl F2 sl2 : Nat → Int32} {l l2 : List Row} {E Jn E2 Jn2 : Int64} (H : lnIs h a F sl l E Jn h1) (H2 : LnAt h1 b F2 sl2 l2 E2 Jn2) (hab : b + 9 < a ∨ a + 9 < b) (hu : gU F2) (hbb : ∃ x : Bool, F2 3 = bI x) : JM mi_X2_copyFrom 2 0 0 [.ref a, .ref b] h1 (fun r h' => r = .inl none ∧ ∃ sl', (∀ i, i < 6 → sl' i = sl2 i) ∧ lnIs h a F2 sl' l2 E2 Jn2 h') := by
  have e0 := (lnIs_at H).1
  obtain ⟨b0, b1, hB⟩ := H2
  obtain ⟨bx, hb3⟩ := hbb
  refine JM_of gd_X2_copyFrom rfl (by decide +kernel) (Nat.le_of_ble_eq_true rfl) (oj_cats rfl) (by decide) ?_
  have hbx : ∀ {h1 h2 : AHp}, (∀ x, b ≤ x → x ≤ b + 9 → h2 x = h1 x) → LnAt h1 b F2 sl2 l2 E2 Jn2 → LnAt h2 b F2 sl2 l2 E2 Jn2 := by
    intro h1 h2 hh H
    obtain ⟨b0, b1, R, ⟨c0, c1, c2, c3, c4, c5, c6, c7, cl⟩, hR⟩ := H
    exact ⟨(hh _ (by omega) (by omega)).trans b0, (hh _ (by omega) (by omega)).trans b1, R, ⟨(hh _ (by omega) (by omega)).trans c0, (hh _ (by omega) (by omega)).trans c1, (hh _ (by omega) (by omega)).trans c2, (hh _ (by omega) (by omega)).trans c3, (hh _ (by omega) (by omega)).trans c4, (hh _ (by omega) (by omega)).trans c5, (hh _ (by omega) (by omega)).trans c6, (hh _ (by omega) (by omega)).trans c7, cl⟩, hR⟩
  have loop : ∀ m j h1 sl, m + j = 6 → lnIs h a F sl l E Jn h1 → LnAt h1 b F2 sl2 l2 E2 Jn2 → (∀ i, i < j → sl i = sl2 i) → (∀ h1 sl, lnIs h a F sl l E Jn h1 → LnAt h1 b F2 sl2 l2 E2 Jn2 → (∀ i, i < 6 → sl i = sl2 i) → J mi_X2_copyFrom 2 0 0 (fun r h' => r = .inl none ∧ ∃ sl', (∀ i, i < 6 → sl' i = sl2 i) ∧ lnIs h a F2 sl' l2 E2 Jn2 h') 0 0 26 [some (.ref a), some (.ref b), some (.int (nI 6))] [] h1) → J mi_X2_copyFrom 2 0 0 (fun r h' => r = .inl none ∧ ∃ sl', (∀ i, i < 6 → sl' i = sl2 i) ∧ lnIs h a F2 sl' l2 E2 Jn2 h') 0 0 2 [some (.ref a), some (.ref b), some (.int (nI j))] [] h1 := by
    intro m
    induction m with
    | zero =>
      intro j h1 sl hj H HB hs kk
      obtain rfl : j = 6 := by omega
      repeat (first | (refine J_step rfl rfl ?_) | (refine J_getf rfl rfl rfl (by assumption) rfl ?_))
      refine J_ic rfl (fun _ => ?_) (fun hq => absurd (oj_ccT (by decide)) hq)
      exact kk h1 sl H HB hs
    | succ m ih =>
      intro j h1 sl hj H HB hs kk
      have e0 := (lnIs_at H).1
      have e1 := (lnIs_at H).2.1
      have b0 := HB.1
      have b1 := HB.2.1
      repeat (first | (refine J_step rfl rfl ?_) | (refine J_getf rfl rfl rfl (by assumption) rfl ?_))
      refine J_ic rfl (fun hq => absurd (show nI 6 ≤ nI j from hq) (nI_ge (by omega) (by omega))) (fun hq => ?_)
      repeat (first | (refine J_step rfl rfl ?_) | (refine J_getf rfl rfl rfl (by assumption) rfl ?_))
      refine J_iald rfl b1 (vp_in_nI (by omega) (by omega)) ?_
      rw [nI_clamp (by omega)]
      refine J_iast rfl e1 (vp_in_nI (by omega) (by omega)) ?_
      rw [nI_clamp (by omega)]
      have H2 := lnIs_slp (f := upd sl j (sl2 j)) H
      have hs2 := ih (j + 1) _ (upd sl j (sl2 j)) (by omega) H2 (hbx (fun x q1 q2 => by simp only [oj_up]; rw [if_neg (by omega)]) HB) (fun i hi => by
        unfold upd
        by_cases e : i = j
        · rw [if_pos e, e]
        · rw [if_neg e]; exact hs i (by omega)) kk
      rw [nI_succ] at hs2
      iterate 2 (first | (refine J_step rfl rfl ?_) | (refine J_getf rfl rfl rfl (by assumption) rfl ?_))
      exact hs2
  refine J_heap rfl ?_
  iterate 2 (first | (refine J_step rfl rfl ?_) | (refine J_getf rfl rfl rfl (by assumption) rfl ?_))
  refine loop 6 0 h1 sl (by omega) H ⟨b0, b1, hB⟩ (fun i hi => absurd hi (by omega)) ?_
  intro h1 sl H HB hsl
  have hC := (lnIs_at H).2.2
  have hC' := hC
  obtain ⟨R, ⟨f0, -⟩, -⟩ := hC'
  have e0 := (lnIs_at H).1
  have b0 := HB.1
  repeat (first | (refine J_step rfl rfl ?_) | (refine J_getf rfl rfl rfl (by assumption) rfl ?_))
  refine J_callV rfl rfl rfl rfl rfl f0 rfl rfl rfl rfl (c_crCopyFrom hC HB.2.2 (by omega)) (Nat.le_refl _) (Nat.le_refl _) (fun E h9 q => by cases q.1) (fun v h9 q => ?_)
  obtain ⟨q1, q2⟩ := q
  cases q1
  have K0 := lnIs_cr H q2
  have HB2 := hbx (h2 := h9) (fun x z1 z2 => by
    obtain ⟨R9, rfl, -⟩ := q2
    exact crPut_ne (by omega)) HB
  have b9 := HB2.1
  have hne : ∀ {h9 : AHp} {x : AC}, h9 b = lnObj b F2 E2 Jn2 → oj_up h9 a x b = lnObj b F2 E2 Jn2 := fun {h9 x} z => by simp only [oj_up]; rw [if_neg (by omega)]; exact z
  generalize h9 = g0 at K0 b9 ⊢
  have g00 := (lnIs_at K0).1
  iterate 3 (first | (refine J_step rfl rfl ?_) | (refine J_getf rfl rfl rfl b9 rfl ?_))
  refine J_putf rfl rfl rfl g00 rfl rfl (fun _ => rfl) rfl rfl ?_
  have K1 := lnIs_fld (F' := (fset (fset F 12 (F2 12)) 0 (F2 0))) (E' := E) (Jn' := Jn) K0 rfl
  refine J_heap (h2 := oj_up g0 a (lnObj a (fset (fset F 12 (F2 12)) 0 (F2 0)) E Jn)) rfl ?_
  replace b9 := hne (x := lnObj a (fset (fset F 12 (F2 12)) 0 (F2 0)) E Jn) b9
  clear g00
  generalize oj_up g0 a (lnObj a (fset (fset F 12 (F2 12)) 0 (F2 0)) E Jn) = g1 at K1 b9 ⊢
  have g10 := (lnIs_at K1).1
  iterate 3 (first | (refine J_step rfl rfl ?_) | (refine J_getf rfl rfl rfl b9 rfl ?_))
  refine J_putf rfl rfl rfl g10 rfl rfl (fun _ => rfl) rfl rfl ?_
  have K2 := lnIs_fld (F' := (fset (fset (fset F 12 (F2 12)) 0 (F2 0)) 4 (F2 4))) (E' := E) (Jn' := Jn) K1 rfl
  refine J_heap (h2 := oj_up g1 a (lnObj a (fset (fset (fset F 12 (F2 12)) 0 (F2 0)) 4 (F2 4)) E Jn)) rfl ?_
  replace b9 := hne (x := lnObj a (fset (fset (fset F 12 (F2 12)) 0 (F2 0)) 4 (F2 4)) E Jn) b9
  clear g10
  generalize oj_up g1 a (lnObj a (fset (fset (fset F 12 (F2 12)) 0 (F2 0)) 4 (F2 4)) E Jn) = g2 at K2 b9 ⊢
  have g20 := (lnIs_at K2).1
  iterate 3 (first | (refine J_step rfl rfl ?_) | (refine J_getf rfl rfl rfl b9 rfl ?_))
  refine J_putf rfl rfl rfl g20 rfl rfl (fun _ => rfl) (show narrow .boolean (.int (F2 5)) = .int (F2 5) from by rw [hu]; exact bI_nar _) (show fits .boolean (.int (F2 5)) = true from by rw [hu]; exact bI_fit _) ?_
  have K3 := lnIs_fld (F' := (fset (fset (fset (fset F 12 (F2 12)) 0 (F2 0)) 4 (F2 4)) 5 (F2 5))) (E' := E) (Jn' := Jn) K2 rfl
  refine J_heap (h2 := oj_up g2 a (lnObj a (fset (fset (fset (fset F 12 (F2 12)) 0 (F2 0)) 4 (F2 4)) 5 (F2 5)) E Jn)) rfl ?_
  replace b9 := hne (x := lnObj a (fset (fset (fset (fset F 12 (F2 12)) 0 (F2 0)) 4 (F2 4)) 5 (F2 5)) E Jn) b9
  clear g20
  generalize oj_up g2 a (lnObj a (fset (fset (fset (fset F 12 (F2 12)) 0 (F2 0)) 4 (F2 4)) 5 (F2 5)) E Jn) = g3 at K3 b9 ⊢
  have g30 := (lnIs_at K3).1
  iterate 3 (first | (refine J_step rfl rfl ?_) | (refine J_getf rfl rfl rfl b9 rfl ?_))
  refine J_putf rfl rfl rfl g30 rfl rfl (fun _ => rfl) rfl rfl ?_
  have K4 := lnIs_fld (F' := (fset (fset (fset (fset (fset F 12 (F2 12)) 0 (F2 0)) 4 (F2 4)) 5 (F2 5)) 1 (F2 1))) (E' := E) (Jn' := Jn) K3 rfl
  refine J_heap (h2 := oj_up g3 a (lnObj a (fset (fset (fset (fset (fset F 12 (F2 12)) 0 (F2 0)) 4 (F2 4)) 5 (F2 5)) 1 (F2 1)) E Jn)) rfl ?_
  replace b9 := hne (x := lnObj a (fset (fset (fset (fset (fset F 12 (F2 12)) 0 (F2 0)) 4 (F2 4)) 5 (F2 5)) 1 (F2 1)) E Jn) b9
  clear g30
  generalize oj_up g3 a (lnObj a (fset (fset (fset (fset (fset F 12 (F2 12)) 0 (F2 0)) 4 (F2 4)) 5 (F2 5)) 1 (F2 1)) E Jn) = g4 at K4 b9 ⊢
  have g40 := (lnIs_at K4).1
  iterate 3 (first | (refine J_step rfl rfl ?_) | (refine J_getf rfl rfl rfl b9 rfl ?_))
  refine J_putf rfl rfl rfl g40 rfl rfl (fun _ => rfl) rfl rfl ?_
  have K5 := lnIs_fld (F' := (fset (fset (fset (fset (fset (fset F 12 (F2 12)) 0 (F2 0)) 4 (F2 4)) 5 (F2 5)) 1 (F2 1)) 2 (F2 2))) (E' := E) (Jn' := Jn) K4 rfl
  refine J_heap (h2 := oj_up g4 a (lnObj a (fset (fset (fset (fset (fset (fset F 12 (F2 12)) 0 (F2 0)) 4 (F2 4)) 5 (F2 5)) 1 (F2 1)) 2 (F2 2)) E Jn)) rfl ?_
  replace b9 := hne (x := lnObj a (fset (fset (fset (fset (fset (fset F 12 (F2 12)) 0 (F2 0)) 4 (F2 4)) 5 (F2 5)) 1 (F2 1)) 2 (F2 2)) E Jn) b9
  clear g40
  generalize oj_up g4 a (lnObj a (fset (fset (fset (fset (fset (fset F 12 (F2 12)) 0 (F2 0)) 4 (F2 4)) 5 (F2 5)) 1 (F2 1)) 2 (F2 2)) E Jn) = g5 at K5 b9 ⊢
  have g50 := (lnIs_at K5).1
  iterate 3 (first | (refine J_step rfl rfl ?_) | (refine J_getf rfl rfl rfl b9 rfl ?_))
  refine J_putf rfl rfl rfl g50 rfl rfl (fun _ => rfl) (show narrow .boolean (.int (F2 3)) = .int (F2 3) from by rw [hb3]; exact bI_nar _) (show fits .boolean (.int (F2 3)) = true from by rw [hb3]; exact bI_fit _) ?_
  have K6 := lnIs_fld (F' := (fset (fset (fset (fset (fset (fset (fset F 12 (F2 12)) 0 (F2 0)) 4 (F2 4)) 5 (F2 5)) 1 (F2 1)) 2 (F2 2)) 3 (F2 3))) (E' := E) (Jn' := Jn) K5 rfl
  refine J_heap (h2 := oj_up g5 a (lnObj a (fset (fset (fset (fset (fset (fset (fset F 12 (F2 12)) 0 (F2 0)) 4 (F2 4)) 5 (F2 5)) 1 (F2 1)) 2 (F2 2)) 3 (F2 3)) E Jn)) rfl ?_
  replace b9 := hne (x := lnObj a (fset (fset (fset (fset (fset (fset (fset F 12 (F2 12)) 0 (F2 0)) 4 (F2 4)) 5 (F2 5)) 1 (F2 1)) 2 (F2 2)) 3 (F2 3)) E Jn) b9
  clear g50
  generalize oj_up g5 a (lnObj a (fset (fset (fset (fset (fset (fset (fset F 12 (F2 12)) 0 (F2 0)) 4 (F2 4)) 5 (F2 5)) 1 (F2 1)) 2 (F2 2)) 3 (F2 3)) E Jn) = g6 at K6 b9 ⊢
  have g60 := (lnIs_at K6).1
  iterate 3 (first | (refine J_step rfl rfl ?_) | (refine J_getf rfl rfl rfl b9 rfl ?_))
  refine J_putf rfl rfl rfl g60 rfl rfl (fun _ => rfl) rfl rfl ?_
  have K7 := lnIs_fld (F' := (fset (fset (fset (fset (fset (fset (fset (fset F 12 (F2 12)) 0 (F2 0)) 4 (F2 4)) 5 (F2 5)) 1 (F2 1)) 2 (F2 2)) 3 (F2 3)) 6 (F2 6))) (E' := E) (Jn' := Jn) K6 rfl
  refine J_heap (h2 := oj_up g6 a (lnObj a (fset (fset (fset (fset (fset (fset (fset (fset F 12 (F2 12)) 0 (F2 0)) 4 (F2 4)) 5 (F2 5)) 1 (F2 1)) 2 (F2 2)) 3 (F2 3)) 6 (F2 6)) E Jn)) rfl ?_
  replace b9 := hne (x := lnObj a (fset (fset (fset (fset (fset (fset (fset (fset F 12 (F2 12)) 0 (F2 0)) 4 (F2 4)) 5 (F2 5)) 1 (F2 1)) 2 (F2 2)) 3 (F2 3)) 6 (F2 6)) E Jn) b9
  clear g60
  generalize oj_up g6 a (lnObj a (fset (fset (fset (fset (fset (fset (fset (fset F 12 (F2 12)) 0 (F2 0)) 4 (F2 4)) 5 (F2 5)) 1 (F2 1)) 2 (F2 2)) 3 (F2 3)) 6 (F2 6)) E Jn) = g7 at K7 b9 ⊢
  have g70 := (lnIs_at K7).1
  iterate 3 (first | (refine J_step rfl rfl ?_) | (refine J_getf rfl rfl rfl b9 rfl ?_))
  refine J_putf rfl rfl rfl g70 rfl rfl (fun _ => rfl) rfl rfl ?_
  have K8 := lnIs_fld (F' := (fset (fset (fset (fset (fset (fset (fset (fset (fset F 12 (F2 12)) 0 (F2 0)) 4 (F2 4)) 5 (F2 5)) 1 (F2 1)) 2 (F2 2)) 3 (F2 3)) 6 (F2 6)) 7 (F2 7))) (E' := E) (Jn' := Jn) K7 rfl
  refine J_heap (h2 := oj_up g7 a (lnObj a (fset (fset (fset (fset (fset (fset (fset (fset (fset F 12 (F2 12)) 0 (F2 0)) 4 (F2 4)) 5 (F2 5)) 1 (F2 1)) 2 (F2 2)) 3 (F2 3)) 6 (F2 6)) 7 (F2 7)) E Jn)) rfl ?_
  replace b9 := hne (x := lnObj a (fset (fset (fset (fset (fset (fset (fset (fset (fset F 12 (F2 12)) 0 (F2 0)) 4 (F2 4)) 5 (F2 5)) 1 (F2 1)) 2 (F2 2)) 3 (F2 3)) 6 (F2 6)) 7 (F2 7)) E Jn) b9
  clear g70
  generalize oj_up g7 a (lnObj a (fset (fset (fset (fset (fset (fset (fset (fset (fset F 12 (F2 12)) 0 (F2 0)) 4 (F2 4)) 5 (F2 5)) 1 (F2 1)) 2 (F2 2)) 3 (F2 3)) 6 (F2 6)) 7 (F2 7)) E Jn) = g8 at K8 b9 ⊢
  have g80 := (lnIs_at K8).1
  iterate 3 (first | (refine J_step rfl rfl ?_) | (refine J_getf rfl rfl rfl b9 rfl ?_))
  refine J_putf rfl rfl rfl g80 rfl rfl (fun _ => rfl) rfl rfl ?_
  have K9 := lnIs_fld (F' := (fset (fset (fset (fset (fset (fset (fset (fset (fset (fset F 12 (F2 12)) 0 (F2 0)) 4 (F2 4)) 5 (F2 5)) 1 (F2 1)) 2 (F2 2)) 3 (F2 3)) 6 (F2 6)) 7 (F2 7)) 8 (F2 8))) (E' := E) (Jn' := Jn) K8 rfl
  refine J_heap (h2 := oj_up g8 a (lnObj a (fset (fset (fset (fset (fset (fset (fset (fset (fset (fset F 12 (F2 12)) 0 (F2 0)) 4 (F2 4)) 5 (F2 5)) 1 (F2 1)) 2 (F2 2)) 3 (F2 3)) 6 (F2 6)) 7 (F2 7)) 8 (F2 8)) E Jn)) rfl ?_
  replace b9 := hne (x := lnObj a (fset (fset (fset (fset (fset (fset (fset (fset (fset (fset F 12 (F2 12)) 0 (F2 0)) 4 (F2 4)) 5 (F2 5)) 1 (F2 1)) 2 (F2 2)) 3 (F2 3)) 6 (F2 6)) 7 (F2 7)) 8 (F2 8)) E Jn) b9
  clear g80
  generalize oj_up g8 a (lnObj a (fset (fset (fset (fset (fset (fset (fset (fset (fset (fset F 12 (F2 12)) 0 (F2 0)) 4 (F2 4)) 5 (F2 5)) 1 (F2 1)) 2 (F2 2)) 3 (F2 3)) 6 (F2 6)) 7 (F2 7)) 8 (F2 8)) E Jn) = g9 at K9 b9 ⊢
  have g90 := (lnIs_at K9).1
  iterate 3 (first | (refine J_step rfl rfl ?_) | (refine J_getf rfl rfl rfl b9 rfl ?_))
  refine J_putf rfl rfl rfl g90 rfl rfl (fun _ => rfl) rfl rfl ?_
  have K10 := lnIs_fld (F' := (fset (fset (fset (fset (fset (fset (fset (fset (fset (fset (fset F 12 (F2 12)) 0 (F2 0)) 4 (F2 4)) 5 (F2 5)) 1 (F2 1)) 2 (F2 2)) 3 (F2 3)) 6 (F2 6)) 7 (F2 7)) 8 (F2 8)) 9 (F2 9))) (E' := E) (Jn' := Jn) K9 rfl
  refine J_heap (h2 := oj_up g9 a (lnObj a (fset (fset (fset (fset (fset (fset (fset (fset (fset (fset (fset F 12 (F2 12)) 0 (F2 0)) 4 (F2 4)) 5 (F2 5)) 1 (F2 1)) 2 (F2 2)) 3 (F2 3)) 6 (F2 6)) 7 (F2 7)) 8 (F2 8)) 9 (F2 9)) E Jn)) rfl ?_
  replace b9 := hne (x := lnObj a (fset (fset (fset (fset (fset (fset (fset (fset (fset (fset (fset F 12 (F2 12)) 0 (F2 0)) 4 (F2 4)) 5 (F2 5)) 1 (F2 1)) 2 (F2 2)) 3 (F2 3)) 6 (F2 6)) 7 (F2 7)) 8 (F2 8)) 9 (F2 9)) E Jn) b9
  clear g90
  generalize oj_up g9 a (lnObj a (fset (fset (fset (fset (fset (fset (fset (fset (fset (fset (fset F 12 (F2 12)) 0 (F2 0)) 4 (F2 4)) 5 (F2 5)) 1 (F2 1)) 2 (F2 2)) 3 (F2 3)) 6 (F2 6)) 7 (F2 7)) 8 (F2 8)) 9 (F2 9)) E Jn) = g10 at K10 b9 ⊢
  have g100 := (lnIs_at K10).1
  iterate 3 (first | (refine J_step rfl rfl ?_) | (refine J_getf rfl rfl rfl b9 rfl ?_))
  refine J_putf rfl rfl rfl g100 rfl rfl (fun _ => rfl) rfl rfl ?_
  have K11 := lnIs_fld (F' := (fset (fset (fset (fset (fset (fset (fset (fset (fset (fset (fset F 12 (F2 12)) 0 (F2 0)) 4 (F2 4)) 5 (F2 5)) 1 (F2 1)) 2 (F2 2)) 3 (F2 3)) 6 (F2 6)) 7 (F2 7)) 8 (F2 8)) 9 (F2 9))) (E' := E2) (Jn' := Jn) K10 rfl
  refine J_heap (h2 := oj_up g10 a (lnObj a (fset (fset (fset (fset (fset (fset (fset (fset (fset (fset (fset F 12 (F2 12)) 0 (F2 0)) 4 (F2 4)) 5 (F2 5)) 1 (F2 1)) 2 (F2 2)) 3 (F2 3)) 6 (F2 6)) 7 (F2 7)) 8 (F2 8)) 9 (F2 9)) E2 Jn)) rfl ?_
  replace b9 := hne (x := lnObj a (fset (fset (fset (fset (fset (fset (fset (fset (fset (fset (fset F 12 (F2 12)) 0 (F2 0)) 4 (F2 4)) 5 (F2 5)) 1 (F2 1)) 2 (F2 2)) 3 (F2 3)) 6 (F2 6)) 7 (F2 7)) 8 (F2 8)) 9 (F2 9)) E2 Jn) b9
  clear g100
  generalize oj_up g10 a (lnObj a (fset (fset (fset (fset (fset (fset (fset (fset (fset (fset (fset F 12 (F2 12)) 0 (F2 0)) 4 (F2 4)) 5 (F2 5)) 1 (F2 1)) 2 (F2 2)) 3 (F2 3)) 6 (F2 6)) 7 (F2 7)) 8 (F2 8)) 9 (F2 9)) E2 Jn) = g11 at K11 b9 ⊢
  have g110 := (lnIs_at K11).1
  iterate 3 (first | (refine J_step rfl rfl ?_) | (refine J_getf rfl rfl rfl b9 rfl ?_))
  refine J_putf rfl rfl rfl g110 rfl rfl (fun _ => rfl) rfl rfl ?_
  have K12 := lnIs_fld (F' := (fset (fset (fset (fset (fset (fset (fset (fset (fset (fset (fset F 12 (F2 12)) 0 (F2 0)) 4 (F2 4)) 5 (F2 5)) 1 (F2 1)) 2 (F2 2)) 3 (F2 3)) 6 (F2 6)) 7 (F2 7)) 8 (F2 8)) 9 (F2 9))) (E' := E2) (Jn' := Jn2) K11 rfl
  refine J_heap (h2 := oj_up g11 a (lnObj a (fset (fset (fset (fset (fset (fset (fset (fset (fset (fset (fset F 12 (F2 12)) 0 (F2 0)) 4 (F2 4)) 5 (F2 5)) 1 (F2 1)) 2 (F2 2)) 3 (F2 3)) 6 (F2 6)) 7 (F2 7)) 8 (F2 8)) 9 (F2 9)) E2 Jn2)) rfl ?_
  replace b9 := hne (x := lnObj a (fset (fset (fset (fset (fset (fset (fset (fset (fset (fset (fset F 12 (F2 12)) 0 (F2 0)) 4 (F2 4)) 5 (F2 5)) 1 (F2 1)) 2 (F2 2)) 3 (F2 3)) 6 (F2 6)) 7 (F2 7)) 8 (F2 8)) 9 (F2 9)) E2 Jn2) b9
  clear g110
  generalize oj_up g11 a (lnObj a (fset (fset (fset (fset (fset (fset (fset (fset (fset (fset (fset F 12 (F2 12)) 0 (F2 0)) 4 (F2 4)) 5 (F2 5)) 1 (F2 1)) 2 (F2 2)) 3 (F2 3)) 6 (F2 6)) 7 (F2 7)) 8 (F2 8)) 9 (F2 9)) E2 Jn2) = g12 at K12 b9 ⊢
  exact J_vret rfl rfl rfl rfl ⟨rfl, sl, hsl, lnIs_cong (F' := F2) K12 rfl rfl rfl rfl rfl rfl rfl rfl rfl rfl rfl⟩
