def oj_ccb (c : ClassFile.Cond) (x y : Int32) : Bool := match c with
  | .eq => decide (x = y)
  | .ne => decide (¬ x = y)
  | .lt => decide (x < y)
  | .ge => decide (y ≤ x)
  | .gt => decide (y < x)
  | .le => decide (x ≤ y)
theorem oj_ccT {c : ClassFile.Cond} {x y : Int32} (h : oj_ccb c x y = true) : oj_cc c x y := match c, h with
  | .eq, h => of_decide_eq_true (p := x = y) h
  | .ne, h => of_decide_eq_true (p := ¬ x = y) h
  | .lt, h => of_decide_eq_true (p := x < y) h
  | .ge, h => of_decide_eq_true (p := y ≤ x) h
  | .gt, h => of_decide_eq_true (p := y < x) h
  | .le, h => of_decide_eq_true (p := x ≤ y) h
theorem oj_ccF {c : ClassFile.Cond} {x y : Int32} (h : oj_ccb c x y = false) : ¬ oj_cc c x y := match c, h with
  | .eq, h => of_decide_eq_false (p := x = y) h
  | .ne, h => of_decide_eq_false (p := ¬ x = y) h
  | .lt, h => of_decide_eq_false (p := x < y) h
  | .ge, h => of_decide_eq_false (p := y ≤ x) h
  | .gt, h => of_decide_eq_false (p := y < x) h
  | .le, h => of_decide_eq_false (p := x ≤ y) h
theorem lnIs_x {h h1 : AHp} {a : Nat} {F sl : Nat → Int32} {l : List Row} {E Jn : Int64} {v : Int32} (H : lnIs h a F sl l E Jn h1) : lnIs h a (fset F 10 v) sl l E Jn h1 := by
  obtain ⟨R, rfl, hR, hl⟩ := H
  exact ⟨R, rfl, hR, hl⟩
theorem lnIs_y {h h1 : AHp} {a : Nat} {F sl : Nat → Int32} {l : List Row} {E Jn : Int64} {v : Int32} (H : lnIs h a F sl l E Jn h1) : lnIs h a (fset F 11 v) sl l E Jn h1 := by
  obtain ⟨R, rfl, hR, hl⟩ := H
  exact ⟨R, rfl, hR, hl⟩
def mvP (F : Nat → Int32) (u : Bool) : Nat → Int32 := fset F 4 (F 4 + if u then 1 else -1)
def mvM (F : Nat → Int32) : Nat → Int32 := if F 4 = 12 then fset F 9 (F 9 + 1) else F
def mvB (F : Nat → Int32) (x : Int32) : Nat → Int32 := if 0 ≤ x then fset (fset F 2 (if 0 < F 2 - 1 then F 2 - 1 else 0)) 10 (F 10 + x / 100) else if 100 ≤ F 2 + -x / 200 then fset (fset F 2 (F 2 + -x / 200)) 3 1 else fset F 2 (F 2 + -x / 200)
def mvE (E : Int64) (x : Int32) : Int64 := if 0 ≤ x then E + (x / 100).toInt64 else E
set_option maxRecDepth 100000 in
set_option maxHeartbeats 2000000 in
theorem c_move {h h1 : AHp} {a : Nat} {F sl : Nat → Int32} {l : List Row} {E Jn : Int64} {u : Bool} {x : Int32} (H : lnIs h a F sl l E Jn h1) (hu : F 5 = bI u) : JM mi_X2_move 1 0 0 [.ref a, .int x] h1 (fun r h' => r = .inl none ∧ lnIs h a (mvB (mvM (mvP F u)) x) sl l (mvE E x) Jn h') := by
  obtain ⟨e0, e1, hC⟩ := lnIs_at H
  refine JM_of gd_X2_move rfl (by decide +kernel) (Nat.le_of_ble_eq_true rfl) (oj_cats rfl) (by decide) ?_
  have part3 : ∀ (h1 : AHp) (F : Nat → Int32), lnIs h a F sl l E Jn h1 → J mi_X2_move 1 0 0 (fun r h' => r = .inl none ∧ lnIs h a (mvB F x) sl l (mvE E x) Jn h') 0 0 40 [some (.ref a), some (.int x)] [] h1 := by
    intro h1 F H
    have e0 := (lnIs_at H).1
    iterate 1 (refine J_step rfl rfl ?_)
    refine J_if (y := 0) rfl (fun hq => ?_) (fun hq => ?_)
    · have hq : ¬ 0 ≤ x := Int32.not_le.mpr hq
      iterate 6 (first | (refine J_step rfl rfl ?_) | (refine J_getf rfl rfl rfl e0 rfl ?_))
      refine J_idiv rfl (by decide) ?_
      iterate 1 (refine J_step rfl rfl ?_)
      refine J_putf rfl rfl rfl e0 rfl rfl (fun _ => rfl) rfl rfl ?_
      have H2 := lnIs_fld (F' := fset F 2 (F 2 + -x / 200)) (E' := E) (Jn' := Jn) H rfl
      have g0 := (lnIs_at H2).1
      refine J_heap (h2 := oj_up h1 a (lnObj a (fset F 2 (F 2 + -x / 200)) E Jn)) rfl ?_
      generalize oj_up h1 a (lnObj a (fset F 2 (F 2 + -x / 200)) E Jn) = h2 at H2 g0 ⊢
      iterate 3 (first | (refine J_step rfl rfl ?_) | (refine J_getf rfl rfl rfl g0 rfl ?_))
      rw [mvB, mvE, if_neg hq, if_neg hq]
      refine J_ic rfl (fun hq2 => ?_) (fun hq2 => ?_)
      · have hq2 : F 2 + -x / 200 < 100 := hq2
        refine J_vret rfl rfl rfl rfl ⟨rfl, ?_⟩
        rw [if_neg (Int32.not_le.mpr hq2)]
        exact H2
      · have hq2 : 100 ≤ F 2 + -x / 200 := Int32.not_lt.mp hq2
        iterate 2 (refine J_step rfl rfl ?_)
        refine J_putf rfl rfl rfl g0 rfl rfl (fun _ => rfl) rfl rfl ?_
        refine J_vret rfl rfl rfl rfl ⟨rfl, ?_⟩
        rw [if_pos hq2]
        exact lnIs_fld (F' := fset (fset F 2 (F 2 + -x / 200)) 3 1) (E' := E) (Jn' := Jn) H2 rfl
    · have hq : 0 ≤ x := Int32.not_lt.mp hq
      iterate 5 (first | (refine J_step rfl rfl ?_) | (refine J_getf rfl rfl rfl e0 rfl ?_))
      refine J_idiv rfl (by decide) ?_
      iterate 2 (refine J_step rfl rfl ?_)
      refine J_putf rfl rfl rfl e0 rfl rfl (fun _ => rfl) rfl rfl ?_
      have H2 := lnIs_fld (F' := F) (E' := E + (x / 100).toInt64) (Jn' := Jn) H rfl
      have g0 := (lnIs_at H2).1
      refine J_heap (h2 := oj_up h1 a (lnObj a F (E + (x / 100).toInt64) Jn)) rfl ?_
      generalize oj_up h1 a (lnObj a F (E + (x / 100).toInt64) Jn) = h2 at H2 g0 ⊢
      iterate 6 (first | (refine J_step rfl rfl ?_) | (refine J_getf rfl rfl rfl g0 rfl ?_))
      refine J_max rfl (by decide +kernel) rfl rfl (Nat.le_refl _) (Nat.le_refl _) ?_
      refine J_putf rfl rfl rfl g0 rfl rfl (fun _ => rfl) rfl rfl ?_
      repeat (first | (refine J_step rfl rfl ?_) | (refine J_getf rfl rfl rfl (by assumption) rfl ?_))
      refine J_vret rfl rfl rfl rfl ⟨rfl, ?_⟩
      rw [mvB, mvE, if_pos hq, if_pos hq]
      exact lnIs_x (lnIs_fld (F' := fset F 2 (if 0 < F 2 - 1 then F 2 - 1 else 0)) (E' := E + (x / 100).toInt64) (Jn' := Jn) H2 rfl)
  have part2 : ∀ (h1 : AHp) (F : Nat → Int32), lnIs h a F sl l E Jn h1 → J mi_X2_move 1 0 0 (fun r h' => r = .inl none ∧ lnIs h a (mvB (mvM F) x) sl l (mvE E x) Jn h') 0 0 21 [some (.ref a), some (.int x)] [] h1 := by
    intro h1 F H
    have e0 := (lnIs_at H).1
    iterate 3 (first | (refine J_step rfl rfl ?_) | (refine J_getf rfl rfl rfl e0 rfl ?_))
    refine J_ic rfl (fun hq => ?_) (fun hq => ?_)
    · have hq : ¬ F 4 = 12 := hq
      rw [mvM, if_neg hq]
      exact part3 h1 F H
    · have hq : F 4 = 12 := Classical.not_not.mp hq
      rw [mvM, if_pos hq]
      iterate 5 (first | (refine J_step rfl rfl ?_) | (refine J_getf rfl rfl rfl e0 rfl ?_))
      refine J_putf rfl rfl rfl e0 rfl rfl (fun _ => rfl) rfl rfl ?_
      exact part3 _ _ (lnIs_fld (F' := fset F 9 (F 9 + 1)) (E' := E) (Jn' := Jn) H rfl)
  iterate 5 (first | (refine J_step rfl rfl ?_) | (refine J_getf rfl rfl rfl e0 rfl ?_))
  rw [hu]
  refine J_if (y := 0) rfl (fun hq => ?_) (fun hq => ?_)
  · have hb : u = false := by cases u <;> simp_all [oj_cz, bI]
    subst hb
    iterate 2 (refine J_step rfl rfl ?_)
    refine J_putf rfl rfl rfl e0 rfl rfl (fun _ => rfl) rfl rfl ?_
    exact part2 _ _ (lnIs_fld (F' := mvP F false) (E' := E) (Jn' := Jn) H rfl)
  · have hb : u = true := by cases u <;> simp_all [oj_cz, bI]
    subst hb
    iterate 3 (refine J_step rfl rfl ?_)
    refine J_putf rfl rfl rfl e0 rfl rfl (fun _ => rfl) rfl rfl ?_
    exact part2 _ _ (lnIs_fld (F' := mvP F true) (E' := E) (Jn' := Jn) H rfl)
def spU (F : Nat → Int32) (u : Bool) : Bool := if sAtE F then !u else u
def spF (F : Nat → Int32) (u : Bool) : Nat → Int32 := if sAtE F then fset F 5 (bI (!u)) else F
/-- the rows behind both unloadings -/
def spL (F : Nat → Int32) (l : List Row) : List Row := crUn 1 (sPl F 1 / 4) (crUn 0 (sPl F 0 / 4) l)
def spJ (F : Nat → Int32) (l : List Row) (Jn : Int64) : Int64 := Jn + (crMin 0 (sPl F 0 / 4) (F 0) l).toInt64 + (crMin 1 (sPl F 1 / 4) (F 0) (crUn 0 (sPl F 0 / 4) l)).toInt64
def spLd (F : Nat → Int32) (u : Bool) (cab : Int32) (l : List Row) (nb : Int32) : List Row × Int32 := crLd cab (sPl F cab / 4) (F 1) (sUp u cab) (crRid l cab) nb l
def spA (F : Nat → Int32) (l : List Row) : Nat → Int32 := fset F 7 (F 7 + (nI l.length - nI (spL F l).length))
set_option maxRecDepth 100000 in
set_option maxHeartbeats 2000000 in
theorem c_stop {h h1 : AHp} {a : Nat} {F sl : Nat → Int32} {l : List Row} {E Jn : Int64} {u : Bool} (H : lnIs h a F sl l E Jn h1) (hu : F 5 = bI u) : JM mi_X2_stop 2 0 0 [.ref a] h1 (fun r h' => r = .inl none ∧
    lnIs h a (fset (spA (spF F u) l) 12 (spLd (spF F u) (spU F u) 1 (spLd (spF F u) (spU F u) 0 (spL (spF F u) l) (F 12)).1 (spLd (spF F u) (spU F u) 0 (spL (spF F u) l) (F 12)).2).2) sl (spLd (spF F u) (spU F u) 1 (spLd (spF F u) (spU F u) 0 (spL (spF F u) l) (F 12)).1 (spLd (spF F u) (spU F u) 0 (spL (spF F u) l) (F 12)).2).1 E (spJ (spF F u) l Jn) h') := by
  have hL := lnIs_at H
  obtain ⟨e0, e1, hC⟩ := lnIs_at H
  refine JM_of gd_X2_stop rfl (by decide +kernel) (Nat.le_of_ble_eq_true rfl) (oj_cats rfl) (by decide) ?_
  have part2 : ∀ (h1 : AHp) (F : Nat → Int32) (u : Bool), lnIs h a F sl l E Jn h1 → F 5 = bI u → J mi_X2_stop 2 0 0 (fun r h' => r = .inl none ∧ lnIs h a (fset (spA F l) 12 (spLd F u 1 (spLd F u 0 (spL F l) (F 12)).1 (spLd F u 0 (spL F l) (F 12)).2).2) sl (spLd F u 1 (spLd F u 0 (spL F l) (F 12)).1 (spLd F u 0 (spL F l) (F 12)).2).1 E (spJ F l Jn) h') 0 0 23 [some (.ref a), none, none] [] h1 := by
    intro h1 F u H hu
    have hL := lnIs_at H
    obtain ⟨e0, e1, hC⟩ := lnIs_at H
    have hC' := hC
    obtain ⟨R, ⟨f0, -⟩, -⟩ := hC'
    repeat (first | (refine J_step rfl rfl ?_) | (refine J_getf rfl rfl rfl (by assumption) rfl ?_))
    refine J_ic rfl (fun hq => absurd hq (oj_ccF (by decide))) (fun _ => ?_)
    repeat (first | (refine J_step rfl rfl ?_) | (refine J_getf rfl rfl rfl (by assumption) rfl ?_))
    refine J_cV rfl rfl rfl rfl rfl (by assumption) rfl rfl rfl rfl rfl rfl (c_placeOf (d := 0) hL) ?_
    repeat (first | (refine J_step rfl rfl ?_) | (refine J_getf rfl rfl rfl (by assumption) rfl ?_))
    refine J_idiv rfl (by decide) ?_
    repeat (first | (refine J_step rfl rfl ?_) | (refine J_getf rfl rfl rfl (by assumption) rfl ?_))
    refine J_callV rfl rfl rfl rfl rfl (by assumption) rfl rfl rfl rfl (c_unload hC) (Nat.le_refl _) (Nat.le_refl _) (fun E h9 q => by cases q.1) (fun v h9 q => ?_)
    obtain ⟨q1, q2⟩ := q
    cases q1
    have H2 := lnIs_cr H q2
    rw [fset_self] at H2
    have g0 := (lnIs_at H2).1
    iterate 2 (refine J_step rfl rfl ?_)
    refine J_putf rfl rfl rfl g0 rfl rfl (fun _ => rfl) rfl rfl ?_
    have H3 := lnIs_fld (F' := F) (E' := E) (Jn' := Jn + (crMin 0 (sPl F 0 / 4) (F 0) l).toInt64) H2 rfl
    refine J_heap (h2 := oj_up h9 a (lnObj a F E (Jn + (crMin 0 (sPl F 0 / 4) (F 0) l).toInt64))) rfl ?_
    generalize oj_up h9 a (lnObj a F E (Jn + (crMin 0 (sPl F 0 / 4) (F 0) l).toInt64)) = h3 at H3 ⊢
    have hL3 := lnIs_at H3
    obtain ⟨e30, e31, hC3⟩ := lnIs_at H3
    have hC3' := hC3
    obtain ⟨R3, ⟨f30, -⟩, -⟩ := hC3'
    clear e0 e1 hC f0 g0
    repeat (first | (refine J_step rfl rfl ?_) | (refine J_getf rfl rfl rfl (by assumption) rfl ?_))
    refine J_ic rfl (fun hq => absurd hq (oj_ccF (by decide))) (fun _ => ?_)
    repeat (first | (refine J_step rfl rfl ?_) | (refine J_getf rfl rfl rfl (by assumption) rfl ?_))
    refine J_cV rfl rfl rfl rfl rfl (by assumption) rfl rfl rfl rfl rfl rfl (c_placeOf (d := 0) hL3) ?_
    repeat (first | (refine J_step rfl rfl ?_) | (refine J_getf rfl rfl rfl (by assumption) rfl ?_))
    refine J_idiv rfl (by decide) ?_
    repeat (first | (refine J_step rfl rfl ?_) | (refine J_getf rfl rfl rfl (by assumption) rfl ?_))
    refine J_callV rfl rfl rfl rfl rfl (by assumption) rfl rfl rfl rfl (c_unload hC3) (Nat.le_refl _) (Nat.le_refl _) (fun E h9 q => by cases q.1) (fun v h9 q => ?_)
    obtain ⟨q1, q2⟩ := q
    cases q1
    have H4 := lnIs_cr H3 q2
    rw [fset_self] at H4
    have g0 := (lnIs_at H4).1
    iterate 2 (refine J_step rfl rfl ?_)
    refine J_putf rfl rfl rfl g0 rfl rfl (fun _ => rfl) rfl rfl ?_
    have H5 := lnIs_fld (F' := F) (E' := E) (Jn' := spJ F l Jn) H4 rfl
    refine J_heap (h2 := oj_up h9 a (lnObj a F E (spJ F l Jn))) rfl ?_
    generalize oj_up h9 a (lnObj a F E (spJ F l Jn)) = h5 at H5 ⊢
    have hL5 := lnIs_at H5
    obtain ⟨e50, e51, hC5⟩ := lnIs_at H5
    have hC5' := hC5
    obtain ⟨R5, ⟨f50, -⟩, -⟩ := hC5'
    clear e30 e31 hC3 f30 g0
    repeat (first | (refine J_step rfl rfl ?_) | (refine J_getf rfl rfl rfl (by assumption) rfl ?_))
    refine J_ic rfl (fun _ => ?_) (fun hq => absurd (oj_ccT (by decide)) hq)
    iterate 9 (first | (refine J_step rfl rfl ?_) | (refine J_getf rfl rfl rfl (by assumption) rfl ?_))
    refine J_putf rfl rfl rfl e50 rfl rfl (fun _ => rfl) rfl rfl ?_
    have H6 := lnIs_fld (F' := spA F l) (E' := E) (Jn' := spJ F l Jn) H5 rfl
    refine J_heap (h2 := oj_up h5 a (lnObj a (spA F l) E (spJ F l Jn))) rfl ?_
    generalize oj_up h5 a (lnObj a (spA F l) E (spJ F l Jn)) = h6 at H6 ⊢
    have hL6 := lnIs_at H6
    obtain ⟨e60, e61, hC6⟩ := lnIs_at H6
    have hC6' := hC6
    obtain ⟨R6, ⟨f60, -⟩, -⟩ := hC6'
    clear e50 e51 hC5 f50
    repeat (first | (refine J_step rfl rfl ?_) | (refine J_getf rfl rfl rfl (by assumption) rfl ?_))
    refine J_ic rfl (fun hq => absurd hq (oj_ccF (by decide))) (fun _ => ?_)
    repeat (first | (refine J_step rfl rfl ?_) | (refine J_getf rfl rfl rfl (by assumption) rfl ?_))
    refine J_cV rfl rfl rfl rfl rfl (by assumption) rfl rfl rfl rfl rfl rfl (c_placeOf (d := 0) hL6) ?_
    repeat (first | (refine J_step rfl rfl ?_) | (refine J_getf rfl rfl rfl (by assumption) rfl ?_))
    refine J_idiv rfl (by decide) ?_
    repeat (first | (refine J_step rfl rfl ?_) | (refine J_getf rfl rfl rfl (by assumption) rfl ?_))
    refine J_cV rfl rfl rfl rfl rfl (by assumption) rfl rfl rfl rfl rfl rfl (c_isUp (d := 0) hL6 hu) ?_
    repeat (first | (refine J_step rfl rfl ?_) | (refine J_getf rfl rfl rfl (by assumption) rfl ?_))
    refine J_callV rfl rfl rfl rfl rfl (by assumption) rfl rfl rfl rfl (c_load hC6) (Nat.le_refl _) (Nat.le_refl _) (fun E h9 q => by cases q.1) (fun v h9 q => ?_)
    obtain ⟨q1, q2⟩ := q
    cases q1
    have H7 := lnIs_cr H6 q2
    have hL7 := lnIs_at H7
    obtain ⟨e70, e71, hC7⟩ := lnIs_at H7
    have hC7' := hC7
    obtain ⟨R7, ⟨f70, -⟩, -⟩ := hC7'
    clear e60 e61 hC6 f60
    repeat (first | (refine J_step rfl rfl ?_) | (refine J_getf rfl rfl rfl (by assumption) rfl ?_))
    refine J_ic rfl (fun hq => absurd hq (oj_ccF (by decide))) (fun _ => ?_)
    repeat (first | (refine J_step rfl rfl ?_) | (refine J_getf rfl rfl rfl (by assumption) rfl ?_))
    refine J_cV rfl rfl rfl rfl rfl (by assumption) rfl rfl rfl rfl rfl rfl (c_placeOf (d := 0) hL7) ?_
    repeat (first | (refine J_step rfl rfl ?_) | (refine J_getf rfl rfl rfl (by assumption) rfl ?_))
    refine J_idiv rfl (by decide) ?_
    repeat (first | (refine J_step rfl rfl ?_) | (refine J_getf rfl rfl rfl (by assumption) rfl ?_))
    refine J_cV rfl rfl rfl rfl rfl (by assumption) rfl rfl rfl rfl rfl rfl (c_isUp (d := 0) hL7 hu) ?_
    repeat (first | (refine J_step rfl rfl ?_) | (refine J_getf rfl rfl rfl (by assumption) rfl ?_))
    refine J_callV rfl rfl rfl rfl rfl (by assumption) rfl rfl rfl rfl (c_load hC7) (Nat.le_refl _) (Nat.le_refl _) (fun E h9 q => by cases q.1) (fun v h9 q => ?_)
    obtain ⟨q1, q2⟩ := q
    cases q1
    have H8 := lnIs_cr H7 q2
    repeat (first | (refine J_step rfl rfl ?_) | (refine J_getf rfl rfl rfl (by assumption) rfl ?_))
    refine J_ic rfl (fun _ => ?_) (fun hq => absurd (oj_ccT (by decide)) hq)
    refine J_vret rfl rfl rfl rfl ⟨rfl, ?_⟩
    refine lnIs_F H8 ?_
    funext i
    unfold fset
    by_cases e : i = 12
    · rw [if_pos e, if_pos e]; rfl
    · rw [if_neg e, if_neg e, if_neg e]
  iterate 1 (refine J_step rfl rfl ?_)
  refine J_cV rfl rfl rfl rfl rfl (by assumption) rfl rfl rfl rfl rfl rfl (c_isAtEnds (d := 0) hL) ?_
  refine J_if (y := 0) rfl (fun hq => ?_) (fun hq => ?_)
  · have hb : sAtE F = false := by cases hb : sAtE F <;> simp_all [oj_cz, bI]
    rw [spF, spU, hb]
    exact part2 h1 F u H hu
  · have hb : sAtE F = true := by cases hb : sAtE F <;> simp_all [oj_cz, bI]
    rw [spF, spU, hb]
    iterate 3 (first | (refine J_step rfl rfl ?_) | (refine J_getf rfl rfl rfl (by assumption) rfl ?_))
    rw [hu]
    refine J_if (y := 0) rfl (fun hq2 => ?_) (fun hq2 => ?_)
    · have hb : u = true := by cases u <;> simp_all [oj_cz, bI]
      subst hb
      iterate 1 (refine J_step rfl rfl ?_)
      refine J_putf rfl rfl rfl e0 rfl rfl (fun _ => rfl) rfl rfl ?_
      exact part2 _ _ false (lnIs_fld (F' := fset F 5 (bI (!true))) (E' := E) (Jn' := Jn) H rfl) rfl
    · have hb : u = false := by cases u <;> simp_all [oj_cz, bI]
      subst hb
      iterate 2 (refine J_step rfl rfl ?_)
      refine J_putf rfl rfl rfl e0 rfl rfl (fun _ => rfl) rfl rfl ?_
      exact part2 _ _ true (lnIs_fld (F' := fset F 5 (bI (!false))) (E' := E) (Jn' := Jn) H rfl) rfl
