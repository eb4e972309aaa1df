def fset (F : Nat → Int32) (k : Nat) (v : Int32) : Nat → Int32 := fun i => if i = k then v else F i
theorem fset_at (F : Nat → Int32) (k : Nat) (v : Int32) : fset F k v k = v := if_pos rfl
theorem fset_ne {F : Nat → Int32} {k i : Nat} {v : Int32} (h : i ≠ k) : fset F k v i = F i := if_neg h
theorem fset_self (F : Nat → Int32) (k : Nat) : fset F k (F k) = F := by
  funext i
  unfold fset
  by_cases e : i = k
  · rw [if_pos e, e]
  · rw [if_neg e]
theorem lnPut_0 {h : AHp} {a : Nat} {F sl : Nat → Int32} {R : Nat → Nat → Int32} {c : Nat} {E Jn : Int64} : lnPut h a F sl R c E Jn a = .inr (2, [.ref (a + 1), .ref (a + 2), .int (F 0), .int (F 4), .int (F 5), .int (F 1), .int (F 2), .int (F 3), .int (F 6), .int (F 7), .int (F 8), .int (F 9), .long E, .long Jn]) := by unfold lnPut; rw [if_pos rfl]; rfl
theorem lnPut_1 {h : AHp} {a : Nat} {F sl : Nat → Int32} {R : Nat → Nat → Int32} {c : Nat} {E Jn : Int64} : lnPut h a F sl R c E Jn (a + 1) = .inl (0, 6, .inl sl) := by unfold lnPut; rw [if_neg (by omega), if_pos rfl]
theorem lnPut_cr {h : AHp} {a : Nat} {F sl : Nat → Int32} {R : Nat → Nat → Int32} {c : Nat} {E Jn : Int64} {x : Nat} (hx : a + 2 ≤ x) : lnPut h a F sl R c E Jn x = crPut h (a + 2) R c (F 12) x := by unfold lnPut; rw [if_neg (by omega), if_neg (by omega)]
theorem lnPut_c0 {h : AHp} {a : Nat} {F sl : Nat → Int32} {R : Nat → Nat → Int32} {c : Nat} {E Jn : Int64} : lnPut h a F sl R c E Jn (a + 2) = .inr (0, [.ref (a + 2 + 1), .ref (a + 2 + 2), .ref (a + 2 + 3), .ref (a + 2 + 4), .ref (a + 2 + 5), .ref (a + 2 + 6), .ref (a + 2 + 7), .int (nI c), .int (F 12)]) := (lnPut_cr (Nat.le_refl _)).trans crPut_0
theorem lnPut_ne {h : AHp} {a : Nat} {F sl : Nat → Int32} {R : Nat → Nat → Int32} {c : Nat} {E Jn : Int64} {x : Nat} (hx : x < a ∨ a + 9 < x) : lnPut h a F sl R c E Jn x = h x := by unfold lnPut; rw [if_neg (by omega), if_neg (by omega), crPut_ne (by omega)]
theorem lnPut_raw {h : AHp} {a : Nat} {F sl : Nat → Int32} {R : Nat → Nat → Int32} {c : Nat} {E Jn : Int64} (hc : c ≤ 20) : CrRaw (lnPut h a F sl R c E Jn) (a + 2) R c (F 12) := by
  obtain ⟨h0, h1, h2, h3, h4, h5, h6, h7, hc⟩ := crPut_raw (h := h) (a := a + 2) (R := R) (nb := F 12) hc
  exact ⟨(lnPut_cr (by omega)).trans h0, (lnPut_cr (by omega)).trans h1, (lnPut_cr (by omega)).trans h2, (lnPut_cr (by omega)).trans h3, (lnPut_cr (by omega)).trans h4, (lnPut_cr (by omega)).trans h5, (lnPut_cr (by omega)).trans h6, (lnPut_cr (by omega)).trans h7, hc⟩
theorem lnPut_at {h : AHp} {a : Nat} {F sl : Nat → Int32} {R : Nat → Nat → Int32} {l : List Row} {E Jn : Int64} (hR : RowsAt R l) (hl : l.length ≤ 20) : LnAt (lnPut h a F sl R l.length E Jn) a F sl l E Jn := ⟨lnPut_0, lnPut_1, R, lnPut_raw hl, hR⟩
theorem lnPut_self {h : AHp} {a : Nat} {F sl : Nat → Int32} {R : Nat → Nat → Int32} {c : Nat} {E Jn : Int64} (e0 : h a = lnObj a F E Jn) (e1 : h (a + 1) = .inl (0, 6, .inl sl)) (hC : CrRaw h (a + 2) R c (F 12)) : lnPut h a F sl R c E Jn = h := by
  funext x
  unfold lnPut
  by_cases e : x = a
  · rw [if_pos e, e, e0]
  · rw [if_neg e]
    by_cases q : x = a + 1
    · rw [if_pos q, q, e1]
    · rw [if_neg q, crPut_self hC]
theorem lnPut_fld {h : AHp} {a : Nat} {F F' sl : Nat → Int32} {R : Nat → Nat → Int32} {c : Nat} {E Jn E' Jn' : Int64} (h12 : F' 12 = F 12) : oj_up (lnPut h a F sl R c E Jn) a (lnObj a F' E' Jn') = lnPut h a F' sl R c E' Jn' := by
  funext x
  unfold oj_up lnPut
  by_cases e : x = a
  · rw [if_pos e, if_pos e]
  · rw [if_neg e, if_neg e, if_neg e, h12]
theorem lnPut_slp {h : AHp} {a : Nat} {F sl f : Nat → Int32} {R : Nat → Nat → Int32} {c : Nat} {E Jn : Int64} : oj_up (lnPut h a F sl R c E Jn) (a + 1) (.inl (0, 6, .inl f)) = lnPut h a F f R c E Jn := by
  funext x
  unfold oj_up lnPut
  by_cases e : x = a + 1
  · rw [if_pos e, if_neg (by omega), if_pos e]
  · rw [if_neg e, if_neg e, if_neg e]
theorem lnPut_crp {h : AHp} {a : Nat} {F sl : Nat → Int32} {R R' : Nat → Nat → Int32} {c c' : Nat} {E Jn : Int64} {nb : Int32} : crPut (lnPut h a F sl R c E Jn) (a + 2) R' c' nb = lnPut h a (fset F 12 nb) sl R' c' E Jn := by
  funext x
  by_cases e : x < a + 2 ∨ a + 2 + 7 < x
  · rw [crPut_ne e]
    unfold lnPut
    by_cases q : x = a
    · rw [if_pos q, if_pos q]; rfl
    · rw [if_neg q, if_neg q]
      by_cases z : x = a + 1
      · rw [if_pos z, if_pos z]
      · rw [if_neg z, if_neg z, crPut_ne e, crPut_ne e]
  · rw [lnPut_cr (by omega)]
    rw [show fset F 12 nb 12 = nb from rfl]
    unfold crPut
    by_cases q : x = a + 2
    · rw [if_pos q, if_pos q]
    · rw [if_neg q, if_neg q, if_pos (by omega), if_pos (by omega)]
theorem lnPut_put {h : AHp} {a : Nat} {F F' sl sl' : Nat → Int32} {R R' : Nat → Nat → Int32} {c c' : Nat} {E Jn E' Jn' : Int64} : lnPut (lnPut h a F sl R c E Jn) a F' sl' R' c' E' Jn' = lnPut h a F' sl' R' c' E' Jn' := by
  funext x
  by_cases e : x = a
  · subst e; rw [lnPut_0, lnPut_0]
  · by_cases q : x = a + 1
    · subst q; rw [lnPut_1, lnPut_1]
    · by_cases z : x < a ∨ a + 9 < x
      · rw [lnPut_ne z, lnPut_ne z, lnPut_ne z]
      · rw [lnPut_cr (by omega), lnPut_cr (by omega)]
        unfold crPut
        by_cases w : x = a + 2
        · rw [if_pos w, if_pos w]
        · rw [if_neg w, if_neg w, if_pos (by omega), if_pos (by omega)]
/-- the heap h with the line at a made to hold this -/
def lnIs (h : AHp) (a : Nat) (F sl : Nat → Int32) (l : List Row) (E Jn : Int64) (h' : AHp) : Prop := ∃ R, h' = lnPut h a F sl R l.length E Jn ∧ RowsAt R l ∧ l.length ≤ 20
theorem lnIs_at {h h' : AHp} {a : Nat} {F sl : Nat → Int32} {l : List Row} {E Jn : Int64} (H : lnIs h a F sl l E Jn h') : LnAt h' a F sl l E Jn := by
  obtain ⟨R, rfl, hR, hl⟩ := H
  exact lnPut_at hR hl
theorem lnIs_of {h : AHp} {a : Nat} {F sl : Nat → Int32} {l : List Row} {E Jn : Int64} (H : LnAt h a F sl l E Jn) : lnIs h a F sl l E Jn h := by
  obtain ⟨e0, e1, R, hC, hR⟩ := H
  exact ⟨R, (lnPut_self e0 e1 hC).symm, hR, hC.2.2.2.2.2.2.2.2⟩
theorem lnIs_ne {h h' : AHp} {a : Nat} {F sl : Nat → Int32} {l : List Row} {E Jn : Int64} (H : lnIs h a F sl l E Jn h') {x : Nat} (hx : x < a ∨ a + 9 < x) : h' x = h x := by
  obtain ⟨R, rfl, -⟩ := H
  exact lnPut_ne hx
theorem lnIs_cr {h h1 h2 : AHp} {a : Nat} {F sl : Nat → Int32} {l l2 : List Row} {E Jn : Int64} {nb : Int32} (H : lnIs h a F sl l E Jn h1) (H2 : crIs h1 (a + 2) l2 nb h2) : lnIs h a (fset F 12 nb) sl l2 E Jn h2 := by
  obtain ⟨R, rfl, hR, hl⟩ := H
  obtain ⟨R2, rfl, hR2, hl2⟩ := H2
  exact ⟨R2, lnPut_crp, hR2, hl2⟩
theorem lnIs_trans {h h1 h2 : AHp} {a : Nat} {F sl F2 sl2 : Nat → Int32} {l l2 : List Row} {E Jn E2 Jn2 : Int64} (H : lnIs h a F sl l E Jn h1) (H2 : lnIs h1 a F2 sl2 l2 E2 Jn2 h2) : lnIs h a F2 sl2 l2 E2 Jn2 h2 := by
  obtain ⟨R, rfl, -⟩ := H
  obtain ⟨R2, rfl, hR2, hl2⟩ := H2
  exact ⟨R2, lnPut_put, hR2, hl2⟩
theorem lnIs_fld {h h1 : AHp} {a : Nat} {F F' sl : Nat → Int32} {l : List Row} {E Jn E' Jn' : Int64} (H : lnIs h a F sl l E Jn h1) (h12 : F' 12 = F 12) : lnIs h a F' sl l E' Jn' (oj_up h1 a (lnObj a F' E' Jn')) := by
  obtain ⟨R, rfl, hR, hl⟩ := H
  exact ⟨R, lnPut_fld h12, hR, hl⟩
theorem lnIs_slp {h h1 : AHp} {a : Nat} {F sl f : Nat → Int32} {l : List Row} {E Jn : Int64} (H : lnIs h a F sl l E Jn h1) : lnIs h a F f l E Jn (oj_up h1 (a + 1) (.inl (0, 6, .inl f))) := by
  obtain ⟨R, rfl, hR, hl⟩ := H
  exact ⟨R, lnPut_slp, hR, hl⟩
theorem lnIs_F {h h1 : AHp} {a : Nat} {F F' sl : Nat → Int32} {l : List Row} {E Jn : Int64} (H : lnIs h a F sl l E Jn h1) (e : F = F') : lnIs h a F' sl l E Jn h1 := e ▸ H
set_option maxRecDepth 100000 in
set_option maxHeartbeats 2000000 in
theorem c_letCome {h h1 : AHp} {a : Nat} {F sl : Nat → Int32} {l : List Row} {E Jn : Int64} {w v1 v2 : Int32} (H : lnIs h a F sl l E Jn h1) (hl : l.length < 20) : JM mi_X2_letCome 1 0 0 [.ref a, .int w, .int v1, .int v2] h1 (fun r h' => r = .inl (some (.int (F 6))) ∧ lnIs h a (fset F 6 (F 6 + 1)) sl (l ++ [(F 6, w, v1, v2, F 0, -1, 0)]) E Jn h') := by
  obtain ⟨e0, e1, hC⟩ := lnIs_at H
  have hC' := hC
  obtain ⟨R, ⟨f0, -⟩, -⟩ := hC'
  refine JM_of gd_X2_letCome rfl (by decide +kernel) (Nat.le_of_ble_eq_true rfl) (oj_cats rfl) (by decide) ?_
  repeat (first | (refine J_step rfl rfl ?_) | (refine J_getf rfl rfl rfl (by assumption) rfl ?_))
  refine J_callV rfl rfl rfl rfl rfl (by assumption) rfl rfl rfl rfl (c_append (d := 0) hC hl) (Nat.le_refl _) (Nat.le_refl _) (fun E h9 q => by cases q.1) (fun v h9 q => ?_)
  obtain ⟨q1, q2⟩ := q
  cases q1
  have H2 := lnIs_cr H q2
  rw [fset_self] at H2
  have g0 := (lnIs_at H2).1
  iterate 5 (first | (refine J_step rfl rfl ?_) | (refine J_getf rfl rfl rfl (by assumption) rfl ?_))
  refine J_putf rfl rfl rfl g0 rfl rfl (fun _ => rfl) rfl rfl ?_
  have H3 := lnIs_fld (F' := fset F 6 (F 6 + 1)) (E' := E) (Jn' := Jn) H2 rfl
  repeat (first | (refine J_step rfl rfl ?_) | (refine J_getf rfl rfl rfl (by assumption) rfl ?_))
  exact J_iret rfl rfl rfl rfl ⟨rfl, H3⟩
set_option maxRecDepth 100000 in
set_option maxHeartbeats 2000000 in
theorem c_replaceCapacity {d : Nat} {h h1 : AHp} {a : Nat} {F sl : Nat → Int32} {l : List Row} {E Jn : Int64} {v : Int32} (H : lnIs h a F sl l E Jn h1) : JM mi_X2_replaceCapacity d 0 0 [.ref a, .int v] h1 (fun r h' => r = .inl (some (.int (F 1))) ∧ lnIs h a (fset F 1 v) sl l E Jn h') := by
  obtain ⟨e0, e1, hC⟩ := lnIs_at H
  refine JM_of gd_X2_replaceCapacity rfl (by decide +kernel) (Nat.le_of_ble_eq_true rfl) (oj_cats rfl) (by decide) ?_
  repeat (first | (refine J_step rfl rfl ?_) | (refine J_getf rfl rfl rfl (by assumption) rfl ?_))
  refine J_putf rfl rfl rfl e0 rfl rfl (fun _ => rfl) rfl rfl ?_
  have H3 := lnIs_fld (F' := fset F 1 v) (E' := E) (Jn' := Jn) H rfl
  repeat (first | (refine J_step rfl rfl ?_) | (refine J_getf rfl rfl rfl (by assumption) rfl ?_))
  exact J_iret rfl rfl rfl rfl ⟨rfl, H3⟩
set_option maxRecDepth 100000 in
set_option maxHeartbeats 2000000 in
theorem c_replaceSlope {h h1 : AHp} {a : Nat} {F sl : Nat → Int32} {l : List Row} {E Jn : Int64} {g v : Int32} (H : lnIs h a F sl l E Jn h1) (hg : 0 ≤ g ∧ g < 6) : JM mi_X2_replaceSlope 2 0 0 [.ref a, .int g, .int v] h1 (fun r h' => r = .inl (some (.int (sSl sl g))) ∧ lnIs h a F (upd sl g.toNatClampNeg v) l E Jn h') := by
  have hL := lnIs_at H
  obtain ⟨e0, e1, hC⟩ := lnIs_at H
  refine JM_of gd_X2_replaceSlope rfl (by decide +kernel) (Nat.le_of_ble_eq_true rfl) (oj_cats rfl) (by decide) ?_
  repeat (first | (refine J_step rfl rfl ?_) | (refine J_getf rfl rfl rfl (by assumption) rfl ?_))
  refine J_cV rfl rfl rfl rfl rfl (by assumption) rfl rfl rfl rfl rfl rfl (c_slopeOf hL) ?_
  repeat (first | (refine J_step rfl rfl ?_) | (refine J_getf rfl rfl rfl (by assumption) rfl ?_))
  refine J_cS rfl rfl rfl rfl rfl rfl rfl rfl rfl rfl rfl (c_isSegment (d := 0)) ?_
  refine J_if (y := 0) rfl (fun hq => absurd hq (by simp [oj_cz, bI, hg])) (fun hq => ?_)
  repeat (first | (refine J_step rfl rfl ?_) | (refine J_getf rfl rfl rfl (by assumption) rfl ?_))
  refine J_iast rfl e1 (vp_in_6 rfl hg) ?_
  have H3 := lnIs_slp (f := upd sl g.toNatClampNeg v) H
  repeat (first | (refine J_step rfl rfl ?_) | (refine J_getf rfl rfl rfl (by assumption) rfl ?_))
  exact J_iret rfl rfl rfl rfl ⟨rfl, H3⟩
set_option maxRecDepth 100000 in
set_option maxHeartbeats 2000000 in
theorem c_coolDown {h h1 : AHp} {a : Nat} {F sl : Nat → Int32} {l : List Row} {E Jn : Int64} (H : lnIs h a F sl l E Jn h1) : JM mi_X2_coolDown 1 0 0 [.ref a] h1 (fun r h' => r = .inl none ∧ lnIs h a (if (if 0 < F 2 - 5 then F 2 - 5 else 0) ≤ 50 then fset (fset F 2 (if 0 < F 2 - 5 then F 2 - 5 else 0)) 3 0 else fset F 2 (if 0 < F 2 - 5 then F 2 - 5 else 0)) sl l E Jn h') := by
  obtain ⟨e0, e1, hC⟩ := lnIs_at H
  refine JM_of gd_X2_coolDown rfl (by decide +kernel) (Nat.le_of_ble_eq_true rfl) (oj_cats rfl) (by decide) ?_
  repeat (first | (refine J_step rfl rfl ?_) | (refine J_getf rfl rfl rfl (by assumption) rfl ?_))
  refine J_max rfl (by decide +kernel) rfl rfl (Nat.le_refl _) (Nat.le_refl _) ?_
  refine J_putf rfl rfl rfl e0 rfl rfl (fun _ => rfl) rfl rfl ?_
  have H3 := lnIs_fld (F' := fset F 2 (if 0 < F 2 - 5 then F 2 - 5 else 0)) (E' := E) (Jn' := Jn) H rfl
  have g0 := (lnIs_at H3).1
  generalize (if 0 < F 2 - 5 then F 2 - 5 else 0) = x at H3 g0 ⊢
  refine J_heap (h2 := oj_up h1 a (lnObj a (fset F 2 x) E Jn)) rfl ?_
  generalize oj_up h1 a (lnObj a (fset F 2 x) E Jn) = h2 at H3 g0 ⊢
  iterate 3 (first | (refine J_step rfl rfl ?_) | (refine J_getf rfl rfl rfl g0 rfl ?_))
  refine J_ic rfl (fun hq => ?_) (fun hq => ?_)
  · have hq : 50 < x := hq
    refine J_vret rfl rfl rfl rfl ⟨rfl, ?_⟩
    rw [if_neg (Int32.not_le.mpr hq)]
    exact H3
  · have hq : x ≤ 50 := Int32.not_lt.mp hq
    iterate 2 (refine J_step rfl rfl ?_)
    refine J_putf rfl rfl rfl g0 rfl rfl (fun _ => rfl) rfl rfl ?_
    refine J_vret rfl rfl rfl rfl ⟨rfl, ?_⟩
    rw [if_pos hq]
    exact lnIs_fld (F' := fset (fset F 2 x) 3 0) (E' := E) (Jn' := Jn) H3 rfl
