def uFm (a : Int32) (u : Bool) (tg : Int32) : Int32 := if u then (if a ≤ tg then tg - a else 48 - a - tg) else (if tg ≤ a then a - tg else a + tg)
def uNx (a : Int32) (u : Bool) : Int32 := a + if u then 1 else -1
def uUp (a : Int32) (u : Bool) : Bool := if a = 0 ∨ a = 24 then !u else u
def uMv (tg : Int32) : Nat → Int32 → Bool → Nat
  | 0, _, _ => 0
  | m + 1, a, u => if a = tg then 0 else uMv tg m (uNx a u) (uUp (uNx a u) u) + 1
theorem uMv_le (tg : Int32) : ∀ m a u, uMv tg m a u ≤ m
  | 0, _, _ => Nat.le_refl _
  | m + 1, a, u => by
    unfold uMv
    split
    · exact Nat.zero_le _
    · exact Nat.succ_le_succ (uMv_le tg m _ _)
set_option maxRecDepth 100000 in
set_option maxHeartbeats 2000000 in
theorem c_unitsByFormula {h : AHp} {a : Nat} {F sl : Nat → Int32} {l : List Row} {E Jn : Int64} {cab x : Int32} {u : Bool} (hL : LnAt h a F sl l E Jn) (hu : F 5 = bI u) : JM mi_X2_unitsByFormula 1 0 0 [.ref a, .int cab, .int x] h (oj_is (.inl (some (.int (uFm (sPl F cab) (sUp u cab) (x * 4))))) h) := by
  have e0 := hL.1
  refine JM_of gd_X2_unitsByFormula rfl (by decide +kernel) (Nat.le_of_ble_eq_true rfl) (oj_cats rfl) (by decide) ?_
  repeat' (first | (refine J_step rfl rfl ?_) | (refine J_getf rfl rfl rfl (by assumption) rfl ?_) | (refine J_cV rfl rfl rfl rfl rfl (by assumption) rfl rfl rfl rfl rfl rfl (c_placeOf (d := 0) hL) ?_) | (refine J_cV rfl rfl rfl rfl rfl (by assumption) rfl rfl rfl rfl rfl rfl (c_isUp (d := 0) hL hu) ?_) | (refine J_if (y := 0) rfl (fun _ => ?_) (fun _ => ?_)) | (refine J_ic rfl (fun _ => ?_) (fun _ => ?_)))
  all_goals (refine J_iret rfl rfl rfl rfl ⟨ri ?_, rfl⟩)
  all_goals simp_all [oj_cz, oj_cc, ne_bI0, ltn, -Int32.not_le, -Int32.not_lt, -ne_eq, uFm]
theorem uUp_if {a : Int32} {u : Bool} (h : a = 0 ∨ a = 24) : uUp a u = !u := if_pos h
theorem uUp_no {a : Int32} {u : Bool} (h : ¬ (a = 0 ∨ a = 24)) : uUp a u = u := if_neg h
set_option maxRecDepth 100000 in
set_option maxHeartbeats 2000000 in
theorem c_unitsByMoving {h : AHp} {a : Nat} {F sl : Nat → Int32} {l : List Row} {E Jn : Int64} {cab x : Int32} {u : Bool} (hL : LnAt h a F sl l E Jn) (hu : F 5 = bI u) : JM mi_X2_unitsByMoving 1 0 0 [.ref a, .int cab, .int x] h (oj_is (.inl (some (.int (nI (uMv (x * 4) 48 (sPl F cab) (sUp u cab)))))) h) := by
  have e0 := hL.1
  refine JM_of gd_X2_unitsByMoving rfl (by decide +kernel) (Nat.le_of_ble_eq_true rfl) (oj_cats rfl) (by decide) ?_
  iterate 2 (first | (refine J_step rfl rfl ?_) | (refine J_getf rfl rfl rfl (by assumption) rfl ?_))
  refine J_cV rfl rfl rfl rfl rfl (by assumption) rfl rfl rfl rfl rfl rfl (c_placeOf (d := 0) hL) ?_
  iterate 3 (first | (refine J_step rfl rfl ?_) | (refine J_getf rfl rfl rfl (by assumption) rfl ?_))
  refine J_cV rfl rfl rfl rfl rfl (by assumption) rfl rfl rfl rfl rfl rfl (c_isUp (d := 0) hL hu) ?_
  have loop : ∀ m j p v w, m + j = 48 → w = j + uMv (x * 4) m p v → J mi_X2_unitsByMoving 1 0 0 (oj_is (.inl (some (.int (nI w)))) h) 0 0 21 [some (.ref a), some (.int cab), some (.int x), some (.int p), some (.int (bI v)), some (.int (x * 4)), some (.int (nI j))] [] h := by
    intro m
    induction m with
    | zero =>
      intro j p v w hj hw
      obtain rfl : j = 48 := by omega
      rw [hw]
      repeat (first | (refine J_step rfl rfl ?_) | (refine J_getf rfl rfl rfl (by assumption) rfl ?_))
      refine J_ic rfl (fun hq => ?_) (fun hq => ?_)
      · repeat (first | (refine J_step rfl rfl ?_) | (refine J_getf rfl rfl rfl (by assumption) rfl ?_))
        exact J_iret rfl rfl rfl rfl ⟨rfl, rfl⟩
      · repeat (first | (refine J_step rfl rfl ?_) | (refine J_getf rfl rfl rfl (by assumption) rfl ?_))
        refine J_ic rfl (fun hq => ?_) (fun hq => absurd (oj_ccT (by decide)) hq)
        repeat (first | (refine J_step rfl rfl ?_) | (refine J_getf rfl rfl rfl (by assumption) rfl ?_))
        exact J_iret rfl rfl rfl rfl ⟨rfl, rfl⟩
    | succ m ih =>
      intro j p v w hj hw
      unfold uMv at hw
      repeat (first | (refine J_step rfl rfl ?_) | (refine J_getf rfl rfl rfl (by assumption) rfl ?_))
      refine J_ic rfl (fun hq => ?_) (fun hq => ?_)
      · rw [if_pos (show p = x * 4 from hq)] at hw
        repeat (first | (refine J_step rfl rfl ?_) | (refine J_getf rfl rfl rfl (by assumption) rfl ?_))
        exact J_iret rfl rfl rfl rfl ⟨ri (by rw [hw]; rfl), rfl⟩
      · rw [if_neg (show ¬ p = x * 4 from hq)] at hw
        repeat (first | (refine J_step rfl rfl ?_) | (refine J_getf rfl rfl rfl (by assumption) rfl ?_))
        refine J_ic rfl (fun hq => absurd (show nI 48 ≤ nI j from hq) (nI_ge (by omega) (by omega))) (fun hq => ?_)
        have fin : ∀ v', v' = uUp (uNx p v) v → J mi_X2_unitsByMoving 1 0 0 (oj_is (.inl (some (.int (nI w)))) h) 0 0 69 [some (.ref a), some (.int cab), some (.int x), some (.int (uNx p v)), some (.int (bI v')), some (.int (x * 4)), some (.int (nI j))] [] h := by
          intro v' hv
          subst hv
          have hs := ih (j + 1) (uNx p v) (uUp (uNx p v) v) w (by omega) (by omega)
          rw [nI_succ] at hs
          iterate 2 (first | (refine J_step rfl rfl ?_) | (refine J_getf rfl rfl rfl (by assumption) rfl ?_))
          exact hs
        have mid : J mi_X2_unitsByMoving 1 0 0 (oj_is (.inl (some (.int (nI w)))) h) 0 0 47 [some (.ref a), some (.int cab), some (.int x), some (.int (uNx p v)), some (.int (bI v)), some (.int (x * 4)), some (.int (nI j))] [] h := by
          have flip : uUp (uNx p v) v = !v → J mi_X2_unitsByMoving 1 0 0 (oj_is (.inl (some (.int (nI w)))) h) 0 0 57 [some (.ref a), some (.int cab), some (.int x), some (.int (uNx p v)), some (.int (bI v)), some (.int (x * 4)), some (.int (nI j))] [] h := by
            intro hv
            rw [hv] at fin
            iterate 1 (refine J_step rfl rfl ?_)
            refine J_if (y := 0) rfl (fun hq => ?_) (fun hq => ?_)
            · have hb : v = true := by cases v <;> simp_all [oj_cz, bI]
              subst hb
              iterate 2 (refine J_step rfl rfl ?_)
              exact fin false rfl
            · have hb : v = false := by cases v <;> simp_all [oj_cz, bI]
              subst hb
              iterate 3 (refine J_step rfl rfl ?_)
              exact fin true rfl
          iterate 1 (refine J_step rfl rfl ?_)
          refine J_if (y := 0) rfl (fun hq => ?_) (fun hq => ?_)
          · exact flip (uUp_if (Or.inl hq))
          · have h0 : ¬ uNx p v = 0 := hq
            iterate 2 (refine J_step rfl rfl ?_)
            refine J_ic rfl (fun hq => ?_) (fun hq => ?_)
            · have h1 : ¬ uNx p v = 24 := hq
              exact fin v (uUp_no (fun z => z.elim h0 h1)).symm
            · have h1 : uNx p v = 24 := by simpa [oj_cc] using hq
              exact flip (uUp_if (Or.inr h1))
        iterate 2 (refine J_step rfl rfl ?_)
        refine J_if (y := 0) rfl (fun hq => ?_) (fun hq => ?_)
        · have hb : v = false := by cases v <;> simp_all [oj_cz, bI]
          subst hb
          iterate 3 (refine J_step rfl rfl ?_)
          exact mid
        · have hb : v = true := by cases v <;> simp_all [oj_cz, bI]
          subst hb
          iterate 4 (refine J_step rfl rfl ?_)
          exact mid
  iterate 7 (first | (refine J_step rfl rfl ?_) | (refine J_getf rfl rfl rfl (by assumption) rfl ?_))
  exact loop 48 0 _ _ _ rfl (Nat.zero_add _).symm
def sWt (l : List Row) : Nat → Int32
  | 0 => 0
  | n + 1 => sWt l n + nI (crWtg l (nI n))
def sParts (F : Nat → Int32) (l : List Row) : Int32 := sWt l 7 + (nI (crRid l 0) + nI (crRid l 1)) + F 7 + F 8
set_option maxRecDepth 100000 in
set_option maxHeartbeats 2000000 in
theorem c_sumOfParts {h : AHp} {a : Nat} {F sl : Nat → Int32} {l : List Row} {E Jn : Int64} (hL : LnAt h a F sl l E Jn) : JM mi_X2_sumOfParts 2 0 0 [.ref a] h (oj_is (.inl (some (.int (sParts F l)))) h) := by
  obtain ⟨e0, e1, hC⟩ := hL
  have hC' := hC
  obtain ⟨R, ⟨f0, -⟩, -⟩ := hC'
  refine JM_of gd_X2_sumOfParts rfl (by decide +kernel) (Nat.le_of_ble_eq_true rfl) (oj_cats rfl) (by decide) ?_
  have loop : ∀ m j, m + j = 7 → J mi_X2_sumOfParts 2 0 0 (oj_is (.inl (some (.int (sParts F l)))) h) 0 0 4 [some (.ref a), some (.int (sWt l j)), some (.int (nI j))] [] h := by
    intro m
    induction m with
    | zero =>
      intro j hj
      obtain rfl : j = 7 := by omega
      repeat (first | (refine J_step rfl rfl ?_) | (refine J_getf rfl rfl rfl (by assumption) rfl ?_))
      refine J_ic rfl (fun hq => ?_) (fun hq => absurd (oj_ccT (by decide)) hq)
      repeat' (first | (refine J_step rfl rfl ?_) | (refine J_getf rfl rfl rfl (by assumption) rfl ?_) | (refine J_cV rfl rfl rfl rfl rfl (by assumption) rfl rfl rfl rfl rfl rfl (c_countRiders (d := 0) hC) ?_) | (refine J_if (y := 0) rfl (fun _ => ?_) (fun _ => ?_)) | (refine J_ic rfl (fun _ => ?_) (fun _ => ?_)))
      exact J_iret rfl rfl rfl rfl ⟨rfl, rfl⟩
    | succ m ih =>
      intro j hj
      repeat (first | (refine J_step rfl rfl ?_) | (refine J_getf rfl rfl rfl (by assumption) rfl ?_))
      refine J_ic rfl (fun hq => absurd (show nI 7 ≤ nI j from hq) (nI_ge (by omega) (by omega))) (fun hq => ?_)
      repeat (first | (refine J_step rfl rfl ?_) | (refine J_getf rfl rfl rfl (by assumption) rfl ?_))
      refine J_cV rfl rfl rfl rfl rfl (by assumption) rfl rfl rfl rfl rfl rfl (c_countWaiting hC) ?_
      have hs := ih (j + 1) (by omega)
      rw [nI_succ] at hs
      iterate 4 (first | (refine J_step rfl rfl ?_) | (refine J_getf rfl rfl rfl (by assumption) rfl ?_))
      exact hs
  iterate 4 (first | (refine J_step rfl rfl ?_) | (refine J_getf rfl rfl rfl (by assumption) rfl ?_))
  exact loop 7 0 rfl
