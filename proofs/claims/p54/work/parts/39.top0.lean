section OJ39
variable {μ : MI} {d mc ms : Nat} {Q : QT} {k n pc : Nat} {ls : List (Option Value)} {st : List Value} {h : AHp} {i : Instr} {len nx : Nat} {c : Int32} {t : Nat}
/-- a static call that throws, in a method that catches nothing -/
theorem J_xS {μ' : MI} {idx d' na kd : Nat} {As rest : List Value} {E : String} (he : mT μ pc = some (.invokestatic idx, len, nx, c, t)) (hi : Nat.blt idx 1024 = true) (hct : oj_cl (mO μ * 1024 + idx) = some (kd, μ')) (hna : oj_na (mO μ * 1024 + idx) = some na) (hkd : (Nat.beq kd 1 || Nat.beq kd 3) = true) (hsp : oj_spS st na = some (As, rest)) (hal : mA μ' = false) (hd : Nat.ble (d' + 1) d = true) (hcat : Nat.ble ((rest.map fun v => v.category).sum) 8 = true) (hmc : Nat.ble (k + 1) mc = true) (hms : Nat.ble (n + 6) ms = true) (hH : mH μ = []) (hA : mA μ = false)
    (hM : JM μ' d' 1 6 As h (oj_is (.inr E) h)) (hq : Q (.inr E) h) : J μ d mc ms Q k n pc ls st h :=
  J_callS he hi hct hna (by rcases Bool.or_eq_true_iff.mp hkd with q | q; exact Or.inl (Nat.eq_of_beq_eq_true q); exact Or.inr (Nat.eq_of_beq_eq_true q)) hsp hal hd hcat hM (Nat.le_of_ble_eq_true hmc) (Nat.le_of_ble_eq_true hms) (fun E9 h9 q => by obtain ⟨q1, q2⟩ := q; cases q1; subst q2; exact Or.inl ⟨hH, hA, hq⟩) (fun v9 h9 q => by cases q.1)
theorem J_xV {μ' : MI} {idx d' na a : Nat} {fs As rest : List Value} {E : String} (he : mT μ pc = some (.invokevirtual idx, len, nx, c, t)) (hi : Nat.blt idx 1024 = true) (hct : oj_cl (mO μ * 1024 + idx) = some (0, μ')) (hna : oj_na (mO μ * 1024 + idx) = some na) (hsp : oj_spV st na = some (As, a, rest)) (ha : h a = .inr (mO μ', fs)) (hmo : Nat.blt (mO μ') 7 = true) (hal : mA μ' = false) (hd : Nat.ble (d' + 1) d = true) (hcat : Nat.ble ((rest.map fun v => v.category).sum) 8 = true) (hmc : Nat.ble (k + 1) mc = true) (hms : Nat.ble (n + 6) ms = true) (hH : mH μ = []) (hA : mA μ = false)
    (hM : JM μ' d' 1 6 (.ref a :: As) h (oj_is (.inr E) h)) (hq : Q (.inr E) h) : J μ d mc ms Q k n pc ls st h :=
  J_callV he hi hct hna hsp ha hmo hal hd hcat hM (Nat.le_of_ble_eq_true hmc) (Nat.le_of_ble_eq_true hms) (fun E9 h9 q => by obtain ⟨q1, q2⟩ := q; cases q1; subst q2; exact Or.inl ⟨hH, hA, hq⟩) (fun v9 h9 q => by cases q.1)
end OJ39
set_option maxRecDepth 100000 in
set_option maxHeartbeats 2000000 in
theorem c_reqCab {d : Nat} {h : AHp} {v : Int32} (hc : 0 ≤ v ∧ v < 2) : JM mi_X5_requireCabin d 0 0 [.int v] h (oj_is (.inl none) h) := by
  refine JM_of gd_X5_requireCabin rfl (by decide +kernel) (Nat.le_of_ble_eq_true rfl) (oj_cats rfl) (by decide) ?_
  repeat (first | (refine J_step rfl rfl ?_) | (refine J_getf rfl rfl rfl (by assumption) rfl ?_))
  refine J_if (y := 0) rfl (fun hq => absurd hc.1 (Int32.not_le.mpr hq)) (fun hq => ?_)
  repeat (first | (refine J_step rfl rfl ?_) | (refine J_getf rfl rfl rfl (by assumption) rfl ?_))
  refine J_ic rfl (fun hq => ?_) (fun hq => absurd hc.2 hq)
  exact J_vret rfl rfl rfl rfl ⟨rfl, rfl⟩
set_option maxRecDepth 100000 in
set_option maxHeartbeats 2000000 in
theorem c_reqCabX {h : AHp} {v : Int32} (hc : ¬ (0 ≤ v ∧ v < 2)) : JM mi_X5_requireCabin 6 1 6 [.int v] h (oj_is (.inr "java/lang/IndexOutOfBoundsException") h) := by
  refine JM_of gd_X5_requireCabin rfl (by decide +kernel) (Nat.le_of_ble_eq_true rfl) (oj_cats rfl) (by decide) ?_
  repeat (first | (refine J_step rfl rfl ?_) | (refine J_getf rfl rfl rfl (by assumption) rfl ?_))
  refine J_if (y := 0) rfl (fun hq => ?_) (fun hq => ?_)
  · first | (refine J_throwW (E := "java/lang/IndexOutOfBoundsException") (text := "there is no such cabin") (sn := 6) rfl rfl rfl rfl rfl rfl (by decide +kernel) (by decide +kernel) rfl rfl rfl rfl (Nat.le_of_ble_eq_true rfl) (Nat.le_of_ble_eq_true rfl) ?_)
    exact ⟨rfl, rfl⟩
  · repeat (first | (refine J_step rfl rfl ?_) | (refine J_getf rfl rfl rfl (by assumption) rfl ?_))
    refine J_ic rfl (fun hq2 => absurd ⟨Int32.not_lt.mp hq, hq2⟩ hc) (fun hq => ?_)
    first | (refine J_throwW (E := "java/lang/IndexOutOfBoundsException") (text := "there is no such cabin") (sn := 6) rfl rfl rfl rfl rfl rfl (by decide +kernel) (by decide +kernel) rfl rfl rfl rfl (Nat.le_of_ble_eq_true rfl) (Nat.le_of_ble_eq_true rfl) ?_)
    exact ⟨rfl, rfl⟩
set_option maxRecDepth 100000 in
set_option maxHeartbeats 2000000 in
theorem c_reqSt {d : Nat} {h : AHp} {v : Int32} (hc : 0 ≤ v ∧ v < 7) : JM mi_X5_requireStation 1 0 0 [.int v] h (oj_is (.inl none) h) := by
  refine JM_of gd_X5_requireStation rfl (by decide +kernel) (Nat.le_of_ble_eq_true rfl) (oj_cats rfl) (by decide) ?_
  repeat (first | (refine J_step rfl rfl ?_) | (refine J_getf rfl rfl rfl (by assumption) rfl ?_))
  refine J_cS rfl rfl rfl rfl rfl rfl rfl rfl rfl rfl rfl (c_isStation (d := 0)) ?_
  refine J_if (y := 0) rfl (fun hq => ?_) (fun hq => absurd (show bI (decide (0 ≤ v ∧ v < 7)) = 0 from Classical.not_not.mp hq) (by rw [decide_eq_true hc]; decide))
  exact J_vret rfl rfl rfl rfl ⟨rfl, rfl⟩
set_option maxRecDepth 100000 in
set_option maxHeartbeats 2000000 in
theorem c_reqStX {h : AHp} {v : Int32} (hc : ¬ (0 ≤ v ∧ v < 7)) : JM mi_X5_requireStation 6 1 6 [.int v] h (oj_is (.inr "java/lang/IndexOutOfBoundsException") h) := by
  refine JM_of gd_X5_requireStation rfl (by decide +kernel) (Nat.le_of_ble_eq_true rfl) (oj_cats rfl) (by decide) ?_
  repeat (first | (refine J_step rfl rfl ?_) | (refine J_getf rfl rfl rfl (by assumption) rfl ?_))
  refine J_cS rfl rfl rfl rfl rfl rfl rfl rfl rfl rfl rfl (c_isStation (d := 0)) ?_
  refine J_if (y := 0) rfl (fun hq => absurd (show bI (decide (0 ≤ v ∧ v < 7)) = 0 by rw [decide_eq_false hc]; rfl) hq) (fun hq => ?_)
  first | (refine J_throwW (E := "java/lang/IndexOutOfBoundsException") (text := "there is no such station") (sn := 8) rfl rfl rfl rfl rfl rfl (by decide +kernel) (by decide +kernel) rfl rfl rfl rfl (Nat.le_of_ble_eq_true rfl) (Nat.le_of_ble_eq_true rfl) ?_)
  exact ⟨rfl, rfl⟩
set_option maxRecDepth 100000 in
set_option maxHeartbeats 2000000 in
theorem c_reqRow {d : Nat} {h : AHp} {i : Nat} (hi : i < 20) : JM mi_X5_requireRow d 0 0 [.int (nI i)] h (oj_is (.inl (some (.int (nI i)))) h) := by
  refine JM_of gd_X5_requireRow rfl (by decide +kernel) (Nat.le_of_ble_eq_true rfl) (oj_cats rfl) (by decide) ?_
  repeat (first | (refine J_step rfl rfl ?_) | (refine J_getf rfl rfl rfl (by assumption) rfl ?_))
  refine J_if (y := 0) rfl (fun hq => absurd hq (nI_pos (by omega))) (fun hq => ?_)
  repeat (first | (refine J_step rfl rfl ?_) | (refine J_getf rfl rfl rfl (by assumption) rfl ?_))
  refine J_ic rfl (fun hq => ?_) (fun hq => absurd (show nI i < nI 20 from nI_lt hi (by omega)) hq)
  repeat (first | (refine J_step rfl rfl ?_) | (refine J_getf rfl rfl rfl (by assumption) rfl ?_))
  exact J_iret rfl rfl rfl rfl ⟨rfl, rfl⟩
set_option maxRecDepth 100000 in
set_option maxHeartbeats 2000000 in
theorem c_reqRowX {h : AHp} : JM mi_X5_requireRow 6 1 6 [.int (-1)] h (oj_is (.inr "java/util/NoSuchElementException") h) := by
  refine JM_of gd_X5_requireRow rfl (by decide +kernel) (Nat.le_of_ble_eq_true rfl) (oj_cats rfl) (by decide) ?_
  repeat (first | (refine J_step rfl rfl ?_) | (refine J_getf rfl rfl rfl (by assumption) rfl ?_))
  refine J_if (y := 0) rfl (fun hq => ?_) (fun hq => absurd (show (-1 : Int32) < 0 by decide) hq)
  first | (refine J_throwNW (text := "there is no such picker") (sn := 4) rfl rfl rfl rfl rfl rfl (by decide +kernel) rfl rfl rfl rfl (Nat.le_of_ble_eq_true rfl) (Nat.le_of_ble_eq_true rfl) ?_)
  exact ⟨rfl, rfl⟩
/-- which exception a fault is -/
def xOf (f : Int32) : String := if f = 1 then "java/lang/IndexOutOfBoundsException" else if f = 2 then "java/lang/IllegalArgumentException" else if f = 3 then "java/lang/IllegalStateException" else if f = 4 then "java/lang/UnsupportedOperationException" else "java/util/NoSuchElementException"
set_option maxRecDepth 100000 in
set_option maxHeartbeats 2000000 in
theorem c_refuse {d : Nat} {h : AHp} : JM mi_X5_refuse d 0 0 [.int 0] h (oj_is (.inl none) h) := by
  refine JM_of gd_X5_refuse rfl (by decide +kernel) (Nat.le_of_ble_eq_true rfl) (oj_cats rfl) (by decide) ?_
  repeat (first | (refine J_step rfl rfl ?_) | (refine J_getf rfl rfl rfl (by assumption) rfl ?_))
  refine J_tswOut (tgt := 91) rfl (by decide) (by decide) ?_
  exact J_vret rfl rfl rfl rfl ⟨rfl, rfl⟩
set_option maxRecDepth 100000 in
set_option maxHeartbeats 2000000 in
theorem c_refuseX {h : AHp} {f : Int32} (hf : f = 1 ∨ f = 2 ∨ f = 3 ∨ f = 4 ∨ f = 5) : JM mi_X5_refuse 6 1 6 [.int f] h (oj_is (.inr (xOf f)) h) := by
  refine JM_of gd_X5_refuse rfl (by decide +kernel) (Nat.le_of_ble_eq_true rfl) (oj_cats rfl) (by decide) ?_
  rcases hf with e | e | e | e | e
  · subst e
    repeat (first | (refine J_step rfl rfl ?_) | (refine J_getf rfl rfl rfl (by assumption) rfl ?_))
    refine J_tswIn (tgt := 36) (off := 35) rfl (by decide) (by decide) (by decide) (by decide) ?_
    first | (refine J_throwW (E := "java/lang/IndexOutOfBoundsException") (text := "there is no such station or segment") (sn := 0) rfl rfl rfl rfl rfl rfl (by decide +kernel) (by decide +kernel) rfl rfl rfl rfl (Nat.le_of_ble_eq_true rfl) (Nat.le_of_ble_eq_true rfl) ?_) | (refine J_throwW (E := "java/lang/IllegalArgumentException") (text := "an argument is out of range") (sn := 1) rfl rfl rfl rfl rfl rfl (by decide +kernel) (by decide +kernel) rfl rfl rfl rfl (Nat.le_of_ble_eq_true rfl) (Nat.le_of_ble_eq_true rfl) ?_) | (refine J_throwW (E := "java/lang/IllegalStateException") (text := "the ropeway does not allow this now") (sn := 2) rfl rfl rfl rfl rfl rfl (by decide +kernel) (by decide +kernel) rfl rfl rfl rfl (Nat.le_of_ble_eq_true rfl) (Nat.le_of_ble_eq_true rfl) ?_) | (refine J_throwW (E := "java/lang/UnsupportedOperationException") (text := "the cabins are at the ends of the line") (sn := 3) rfl rfl rfl rfl rfl rfl (by decide +kernel) (by decide +kernel) rfl rfl rfl rfl (Nat.le_of_ble_eq_true rfl) (Nat.le_of_ble_eq_true rfl) ?_) | (refine J_throwNW (text := "there is no such picker") (sn := 4) rfl rfl rfl rfl rfl rfl (by decide +kernel) rfl rfl rfl rfl (Nat.le_of_ble_eq_true rfl) (Nat.le_of_ble_eq_true rfl) ?_)
    exact ⟨rfl, rfl⟩
  · subst e
    repeat (first | (refine J_step rfl rfl ?_) | (refine J_getf rfl rfl rfl (by assumption) rfl ?_))
    refine J_tswIn (tgt := 47) (off := 46) rfl (by decide) (by decide) (by decide) (by decide) ?_
    first | (refine J_throwW (E := "java/lang/IndexOutOfBoundsException") (text := "there is no such station or segment") (sn := 0) rfl rfl rfl rfl rfl rfl (by decide +kernel) (by decide +kernel) rfl rfl rfl rfl (Nat.le_of_ble_eq_true rfl) (Nat.le_of_ble_eq_true rfl) ?_) | (refine J_throwW (E := "java/lang/IllegalArgumentException") (text := "an argument is out of range") (sn := 1) rfl rfl rfl rfl rfl rfl (by decide +kernel) (by decide +kernel) rfl rfl rfl rfl (Nat.le_of_ble_eq_true rfl) (Nat.le_of_ble_eq_true rfl) ?_) | (refine J_throwW (E := "java/lang/IllegalStateException") (text := "the ropeway does not allow this now") (sn := 2) rfl rfl rfl rfl rfl rfl (by decide +kernel) (by decide +kernel) rfl rfl rfl rfl (Nat.le_of_ble_eq_true rfl) (Nat.le_of_ble_eq_true rfl) ?_) | (refine J_throwW (E := "java/lang/UnsupportedOperationException") (text := "the cabins are at the ends of the line") (sn := 3) rfl rfl rfl rfl rfl rfl (by decide +kernel) (by decide +kernel) rfl rfl rfl rfl (Nat.le_of_ble_eq_true rfl) (Nat.le_of_ble_eq_true rfl) ?_) | (refine J_throwNW (text := "there is no such picker") (sn := 4) rfl rfl rfl rfl rfl rfl (by decide +kernel) rfl rfl rfl rfl (Nat.le_of_ble_eq_true rfl) (Nat.le_of_ble_eq_true rfl) ?_)
    exact ⟨rfl, rfl⟩
  · subst e
    repeat (first | (refine J_step rfl rfl ?_) | (refine J_getf rfl rfl rfl (by assumption) rfl ?_))
    refine J_tswIn (tgt := 58) (off := 57) rfl (by decide) (by decide) (by decide) (by decide) ?_
    first | (refine J_throwW (E := "java/lang/IndexOutOfBoundsException") (text := "there is no such station or segment") (sn := 0) rfl rfl rfl rfl rfl rfl (by decide +kernel) (by decide +kernel) rfl rfl rfl rfl (Nat.le_of_ble_eq_true rfl) (Nat.le_of_ble_eq_true rfl) ?_) | (refine J_throwW (E := "java/lang/IllegalArgumentException") (text := "an argument is out of range") (sn := 1) rfl rfl rfl rfl rfl rfl (by decide +kernel) (by decide +kernel) rfl rfl rfl rfl (Nat.le_of_ble_eq_true rfl) (Nat.le_of_ble_eq_true rfl) ?_) | (refine J_throwW (E := "java/lang/IllegalStateException") (text := "the ropeway does not allow this now") (sn := 2) rfl rfl rfl rfl rfl rfl (by decide +kernel) (by decide +kernel) rfl rfl rfl rfl (Nat.le_of_ble_eq_true rfl) (Nat.le_of_ble_eq_true rfl) ?_) | (refine J_throwW (E := "java/lang/UnsupportedOperationException") (text := "the cabins are at the ends of the line") (sn := 3) rfl rfl rfl rfl rfl rfl (by decide +kernel) (by decide +kernel) rfl rfl rfl rfl (Nat.le_of_ble_eq_true rfl) (Nat.le_of_ble_eq_true rfl) ?_) | (refine J_throwNW (text := "there is no such picker") (sn := 4) rfl rfl rfl rfl rfl rfl (by decide +kernel) rfl rfl rfl rfl (Nat.le_of_ble_eq_true rfl) (Nat.le_of_ble_eq_true rfl) ?_)
    exact ⟨rfl, rfl⟩
  · subst e
    repeat (first | (refine J_step rfl rfl ?_) | (refine J_getf rfl rfl rfl (by assumption) rfl ?_))
    refine J_tswIn (tgt := 69) (off := 68) rfl (by decide) (by decide) (by decide) (by decide) ?_
    first | (refine J_throwW (E := "java/lang/IndexOutOfBoundsException") (text := "there is no such station or segment") (sn := 0) rfl rfl rfl rfl rfl rfl (by decide +kernel) (by decide +kernel) rfl rfl rfl rfl (Nat.le_of_ble_eq_true rfl) (Nat.le_of_ble_eq_true rfl) ?_) | (refine J_throwW (E := "java/lang/IllegalArgumentException") (text := "an argument is out of range") (sn := 1) rfl rfl rfl rfl rfl rfl (by decide +kernel) (by decide +kernel) rfl rfl rfl rfl (Nat.le_of_ble_eq_true rfl) (Nat.le_of_ble_eq_true rfl) ?_) | (refine J_throwW (E := "java/lang/IllegalStateException") (text := "the ropeway does not allow this now") (sn := 2) rfl rfl rfl rfl rfl rfl (by decide +kernel) (by decide +kernel) rfl rfl rfl rfl (Nat.le_of_ble_eq_true rfl) (Nat.le_of_ble_eq_true rfl) ?_) | (refine J_throwW (E := "java/lang/UnsupportedOperationException") (text := "the cabins are at the ends of the line") (sn := 3) rfl rfl rfl rfl rfl rfl (by decide +kernel) (by decide +kernel) rfl rfl rfl rfl (Nat.le_of_ble_eq_true rfl) (Nat.le_of_ble_eq_true rfl) ?_) | (refine J_throwNW (text := "there is no such picker") (sn := 4) rfl rfl rfl rfl rfl rfl (by decide +kernel) rfl rfl rfl rfl (Nat.le_of_ble_eq_true rfl) (Nat.le_of_ble_eq_true rfl) ?_)
    exact ⟨rfl, rfl⟩
  · subst e
    repeat (first | (refine J_step rfl rfl ?_) | (refine J_getf rfl rfl rfl (by assumption) rfl ?_))
    refine J_tswIn (tgt := 80) (off := 79) rfl (by decide) (by decide) (by decide) (by decide) ?_
    first | (refine J_throwW (E := "java/lang/IndexOutOfBoundsException") (text := "there is no such station or segment") (sn := 0) rfl rfl rfl rfl rfl rfl (by decide +kernel) (by decide +kernel) rfl rfl rfl rfl (Nat.le_of_ble_eq_true rfl) (Nat.le_of_ble_eq_true rfl) ?_) | (refine J_throwW (E := "java/lang/IllegalArgumentException") (text := "an argument is out of range") (sn := 1) rfl rfl rfl rfl rfl rfl (by decide +kernel) (by decide +kernel) rfl rfl rfl rfl (Nat.le_of_ble_eq_true rfl) (Nat.le_of_ble_eq_true rfl) ?_) | (refine J_throwW (E := "java/lang/IllegalStateException") (text := "the ropeway does not allow this now") (sn := 2) rfl rfl rfl rfl rfl rfl (by decide +kernel) (by decide +kernel) rfl rfl rfl rfl (Nat.le_of_ble_eq_true rfl) (Nat.le_of_ble_eq_true rfl) ?_) | (refine J_throwW (E := "java/lang/UnsupportedOperationException") (text := "the cabins are at the ends of the line") (sn := 3) rfl rfl rfl rfl rfl rfl (by decide +kernel) (by decide +kernel) rfl rfl rfl rfl (Nat.le_of_ble_eq_true rfl) (Nat.le_of_ble_eq_true rfl) ?_) | (refine J_throwNW (text := "there is no such picker") (sn := 4) rfl rfl rfl rfl rfl rfl (by decide +kernel) rfl rfl rfl rfl (Nat.le_of_ble_eq_true rfl) (Nat.le_of_ble_eq_true rfl) ?_)
    exact ⟨rfl, rfl⟩
