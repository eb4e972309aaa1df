abbrev mO (μ : MI) : Nat := μ.1
abbrev mY (μ : MI) : MethodName := μ.2.1
abbrev mC (μ : MI) : ByteArray := μ.2.2.1
abbrev mL (μ : MI) : Nat := μ.2.2.2.1
abbrev mR (μ : MI) : Option FieldType := μ.2.2.2.2.1
abbrev mH (μ : MI) : List (Nat × Nat × Nat × Nat) := μ.2.2.2.2.2.1
abbrev mA (μ : MI) : Bool := μ.2.2.2.2.2.2.1
abbrev mT (μ : MI) : Nat → Option EN := μ.2.2.2.2.2.2.2
def oj_cst (i : Instr) (x : Int32) : Bool := match i with
  | .iconst n => decide (Int32.ofInt n = x)
  | .bipush n => decide ((Int8.ofInt n).toInt32 = x)
  | .sipush n => decide ((Int16.ofInt n).toInt32 = x)
  | .iinc _ n => decide (Int32.ofInt n = x)
  | _ => true
def oj_tgt (pc : Nat) (i : Instr) (t : Nat) : Bool := match i with
  | .goto o => decide ((pc : Int) + o = (t : Int))
  | .ifnull o => decide ((pc : Int) + o = (t : Int))
  | .ifnonnull o => decide ((pc : Int) + o = (t : Int))
  | .if_icmp _ o => decide ((pc : Int) + o = (t : Int))
  | .ifCond _ o => decide ((pc : Int) + o = (t : Int))
  | .iload i => decide (i = t)
  | .aload i => decide (i = t)
  | .dload i => decide (i = t)
  | .istore i => decide (i = t)
  | .astore i => decide (i = t)
  | .dstore i => decide (i = t)
  | .iload_n i => decide ((i : Nat) = t)
  | .aload_n i => decide ((i : Nat) = t)
  | .dload_n i => decide ((i : Nat) = t)
  | .istore_n i => decide ((i : Nat) = t)
  | .astore_n i => decide ((i : Nat) = t)
  | .dstore_n i => decide ((i : Nat) = t)
  | .iinc i _ => decide (i = t)
  | _ => true
def oj_lnc (i : Instr) (len : Nat) : Bool := match i with
  | .bipush _ | .iload _ | .aload _ | .dload _ | .istore _ | .astore _ | .dstore _ | .ldc _ | .newarray _ => decide (len = 2)
  | .sipush _ | .iinc _ _ | .goto _ | .if_icmp _ _ | .ifCond _ _ | .ifnull _ | .ifnonnull _ | .getstatic _ | .checkcast _ | .getfield _ | .putfield _ | .invokevirtual _ | .invokestatic _ | .invokespecial _ | .new _ | .anewarray _ | .ldc_w _ => decide (len = 3)
  | .tableswitch .. | .lookupswitch .. => true
  | _ => decide (len = 1)
def oj_okE (cc : ByteArray) (pc : Nat) (e : EN) : Bool := decide (decode cc pc = .ok (e.1, e.2.1)) && (oj_lnc e.1 e.2.1 && (decide (pc + e.2.1 = e.2.2.1) && (oj_cst e.1 e.2.2.2.1 && oj_tgt pc e.1 e.2.2.2.2)))
/-- what a method's table says is what its bytes decode to -/
def oj_good (μ : MI) : Prop := ∀ (pc : Nat) (e : EN), mT μ pc = some e → oj_okE (mC μ) pc e = true
theorem oj_good_of {μ : MI} (n : Nat) (t : Nat → Option EN) (h : ∀ pc, mT μ pc = bif Nat.ble n pc then none else t pc) (hc : (List.range n).all (fun pc => match t pc with | some e => oj_okE (mC μ) pc e | none => true) = true) : oj_good μ := by
  intro pc e he
  rw [h] at he
  cases hb : Nat.ble n pc with
  | true => rw [hb] at he; cases he
  | false =>
    rw [hb] at he
    have hlt : pc < n := by
      rcases Nat.lt_or_ge pc n with q | q
      · exact q
      · rw [Nat.ble_eq_true_of_le q] at hb; cases hb
    have h1 := List.all_eq_true.mp hc pc (List.mem_range.mpr hlt)
    have he' : t pc = some e := he
    rw [he'] at h1
    exact h1
def oj_chunk (cc : ByteArray) (t : Nat → Option EN) (b n : Nat) : Bool := (List.range n).all (fun i => match t (b + i) with | some e => oj_okE cc (b + i) e | none => true)
theorem oj_good_of2 {μ : MI} (n c : Nat) (t : Nat → Option EN) (hc0 : 0 < c) (h : ∀ pc, mT μ pc = bif Nat.ble n pc then none else t pc) (hc : ∀ k, k < n / c + 1 → oj_chunk (mC μ) t (c * k) c = true) : oj_good μ := by
  intro pc e he
  rw [h] at he
  cases hb : Nat.ble n pc with
  | true => rw [hb] at he; cases he
  | false =>
    rw [hb] at he
    have hlt : pc < n := by
      rcases Nat.lt_or_ge pc n with q | q
      · exact q
      · rw [Nat.ble_eq_true_of_le q] at hb; cases hb
    have hk : pc / c < n / c + 1 := Nat.lt_succ_of_le (Nat.div_le_div_right (Nat.le_of_lt hlt))
    have h1 := List.all_eq_true.mp (hc _ hk) (pc % c) (List.mem_range.mpr (Nat.mod_lt _ hc0))
    have he' : t pc = some e := he
    have e1 : c * (pc / c) + pc % c = pc := Nat.div_add_mod pc c
    simp only [e1] at h1
    rw [he'] at h1
    exact h1

theorem oj_okE_spec {cc : ByteArray} {pc : Nat} {i : Instr} {len nx : Nat} {x : Int32} {t : Nat} (h : oj_okE cc pc (i, len, nx, x, t) = true) : decode cc pc = .ok (i, len) ∧ oj_lnc i len = true ∧ pc + len = nx ∧ oj_cst i x = true ∧ oj_tgt pc i t = true := by
  simp only [oj_okE, Bool.and_eq_true, decide_eq_true_eq] at h
  exact h

set_option maxRecDepth 100000 in
theorem gd_X0_init : oj_good mi_X0_init := oj_good_of 71 tb0_X0_init (fun _ => rfl) (by decide +kernel)
set_option maxRecDepth 100000 in
theorem gd_X0_copyFrom : oj_good mi_X0_copyFrom := oj_good_of 40 tb0_X0_copyFrom (fun _ => rfl) (by decide +kernel)
set_option maxRecDepth 100000 in
theorem gd_X0_copyRow : oj_good mi_X0_copyRow := oj_good_of 85 tb0_X0_copyRow (fun _ => rfl) (by decide +kernel)
set_option maxRecDepth 100000 in
theorem gd_X0_append : oj_good mi_X0_append := oj_good_of 93 tb0_X0_append (fun _ => rfl) (by decide +kernel)
set_option maxRecDepth 100000 in
theorem gd_X0_drop : oj_good mi_X0_drop := oj_good_of 38 tb0_X0_drop (fun _ => rfl) (by decide +kernel)
set_option maxRecDepth 100000 in
theorem gd_X0_unload : oj_good mi_X0_unload := oj_good_of 84 tb0_X0_unload (fun _ => rfl) (by decide +kernel)
set_option maxRecDepth 100000 in
theorem gd_X0_load : oj_good mi_X0_load := oj_good_of 121 tb0_X0_load (fun _ => rfl) (by decide +kernel)
set_option maxRecDepth 100000 in
theorem gd_X0_waitsAt : oj_good mi_X0_waitsAt := oj_good_of 26 tb0_X0_waitsAt (fun _ => rfl) (by decide +kernel)
set_option maxRecDepth 100000 in
theorem gd_X0_rowOf : oj_good mi_X0_rowOf := oj_good_of 30 tb0_X0_rowOf (fun _ => rfl) (by decide +kernel)
set_option maxRecDepth 100000 in
theorem gd_X0_countWaiting : oj_good mi_X0_countWaiting := oj_good_of 32 tb0_X0_countWaiting (fun _ => rfl) (by decide +kernel)
set_option maxRecDepth 100000 in
theorem gd_X0_waitingRow : oj_good mi_X0_waitingRow := oj_good_of 43 tb0_X0_waitingRow (fun _ => rfl) (by decide +kernel)
set_option maxRecDepth 100000 in
theorem gd_X0_countRiders : oj_good mi_X0_countRiders := oj_good_of 33 tb0_X0_countRiders (fun _ => rfl) (by decide +kernel)
set_option maxRecDepth 100000 in
theorem gd_X0_fullWeight : oj_good mi_X0_fullWeight := oj_good_of 41 tb0_X0_fullWeight (fun _ => rfl) (by decide +kernel)
set_option maxRecDepth 100000 in
theorem gd_X0_riderRow : oj_good mi_X0_riderRow := oj_good_of 39 tb0_X0_riderRow (fun _ => rfl) (by decide +kernel)
set_option maxRecDepth 100000 in
theorem gd_X0_countBoardedBefore : oj_good mi_X0_countBoardedBefore := oj_good_of 53 tb0_X0_countBoardedBefore (fun _ => rfl) (by decide +kernel)
set_option maxRecDepth 100000 in
theorem gd_X0_rowByWeight : oj_good mi_X0_rowByWeight := oj_good_of 29 tb0_X0_rowByWeight (fun _ => rfl) (by decide +kernel)
set_option maxRecDepth 100000 in
theorem gd_X0_countHeavier : oj_good mi_X0_countHeavier := oj_good_of 70 tb0_X0_countHeavier (fun _ => rfl) (by decide +kernel)
set_option maxRecDepth 100000 in
theorem gd_X0_isOrdered : oj_good mi_X0_isOrdered := oj_good_of 65 tb0_X0_isOrdered (fun _ => rfl) (by decide +kernel)
set_option maxRecDepth 100000 in
theorem gd_X1_init : oj_good mi_X1_init := oj_good_of 46 tb0_X1_init (fun _ => rfl) (by decide +kernel)
set_option maxRecDepth 100000 in
theorem gd_X1_remember : oj_good mi_X1_remember := oj_good_of 67 tb0_X1_remember (fun _ => rfl) (by decide +kernel)
set_option maxRecDepth 100000 in
theorem gd_X1_takeBack : oj_good mi_X1_takeBack := oj_good_of 67 tb0_X1_takeBack (fun _ => rfl) (by decide +kernel)
set_option maxRecDepth 100000 in
theorem gd_X2_init : oj_good mi_X2_init := oj_good_of 105 tb0_X2_init (fun _ => rfl) (by decide +kernel)
set_option maxRecDepth 100000 in
theorem gd_X2_copyFrom : oj_good mi_X2_copyFrom := oj_good_of 134 tb0_X2_copyFrom (fun _ => rfl) (by decide +kernel)
set_option maxRecDepth 100000 in
theorem gd_X2_faultOf : oj_good mi_X2_faultOf := oj_good_of 87 tb0_X2_faultOf (fun _ => rfl) (by decide +kernel)
set_option maxRecDepth 100000 in
theorem gd_X2_apply : oj_good mi_X2_apply := oj_good_of 88 tb0_X2_apply (fun _ => rfl) (by decide +kernel)
set_option maxRecDepth 100000 in
theorem gd_X2_faultOfAdding : oj_good mi_X2_faultOfAdding := oj_good_of 53 tb0_X2_faultOfAdding (fun _ => rfl) (by decide +kernel)
set_option maxRecDepth 100000 in
theorem gd_X2_faultOfRemoving : oj_good mi_X2_faultOfRemoving := oj_good_of 35 tb0_X2_faultOfRemoving (fun _ => rfl) (by decide +kernel)
set_option maxRecDepth 100000 in
theorem gd_X2_faultOfSlope : oj_good mi_X2_faultOfSlope := oj_good_of 25 tb0_X2_faultOfSlope (fun _ => rfl) (by decide +kernel)
set_option maxRecDepth 100000 in
theorem gd_X2_faultOfTurning : oj_good mi_X2_faultOfTurning := oj_good_of 22 tb0_X2_faultOfTurning (fun _ => rfl) (by decide +kernel)
set_option maxRecDepth 100000 in
theorem gd_X2_faultOfCapacity : oj_good mi_X2_faultOfCapacity := oj_good_of 53 tb0_X2_faultOfCapacity (fun _ => rfl) (by decide +kernel)
set_option maxRecDepth 100000 in
theorem gd_X2_letCome : oj_good mi_X2_letCome := oj_good_of 35 tb0_X2_letCome (fun _ => rfl) (by decide +kernel)
set_option maxRecDepth 100000 in
theorem gd_X2_letGo : oj_good mi_X2_letGo := oj_good_of 40 tb0_X2_letGo (fun _ => rfl) (by decide +kernel)
set_option maxRecDepth 100000 in
theorem gd_X2_replaceSlope : oj_good mi_X2_replaceSlope := oj_good_of 22 tb0_X2_replaceSlope (fun _ => rfl) (by decide +kernel)
set_option maxRecDepth 100000 in
theorem gd_X2_replaceCapacity : oj_good mi_X2_replaceCapacity := oj_good_of 12 tb0_X2_replaceCapacity (fun _ => rfl) (by decide +kernel)
set_option maxRecDepth 100000 in
theorem gd_X2_letPass : oj_good mi_X2_letPass := oj_good_of 68 tb0_X2_letPass (fun _ => rfl) (by decide +kernel)
set_option maxRecDepth 100000 in
theorem gd_X2_coolDown : oj_good mi_X2_coolDown := oj_good_of 29 tb0_X2_coolDown (fun _ => rfl) (by decide +kernel)
set_option maxRecDepth 100000 in
theorem gd_X2_move : oj_good mi_X2_move := oj_good_of 105 tb0_X2_move (fun _ => rfl) (by decide +kernel)
set_option maxRecDepth 100000 in
theorem gd_X2_stop : oj_good mi_X2_stop := oj_good_of 129 tb0_X2_stop (fun _ => rfl) (by decide +kernel)
set_option maxRecDepth 100000 in
theorem gd_X2_isAtStations : oj_good mi_X2_isAtStations := oj_good_of 15 tb0_X2_isAtStations (fun _ => rfl) (by decide +kernel)
set_option maxRecDepth 100000 in
theorem gd_X2_isAtEnds : oj_good mi_X2_isAtEnds := oj_good_of 22 tb0_X2_isAtEnds (fun _ => rfl) (by decide +kernel)
set_option maxRecDepth 100000 in
theorem gd_X2_placeOf : oj_good mi_X2_placeOf := oj_good_of 19 tb0_X2_placeOf (fun _ => rfl) (by decide +kernel)
set_option maxRecDepth 100000 in
theorem gd_X2_isUp : oj_good mi_X2_isUp := oj_good_of 24 tb0_X2_isUp (fun _ => rfl) (by decide +kernel)
set_option maxRecDepth 100000 in
theorem gd_X2_segmentAhead : oj_good mi_X2_segmentAhead := oj_good_of 26 tb0_X2_segmentAhead (fun _ => rfl) (by decide +kernel)
set_option maxRecDepth 100000 in
theorem gd_X2_slopeOf : oj_good mi_X2_slopeOf := oj_good_of 18 tb0_X2_slopeOf (fun _ => rfl) (by decide +kernel)
set_option maxRecDepth 100000 in
theorem gd_X2_imbalanceNow : oj_good mi_X2_imbalanceNow := oj_good_of 52 tb0_X2_imbalanceNow (fun _ => rfl) (by decide +kernel)
set_option maxRecDepth 100000 in
theorem gd_X2_unitsByFormula : oj_good mi_X2_unitsByFormula := oj_good_of 58 tb0_X2_unitsByFormula (fun _ => rfl) (by decide +kernel)
set_option maxRecDepth 100000 in
theorem gd_X2_unitsByMoving : oj_good mi_X2_unitsByMoving := oj_good_of 78 tb0_X2_unitsByMoving (fun _ => rfl) (by decide +kernel)
set_option maxRecDepth 100000 in
theorem gd_X2_sumOfParts : oj_good mi_X2_sumOfParts := oj_good_of 59 tb0_X2_sumOfParts (fun _ => rfl) (by decide +kernel)
set_option maxRecDepth 100000 in
theorem gd_X2_hasSoundValues : oj_good mi_X2_hasSoundValues := oj_good_of 141 tb0_X2_hasSoundValues (fun _ => rfl) (by decide +kernel)
set_option maxRecDepth 100000 in
theorem gd_X2_hasSoundCabins : oj_good mi_X2_hasSoundCabins := oj_good_of 111 tb0_X2_hasSoundCabins (fun _ => rfl) (by decide +kernel)
set_option maxRecDepth 100000 in
theorem gd_X3_init : oj_good mi_X3_init := oj_good_of 18 tb0_X3_init (fun _ => rfl) (by decide +kernel)
set_option maxRecDepth 100000 in
theorem gd_X3_clear : oj_good mi_X3_clear := oj_good_of 6 tb0_X3_clear (fun _ => rfl) (by decide +kernel)
set_option maxRecDepth 100000 in
theorem gd_X3_put : oj_good mi_X3_put := oj_good_of 30 tb0_X3_put (fun _ => rfl) (by decide +kernel)
set_option maxRecDepth 100000 in
theorem gd_X3_putNumber : oj_good mi_X3_putNumber := oj_good_of 54 tb0_X3_putNumber (fun _ => rfl) (by decide +kernel)
set_option maxRecDepth 100000 in
theorem gd_X4_init : oj_good mi_X4_init := oj_good_of 60 tb0_X4_init (fun _ => rfl) (by decide +kernel)
set_option maxRecDepth 100000 in
theorem gd_X4_append : oj_good mi_X4_append := oj_good_of 30 tb0_X4_append (fun _ => rfl) (by decide +kernel)
set_option maxRecDepth 100000 in
theorem gd_X4_clear : oj_good mi_X4_clear := oj_good_of 6 tb0_X4_clear (fun _ => rfl) (by decide +kernel)
set_option maxRecDepth 100000 in
theorem gd_X4_parse : oj_good mi_X4_parse := oj_good_of 68 tb0_X4_parse (fun _ => rfl) (by decide +kernel)
set_option maxRecDepth 100000 in
theorem gd_X4_readCommand : oj_good mi_X4_readCommand := oj_good_of 32 tb0_X4_readCommand (fun _ => rfl) (by decide +kernel)
set_option maxRecDepth 100000 in
theorem gd_X4_readForm : oj_good mi_X4_readForm := oj_good_of 276 tb0_X4_readForm (fun _ => rfl) (by decide +kernel)
set_option maxRecDepth 100000 in
theorem gd_X4_readStart : oj_good mi_X4_readStart := oj_good_of 16 tb0_X4_readStart (fun _ => rfl) (by decide +kernel)
set_option maxRecDepth 100000 in
theorem gd_X4_readMinutes : oj_good mi_X4_readMinutes := oj_good_of 45 tb0_X4_readMinutes (fun _ => rfl) (by decide +kernel)
set_option maxRecDepth 100000 in
theorem gd_X4_readWord : oj_good mi_X4_readWord := oj_good_of 46 tb0_X4_readWord (fun _ => rfl) (by decide +kernel)
set_option maxRecDepth 100000 in
theorem gd_X4_readDigits : oj_good mi_X4_readDigits := oj_good_of 76 tb0_X4_readDigits (fun _ => rfl) (by decide +kernel)
set_option maxRecDepth 100000 in
theorem gd_X4_signAt : oj_good mi_X4_signAt := oj_good_of 23 tb0_X4_signAt (fun _ => rfl) (by decide +kernel)
set_option maxRecDepth 100000 in
theorem gd_X4_isDigit : oj_good mi_X4_isDigit := oj_good_of 18 tb0_X4_isDigit (fun _ => rfl) (by decide +kernel)
set_option maxRecDepth 100000 in
theorem gd_X5_init : oj_good mi_X5_init := oj_good_of 86 tb0_X5_init (fun _ => rfl) (by decide +kernel)
set_option maxRecDepth 100000 in
theorem gd_X5_addPicker : oj_good mi_X5_addPicker := oj_good_of 9 tb0_X5_addPicker (fun _ => rfl) (by decide +kernel)
set_option maxRecDepth 100000 in
theorem gd_X5_removePicker : oj_good mi_X5_removePicker := oj_good_of 9 tb0_X5_removePicker (fun _ => rfl) (by decide +kernel)
set_option maxRecDepth 100000 in
theorem gd_X5_setSlope : oj_good mi_X5_setSlope := oj_good_of 9 tb0_X5_setSlope (fun _ => rfl) (by decide +kernel)
set_option maxRecDepth 100000 in
theorem gd_X5_turn : oj_good mi_X5_turn := oj_good_of 18 tb0_X5_turn (fun _ => rfl) (by decide +kernel)
set_option maxRecDepth 100000 in
theorem gd_X5_setCapacity : oj_good mi_X5_setCapacity := oj_good_of 9 tb0_X5_setCapacity (fun _ => rfl) (by decide +kernel)
set_option maxRecDepth 100000 in
theorem gd_X5_pass : oj_good mi_X5_pass := oj_good_of 9 tb0_X5_pass (fun _ => rfl) (by decide +kernel)
set_option maxRecDepth 100000 in
theorem gd_X5_time : oj_good mi_X5_time := oj_good_of 8 tb0_X5_time (fun _ => rfl) (by decide +kernel)
set_option maxRecDepth 100000 in
theorem gd_X5_slope : oj_good mi_X5_slope := oj_good_of 27 tb0_X5_slope (fun _ => rfl) (by decide +kernel)
set_option maxRecDepth 100000 in
theorem gd_X5_capacity : oj_good mi_X5_capacity := oj_good_of 8 tb0_X5_capacity (fun _ => rfl) (by decide +kernel)
set_option maxRecDepth 100000 in
theorem gd_X5_imbalance : oj_good mi_X5_imbalance := oj_good_of 8 tb0_X5_imbalance (fun _ => rfl) (by decide +kernel)
set_option maxRecDepth 100000 in
theorem gd_X5_heat : oj_good mi_X5_heat := oj_good_of 8 tb0_X5_heat (fun _ => rfl) (by decide +kernel)
set_option maxRecDepth 100000 in
theorem gd_X5_isBlocked : oj_good mi_X5_isBlocked := oj_good_of 8 tb0_X5_isBlocked (fun _ => rfl) (by decide +kernel)
set_option maxRecDepth 100000 in
theorem gd_X5_blockedMinutes : oj_good mi_X5_blockedMinutes := oj_good_of 29 tb0_X5_blockedMinutes (fun _ => rfl) (by decide +kernel)
set_option maxRecDepth 100000 in
theorem gd_X5_blockedMinutesByPassing : oj_good mi_X5_blockedMinutesByPassing := oj_good_of 47 tb0_X5_blockedMinutesByPassing (fun _ => rfl) (by decide +kernel)
set_option maxRecDepth 100000 in
theorem gd_X5_place : oj_good mi_X5_place := oj_good_of 13 tb0_X5_place (fun _ => rfl) (by decide +kernel)
set_option maxRecDepth 100000 in
theorem gd_X5_goesUp : oj_good mi_X5_goesUp := oj_good_of 13 tb0_X5_goesUp (fun _ => rfl) (by decide +kernel)
set_option maxRecDepth 100000 in
theorem gd_X5_station : oj_good mi_X5_station := oj_good_of 35 tb0_X5_station (fun _ => rfl) (by decide +kernel)
set_option maxRecDepth 100000 in
theorem gd_X5_nextSegment : oj_good mi_X5_nextSegment := oj_good_of 13 tb0_X5_nextSegment (fun _ => rfl) (by decide +kernel)
set_option maxRecDepth 100000 in
theorem gd_X5_cabinWeight : oj_good mi_X5_cabinWeight := oj_good_of 16 tb0_X5_cabinWeight (fun _ => rfl) (by decide +kernel)
set_option maxRecDepth 100000 in
theorem gd_X5_riders : oj_good mi_X5_riders := oj_good_of 16 tb0_X5_riders (fun _ => rfl) (by decide +kernel)
set_option maxRecDepth 100000 in
theorem gd_X5_riderAt : oj_good mi_X5_riderAt := oj_good_of 31 tb0_X5_riderAt (fun _ => rfl) (by decide +kernel)
set_option maxRecDepth 100000 in
theorem gd_X5_unitsUntil : oj_good mi_X5_unitsUntil := oj_good_of 18 tb0_X5_unitsUntil (fun _ => rfl) (by decide +kernel)
set_option maxRecDepth 100000 in
theorem gd_X5_unitsUntilByMoving : oj_good mi_X5_unitsUntilByMoving := oj_good_of 18 tb0_X5_unitsUntilByMoving (fun _ => rfl) (by decide +kernel)
set_option maxRecDepth 100000 in
theorem gd_X5_pickers : oj_good mi_X5_pickers := oj_good_of 11 tb0_X5_pickers (fun _ => rfl) (by decide +kernel)
set_option maxRecDepth 100000 in
theorem gd_X5_isPresent : oj_good mi_X5_isPresent := oj_good_of 21 tb0_X5_isPresent (fun _ => rfl) (by decide +kernel)
set_option maxRecDepth 100000 in
theorem gd_X5_weight : oj_good mi_X5_weight := oj_good_of 26 tb0_X5_weight (fun _ => rfl) (by decide +kernel)
set_option maxRecDepth 100000 in
theorem gd_X5_destination : oj_good mi_X5_destination := oj_good_of 26 tb0_X5_destination (fun _ => rfl) (by decide +kernel)
set_option maxRecDepth 100000 in
theorem gd_X5_cabinOf : oj_good mi_X5_cabinOf := oj_good_of 43 tb0_X5_cabinOf (fun _ => rfl) (by decide +kernel)
set_option maxRecDepth 100000 in
theorem gd_X5_waiting : oj_good mi_X5_waiting := oj_good_of 16 tb0_X5_waiting (fun _ => rfl) (by decide +kernel)
set_option maxRecDepth 100000 in
theorem gd_X5_waitingAt : oj_good mi_X5_waitingAt := oj_good_of 31 tb0_X5_waitingAt (fun _ => rfl) (by decide +kernel)
set_option maxRecDepth 100000 in
theorem gd_X5_waitingStations : oj_good mi_X5_waitingStations := oj_good_of 35 tb0_X5_waitingStations (fun _ => rfl) (by decide +kernel)
set_option maxRecDepth 100000 in
theorem gd_X5_busiestStation : oj_good mi_X5_busiestStation := oj_good_of 58 tb0_X5_busiestStation (fun _ => rfl) (by decide +kernel)
set_option maxRecDepth 100000 in
theorem gd_X5_pickerByWeight : oj_good mi_X5_pickerByWeight := oj_good_of 26 tb0_X5_pickerByWeight (fun _ => rfl) (by decide +kernel)
set_option maxRecDepth 100000 in
theorem gd_X5_came : oj_good mi_X5_came := oj_good_of 8 tb0_X5_came (fun _ => rfl) (by decide +kernel)
set_option maxRecDepth 100000 in
theorem gd_X5_cameByParts : oj_good mi_X5_cameByParts := oj_good_of 8 tb0_X5_cameByParts (fun _ => rfl) (by decide +kernel)
set_option maxRecDepth 100000 in
theorem gd_X5_arrived : oj_good mi_X5_arrived := oj_good_of 8 tb0_X5_arrived (fun _ => rfl) (by decide +kernel)
set_option maxRecDepth 100000 in
theorem gd_X5_meetings : oj_good mi_X5_meetings := oj_good_of 8 tb0_X5_meetings (fun _ => rfl) (by decide +kernel)
set_option maxRecDepth 100000 in
theorem gd_X5_energy : oj_good mi_X5_energy := oj_good_of 8 tb0_X5_energy (fun _ => rfl) (by decide +kernel)
set_option maxRecDepth 100000 in
theorem gd_X5_isConsistent : oj_good mi_X5_isConsistent := oj_good_of 68 tb0_X5_isConsistent (fun _ => rfl) (by decide +kernel)
set_option maxRecDepth 100000 in
theorem gd_X5_writeCabin : oj_good mi_X5_writeCabin := oj_good_of 176 tb0_X5_writeCabin (fun _ => rfl) (by decide +kernel)
set_option maxRecDepth 100000 in
theorem gd_X5_writeStations : oj_good mi_X5_writeStations := oj_good_of 101 tb0_X5_writeStations (fun _ => rfl) (by decide +kernel)
set_option maxRecDepth 100000 in
theorem gd_X5_type : oj_good mi_X5_type := oj_good_of 38 tb0_X5_type (fun _ => rfl) (by decide +kernel)
set_option maxRecDepth 100000 in
theorem gd_X5_run : oj_good mi_X5_run := oj_good_of 108 tb0_X5_run (fun _ => rfl) (by decide +kernel)
set_option maxRecDepth 100000 in
theorem gd_X5_undo : oj_good mi_X5_undo := oj_good_of 40 tb0_X5_undo (fun _ => rfl) (by decide +kernel)
set_option maxRecDepth 100000 in
theorem gd_X5_save : oj_good mi_X5_save := oj_good_of 27 tb0_X5_save (fun _ => rfl) (by decide +kernel)
set_option maxRecDepth 100000 in
theorem gd_X5_restore : oj_good mi_X5_restore := oj_good_of 48 tb0_X5_restore (fun _ => rfl) (by decide +kernel)
set_option maxRecDepth 100000 in
theorem gd_X5_change : oj_good mi_X5_change := oj_good_of 39 tb0_X5_change (fun _ => rfl) (by decide +kernel)
set_option maxRecDepth 100000 in
theorem gd_X5_firstFailure : oj_good mi_X5_firstFailure := oj_good_of 95 tb0_X5_firstFailure (fun _ => rfl) (by decide +kernel)
set_option maxRecDepth 100000 in
theorem gd_X5_refuse : oj_good mi_X5_refuse := oj_good_of 92 tb0_X5_refuse (fun _ => rfl) (by decide +kernel)
set_option maxRecDepth 100000 in
theorem gd_X5_requireCabin : oj_good mi_X5_requireCabin := oj_good_of 21 tb0_X5_requireCabin (fun _ => rfl) (by decide +kernel)
set_option maxRecDepth 100000 in
theorem gd_X5_requireStation : oj_good mi_X5_requireStation := oj_good_of 19 tb0_X5_requireStation (fun _ => rfl) (by decide +kernel)
set_option maxRecDepth 100000 in
theorem gd_X5_requireRow : oj_good mi_X5_requireRow := oj_good_of 23 tb0_X5_requireRow (fun _ => rfl) (by decide +kernel)
set_option maxRecDepth 100000 in
theorem gd_X5_isStation : oj_good mi_X5_isStation := oj_good_of 16 tb0_X5_isStation (fun _ => rfl) (by decide +kernel)
set_option maxRecDepth 100000 in
theorem gd_X5_isSegment : oj_good mi_X5_isSegment := oj_good_of 16 tb0_X5_isSegment (fun _ => rfl) (by decide +kernel)
set_option maxRecDepth 100000 in
theorem gd_J5_init_d00df : oj_good mi_J5_init_d00df := oj_good_of 39 tb0_J5_init_d00df (fun _ => rfl) (by decide +kernel)
set_option maxRecDepth 100000 in
theorem gd_J5_length_8abf5 : oj_good mi_J5_length_8abf5 := oj_good_of 5 tb0_J5_length_8abf5 (fun _ => rfl) (by decide +kernel)
set_option maxRecDepth 100000 in
theorem gd_J5_ensureCapacityInternal_d00df : oj_good mi_J5_ensureCapacityInternal_d00df := oj_good_of 39 tb0_J5_ensureCapacityInternal_d00df (fun _ => rfl) (by decide +kernel)
set_option maxRecDepth 100000 in
theorem gd_J5_newCapacity_0f7a4 : oj_good mi_J5_newCapacity_0f7a4 := oj_good_of 59 tb0_J5_newCapacity_0f7a4 (fun _ => rfl) (by decide +kernel)
set_option maxRecDepth 100000 in
theorem gd_J5_append_cf1ce : oj_good mi_J5_append_cf1ce := oj_good_of 45 tb0_J5_append_cf1ce (fun _ => rfl) (by decide +kernel)
set_option maxRecDepth 100000 in
theorem gd_J5_append_c97b9 : oj_good mi_J5_append_c97b9 := oj_good_of 55 tb0_J5_append_c97b9 (fun _ => rfl) (by decide +kernel)
set_option maxRecDepth 100000 in
theorem gd_J5_getValue_6d5f1 : oj_good mi_J5_getValue_6d5f1 := oj_good_of 5 tb0_J5_getValue_6d5f1 (fun _ => rfl) (by decide +kernel)
set_option maxRecDepth 100000 in
theorem gd_J5_isLatin1_aae02 : oj_good mi_J5_isLatin1_aae02 := oj_good_of 19 tb0_J5_isLatin1_aae02 (fun _ => rfl) (by decide +kernel)
set_option maxRecDepth 100000 in
theorem gd_J5_inflateIfNeededFor_a7421 : oj_good mi_J5_inflateIfNeededFor_a7421 := oj_good_of 22 tb0_J5_inflateIfNeededFor_a7421 (fun _ => rfl) (by decide +kernel)
set_option maxRecDepth 100000 in
theorem gd_J5_putStringAt_47b60 : oj_good mi_J5_putStringAt_47b60 := oj_good_of 19 tb0_J5_putStringAt_47b60 (fun _ => rfl) (by decide +kernel)
set_option maxRecDepth 100000 in
theorem gd_J6_getChars_ba4f3 : oj_good mi_J6_getChars_ba4f3 := oj_good_of 121 tb0_J6_getChars_ba4f3 (fun _ => rfl) (by decide +kernel)
set_option maxRecDepth 100000 in
theorem gd_J6_stringSize_0f7a4 : oj_good mi_J6_stringSize_0f7a4 := oj_good_of 47 tb0_J6_stringSize_0f7a4 (fun _ => rfl) (by decide +kernel)
set_option maxRecDepth 100000 in
theorem gd_J0_init_81219 : oj_good mi_J0_init_81219 := oj_good_of 7 tb0_J0_init_81219 (fun _ => rfl) (by decide +kernel)
set_option maxRecDepth 100000 in
theorem gd_J0_getBytes_840e7 : oj_good mi_J0_getBytes_840e7 := oj_good_of 44 tb0_J0_getBytes_840e7 (fun _ => rfl) (by decide +kernel)
set_option maxRecDepth 100000 in
theorem gd_J0_init_db425 : oj_good mi_J0_init_db425 := oj_good_of 98 tb0_J0_init_db425 (fun _ => rfl) (by decide +kernel)
set_option maxRecDepth 100000 in
theorem gd_J4_init_da8c8 : oj_good mi_J4_init_da8c8 := oj_good_of 7 tb0_J4_init_da8c8 (fun _ => rfl) (by decide +kernel)
set_option maxRecDepth 100000 in
theorem gd_J4_append_15ec4 : oj_good mi_J4_append_15ec4 := oj_good_of 8 tb0_J4_append_15ec4 (fun _ => rfl) (by decide +kernel)
set_option maxRecDepth 100000 in
theorem gd_J4_append_bf812 : oj_good mi_J4_append_bf812 := oj_good_of 8 tb0_J4_append_bf812 (fun _ => rfl) (by decide +kernel)
set_option maxRecDepth 100000 in
theorem gd_J4_toString_0e30d : oj_good mi_J4_toString_0e30d := oj_good_of 9 tb0_J4_toString_0e30d (fun _ => rfl) (by decide +kernel)
set_option maxRecDepth 100000 in
theorem gd_J4_length_8abf5 : oj_good mi_J4_length_8abf5 := oj_good_of 5 tb0_J4_length_8abf5 (fun _ => rfl) (by decide +kernel)
set_option maxRecDepth 100000 in
theorem gd_J7_copyOf_9075b : oj_good mi_J7_copyOf_9075b := oj_good_of 33 tb0_J7_copyOf_9075b (fun _ => rfl) (by decide +kernel)
set_option maxRecDepth 100000 in
theorem gd_J7_checkLength_df160 : oj_good mi_J7_checkLength_df160 := oj_good_of 38 tb0_J7_checkLength_df160 (fun _ => rfl) (by decide +kernel)
set_option maxRecDepth 100000 in
theorem gd_J7_copyOfRange_39247 : oj_good mi_J7_copyOfRange_39247 := oj_good_of 25 tb0_J7_copyOfRange_39247 (fun _ => rfl) (by decide +kernel)
set_option maxRecDepth 100000 in
theorem gd_J7_copyOfRangeByte_39247 : oj_good mi_J7_copyOfRangeByte_39247 := oj_good_of 33 tb0_J7_copyOfRangeByte_39247 (fun _ => rfl) (by decide +kernel)
set_option maxRecDepth 100000 in
theorem gd_J8_newLength_cabcc : oj_good mi_J8_newLength_cabcc := oj_good_of 27 tb0_J8_newLength_cabcc (fun _ => rfl) (by decide +kernel)
set_option maxRecDepth 100000 in
theorem gd_L_cell : oj_good mi_L_cell := oj_good_of 44 tb0_L_cell (fun _ => rfl) (by decide +kernel)
set_option maxRecDepth 100000 in
theorem gd_L_addPicker : oj_good mi_L_addPicker := oj_good_of 23 tb0_L_addPicker (fun _ => rfl) (by decide +kernel)
set_option maxRecDepth 100000 in
theorem gd_L_removePicker : oj_good mi_L_removePicker := oj_good_of 14 tb0_L_removePicker (fun _ => rfl) (by decide +kernel)
set_option maxRecDepth 100000 in
theorem gd_L_setSlope : oj_good mi_L_setSlope := oj_good_of 15 tb0_L_setSlope (fun _ => rfl) (by decide +kernel)
set_option maxRecDepth 100000 in
theorem gd_L_setCapacity : oj_good mi_L_setCapacity := oj_good_of 14 tb0_L_setCapacity (fun _ => rfl) (by decide +kernel)
set_option maxRecDepth 100000 in
theorem gd_L_pass : oj_good mi_L_pass := oj_good_of 10 tb0_L_pass (fun _ => rfl) (by decide +kernel)
set_option maxRecDepth 100000 in
theorem gd_L_station : oj_good mi_L_station := oj_good_of 14 tb0_L_station (fun _ => rfl) (by decide +kernel)
set_option maxRecDepth 100000 in
theorem gd_L_riderAt : oj_good mi_L_riderAt := oj_good_of 15 tb0_L_riderAt (fun _ => rfl) (by decide +kernel)
set_option maxRecDepth 100000 in
theorem gd_L_cabinOf : oj_good mi_L_cabinOf := oj_good_of 10 tb0_L_cabinOf (fun _ => rfl) (by decide +kernel)
set_option maxRecDepth 100000 in
theorem gd_L_waitingAt : oj_good mi_L_waitingAt := oj_good_of 15 tb0_L_waitingAt (fun _ => rfl) (by decide +kernel)
set_option maxRecDepth 100000 in
theorem gd_L_busiestStation : oj_good mi_L_busiestStation := oj_good_of 9 tb0_L_busiestStation (fun _ => rfl) (by decide +kernel)
set_option maxRecDepth 100000 in
theorem gd_L_pickerByWeight : oj_good mi_L_pickerByWeight := oj_good_of 10 tb0_L_pickerByWeight (fun _ => rfl) (by decide +kernel)
set_option maxRecDepth 100000 in
theorem gd_L_run : oj_good mi_L_run := oj_good_of 13 tb0_L_run (fun _ => rfl) (by decide +kernel)
set_option maxRecDepth 100000 in
theorem gd_L_undo : oj_good mi_L_undo := oj_good_of 9 tb0_L_undo (fun _ => rfl) (by decide +kernel)
set_option maxRecDepth 100000 in
theorem gd_L_restore : oj_good mi_L_restore := oj_good_of 9 tb0_L_restore (fun _ => rfl) (by decide +kernel)
set_option maxRecDepth 100000 in
theorem gd_L_turn : oj_good mi_L_turn := oj_good_of 21 tb0_L_turn (fun _ => rfl) (by decide +kernel)
set_option maxRecDepth 100000 in
theorem gd_L_in : oj_good mi_L_in := oj_good_of 11 tb0_L_in (fun _ => rfl) (by decide +kernel)
set_option maxRecDepth 100000 in
theorem gd_L_does : oj_good mi_L_does := oj_good_of 44 tb0_L_does (fun _ => rfl) (by decide +kernel)
set_option maxRecDepth 100000 in
theorem gd_L_begun : oj_good mi_L_begun := oj_good_of 173 tb0_L_begun (fun _ => rfl) (by decide +kernel)
set_option maxRecDepth 100000 in
theorem gd_L_acts : oj_good mi_L_acts := oj_good_of 408 tb0_L_acts (fun _ => rfl) (by decide +kernel)
set_option maxRecDepth 100000 in
theorem gd_L_seen : oj_good mi_L_seen := oj_good_of 284 tb0_L_seen (fun _ => rfl) (by decide +kernel)
set_option maxRecDepth 100000 in
theorem gd_L_areAlike : oj_good mi_L_areAlike := oj_good_of 27 tb0_L_areAlike (fun _ => rfl) (by decide +kernel)
set_option maxRecDepth 100000 in
theorem gd_L_isWell : oj_good mi_L_isWell := oj_good_of 607 tb0_L_isWell (fun _ => rfl) (by decide +kernel)
