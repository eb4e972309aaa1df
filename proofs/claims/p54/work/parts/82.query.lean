set_option maxRecDepth 100000 in
set_option maxHeartbeats 2000000 in
theorem us_q_time {d : Nat} {h : AHp} {A : AS} (C : CRep h A) : JM mi_X5_time d 0 0 [.ref 0] h (oj_is (.inl (some (.int (A.1.2.1 0)))) h) := by
  obtain ⟨e, ⟨sl, hsl, hL⟩, -⟩ := id C
  exact t_time e hL
set_option maxRecDepth 100000 in
set_option maxHeartbeats 2000000 in
theorem us_q_capacity {d : Nat} {h : AHp} {A : AS} (C : CRep h A) : JM mi_X5_capacity d 0 0 [.ref 0] h (oj_is (.inl (some (.int (A.1.2.1 1)))) h) := by
  obtain ⟨e, ⟨sl, hsl, hL⟩, -⟩ := id C
  exact t_capacity e hL
set_option maxRecDepth 100000 in
set_option maxHeartbeats 2000000 in
theorem us_q_heat {d : Nat} {h : AHp} {A : AS} (C : CRep h A) : JM mi_X5_heat d 0 0 [.ref 0] h (oj_is (.inl (some (.int (A.1.2.1 2)))) h) := by
  obtain ⟨e, ⟨sl, hsl, hL⟩, -⟩ := id C
  exact t_heat e hL
set_option maxRecDepth 100000 in
set_option maxHeartbeats 2000000 in
theorem us_q_came {d : Nat} {h : AHp} {A : AS} (C : CRep h A) : JM mi_X5_came d 0 0 [.ref 0] h (oj_is (.inl (some (.int (A.1.2.1 6)))) h) := by
  obtain ⟨e, ⟨sl, hsl, hL⟩, -⟩ := id C
  exact t_came e hL
set_option maxRecDepth 100000 in
set_option maxHeartbeats 2000000 in
theorem us_q_arrived {d : Nat} {h : AHp} {A : AS} (C : CRep h A) : JM mi_X5_arrived d 0 0 [.ref 0] h (oj_is (.inl (some (.int (A.1.2.1 7)))) h) := by
  obtain ⟨e, ⟨sl, hsl, hL⟩, -⟩ := id C
  exact t_arrived e hL
set_option maxRecDepth 100000 in
set_option maxHeartbeats 2000000 in
theorem us_q_meetings {d : Nat} {h : AHp} {A : AS} (C : CRep h A) : JM mi_X5_meetings d 0 0 [.ref 0] h (oj_is (.inl (some (.int (A.1.2.1 9)))) h) := by
  obtain ⟨e, ⟨sl, hsl, hL⟩, -⟩ := id C
  exact t_meetings e hL
set_option maxRecDepth 100000 in
set_option maxHeartbeats 2000000 in
theorem us_q_pickers {d : Nat} {h : AHp} {A : AS} (C : CRep h A) : JM mi_X5_pickers d 0 0 [.ref 0] h (oj_is (.inl (some (.int (nI A.1.2.2.1.length)))) h) := by
  obtain ⟨e, ⟨sl, hsl, hL⟩, -⟩ := id C
  exact t_pickers e hL
set_option maxRecDepth 100000 in
set_option maxHeartbeats 2000000 in
theorem us_q_energy {d : Nat} {h : AHp} {A : AS} (C : CRep h A) : JM mi_X5_energy d 0 0 [.ref 0] h (oj_is (.inl (some (.long A.1.2.2.2.1))) h) := by
  obtain ⟨e, ⟨sl, hsl, hL⟩, -⟩ := id C
  exact t_energy e hL
set_option maxRecDepth 100000 in
set_option maxHeartbeats 2000000 in
theorem us_q_isBlocked {d : Nat} {h : AHp} {A : AS} {b : Bool} (C : CRep h A) (hb : A.1.2.1 3 = bI b) : JM mi_X5_isBlocked d 0 0 [.ref 0] h (oj_is (.inl (some (.int (bI b)))) h) := by
  obtain ⟨e, ⟨sl, hsl, hL⟩, -⟩ := id C
  exact t_isBlocked e hL hb
set_option maxRecDepth 100000 in
set_option maxHeartbeats 2000000 in
theorem us_q_blockedMinutes {d : Nat} {h : AHp} {A : AS} (C : CRep h A) : JM mi_X5_blockedMinutes d 0 0 [.ref 0] h (oj_is (.inl (some (.int (sBm A.1.2.1)))) h) := by
  obtain ⟨e, ⟨sl, hsl, hL⟩, -⟩ := id C
  exact t_blockedMinutes e hL
set_option maxRecDepth 100000 in
set_option maxHeartbeats 2000000 in
theorem us_q_cameByParts {h : AHp} {A : AS} (C : CRep h A) : JM mi_X5_cameByParts 3 0 0 [.ref 0] h (oj_is (.inl (some (.int (sParts A.1.2.1 A.1.2.2.1)))) h) := by
  obtain ⟨e, ⟨sl, hsl, hL⟩, -⟩ := id C
  exact t_cameByParts e hL
set_option maxRecDepth 100000 in
set_option maxHeartbeats 2000000 in
theorem us_q_waitingStations {h : AHp} {A : AS} (C : CRep h A) : JM mi_X5_waitingStations 2 0 0 [.ref 0] h (oj_is (.inl (some (.int (nI (sWs A.1.2.2.1 7))))) h) := by
  obtain ⟨e, ⟨sl, hsl, hL⟩, -⟩ := id C
  exact t_waitingStations e hL
theorem sSl_cg {sl sl' : Nat → Int32} (h : ∀ i, i < 6 → sl' i = sl i) (g : Int32) : sSl sl' g = sSl sl g := by
  unfold sSl
  by_cases z : 0 ≤ g ∧ g < 6
  · rw [if_pos z, if_pos z]
    obtain ⟨m, em, -, hm⟩ := i32_nat (a := 0) (b := 6) z.1 (Int32.le_of_lt z.2) (by omega) (by omega)
    have z2 := z.2
    rw [em] at z2 ⊢
    have hm6 : m < 6 := (nI_ltI (b := 6) (by omega) (by omega)).mp z2
    rw [nI_clamp (by omega)]
    exact h m hm6
  · rw [if_neg z, if_neg z]
theorem sImb_cg {F : Nat → Int32} {u : Bool} {sl sl' : Nat → Int32} {l : List Row} (h : ∀ i, i < 6 → sl' i = sl i) : sImb F u sl' l = sImb F u sl l := by
  unfold sImb
  rw [sSl_cg h, sSl_cg h]
set_option maxRecDepth 100000 in
set_option maxHeartbeats 2000000 in
theorem us_q_imbalance {h : AHp} {A : AS} (C : CRep h A) (hu : gU A.1.2.1) : JM mi_X5_imbalance 3 0 0 [.ref 0] h (oj_is (.inl (some (.int (sImb A.1.2.1 (uB A.1.2.1) A.1.1 A.1.2.2.1)))) h) := by
  obtain ⟨e, ⟨sl, hsl, hL⟩, -⟩ := id C
  rw [← sImb_cg hsl]
  exact t_imbalance e hL hu
theorem in2 {c : Nat} (h : c < 2) : (0 : Int32) ≤ nI c ∧ nI c < 2 := ⟨nI_pos' (by omega), nI_lt (b := 2) h (by omega)⟩
theorem in7 {c : Nat} (h : c < 7) : (0 : Int32) ≤ nI c ∧ nI c < 7 := ⟨nI_pos' (by omega), nI_lt (b := 7) h (by omega)⟩
theorem in6 {c : Nat} (h : c < 6) : (0 : Int32) ≤ nI c ∧ nI c < 6 := ⟨nI_pos' (by omega), nI_lt (b := 6) h (by omega)⟩
set_option maxRecDepth 100000 in
set_option maxHeartbeats 2000000 in
theorem us_q_place {h : AHp} {A : AS} {c : Nat} (C : CRep h A) (hc : c < 2) : JM mi_X5_place 7 1 6 [.ref 0, .int (nI c)] h (oj_is (.inl (some (.int (sPl A.1.2.1 (nI c))))) h) := by
  obtain ⟨e, ⟨sl, hsl, hL⟩, -⟩ := id C
  have k := t_place e hL (v := nI c)
  rw [if_pos (in2 hc)] at k
  exact k
set_option maxRecDepth 100000 in
set_option maxHeartbeats 2000000 in
theorem us_q_goesUp {h : AHp} {A : AS} {c : Nat} (C : CRep h A) (hc : c < 2) (hu : gU A.1.2.1) : JM mi_X5_goesUp 7 1 6 [.ref 0, .int (nI c)] h (oj_is (.inl (some (.int (bI (sUp (uB A.1.2.1) (nI c)))))) h) := by
  obtain ⟨e, ⟨sl, hsl, hL⟩, -⟩ := id C
  have k := t_goesUp e hL (v := nI c) hu
  rw [if_pos (in2 hc)] at k
  exact k
set_option maxRecDepth 100000 in
set_option maxHeartbeats 2000000 in
theorem us_q_nextSegment {h : AHp} {A : AS} {c : Nat} (C : CRep h A) (hc : c < 2) (hu : gU A.1.2.1) : JM mi_X5_nextSegment 7 1 6 [.ref 0, .int (nI c)] h (oj_is (.inl (some (.int (sAhead A.1.2.1 (uB A.1.2.1) (nI c))))) h) := by
  obtain ⟨e, ⟨sl, hsl, hL⟩, -⟩ := id C
  have k := t_nextSegment e hL (v := nI c) hu
  rw [if_pos (in2 hc)] at k
  exact k
set_option maxRecDepth 100000 in
set_option maxHeartbeats 2000000 in
theorem us_q_cabinWeight {h : AHp} {A : AS} {c : Nat} (C : CRep h A) (hc : c < 2) : JM mi_X5_cabinWeight 7 1 6 [.ref 0, .int (nI c)] h (oj_is (.inl (some (.int (crFull A.1.2.2.1 (nI c))))) h) := by
  obtain ⟨e, ⟨sl, hsl, hL⟩, -⟩ := id C
  have k := t_cabinWeight e hL (v := nI c)
  rw [if_pos (in2 hc)] at k
  exact k
set_option maxRecDepth 100000 in
set_option maxHeartbeats 2000000 in
theorem us_q_riders {h : AHp} {A : AS} {c : Nat} (C : CRep h A) (hc : c < 2) : JM mi_X5_riders 7 1 6 [.ref 0, .int (nI c)] h (oj_is (.inl (some (.int (nI (crRid A.1.2.2.1 (nI c)))))) h) := by
  obtain ⟨e, ⟨sl, hsl, hL⟩, -⟩ := id C
  have k := t_riders e hL (v := nI c)
  rw [if_pos (in2 hc)] at k
  exact k
set_option maxRecDepth 100000 in
set_option maxHeartbeats 2000000 in
theorem us_q_unitsUntil {h : AHp} {A : AS} {c s : Nat} (C : CRep h A) (hc : c < 2) (hs : s < 7) (hu : gU A.1.2.1) : JM mi_X5_unitsUntil 7 1 6 [.ref 0, .int (nI c), .int (nI s)] h (oj_is (.inl (some (.int (uFm (sPl A.1.2.1 (nI c)) (sUp (uB A.1.2.1) (nI c)) (nI s * 4))))) h) := by
  obtain ⟨e, ⟨sl, hsl, hL⟩, -⟩ := id C
  have k := t_unitsUntil e hL (v := nI c) (w := nI s) hu
  rw [if_pos ⟨in2 hc, in7 hs⟩] at k
  exact k
set_option maxRecDepth 100000 in
set_option maxHeartbeats 2000000 in
theorem us_q_unitsUntilByMoving {h : AHp} {A : AS} {c s : Nat} (C : CRep h A) (hc : c < 2) (hs : s < 7) (hu : gU A.1.2.1) : JM mi_X5_unitsUntilByMoving 7 1 6 [.ref 0, .int (nI c), .int (nI s)] h (oj_is (.inl (some (.int (nI (uMv (nI s * 4) 48 (sPl A.1.2.1 (nI c)) (sUp (uB A.1.2.1) (nI c))))))) h) := by
  obtain ⟨e, ⟨sl, hsl, hL⟩, -⟩ := id C
  have k := t_unitsUntilByMoving e hL (v := nI c) (w := nI s) hu
  rw [if_pos ⟨in2 hc, in7 hs⟩] at k
  exact k
set_option maxRecDepth 100000 in
set_option maxHeartbeats 2000000 in
theorem us_q_slope {h : AHp} {A : AS} {g : Nat} (C : CRep h A) (hg : g < 6) : JM mi_X5_slope 7 1 6 [.ref 0, .int (nI g)] h (oj_is (.inl (some (.int (A.1.1 g)))) h) := by
  obtain ⟨e, ⟨sl, hsl, hL⟩, -⟩ := id C
  have k := t_slope e hL (v := nI g)
  rw [if_pos (in6 hg), nI_clamp (by omega), hsl g hg] at k
  exact k
set_option maxRecDepth 100000 in
set_option maxHeartbeats 2000000 in
theorem us_q_waiting {h : AHp} {A : AS} {s : Nat} (C : CRep h A) (hs : s < 7) : JM mi_X5_waiting 7 1 6 [.ref 0, .int (nI s)] h (oj_is (.inl (some (.int (nI (crWtg A.1.2.2.1 (nI s)))))) h) := by
  obtain ⟨e, ⟨sl, hsl, hL⟩, -⟩ := id C
  have k := t_waiting e hL (v := nI s)
  rw [if_pos (in7 hs)] at k
  exact k
set_option maxRecDepth 100000 in
set_option maxHeartbeats 2000000 in
theorem us_q_weight {h : AHp} {A : AS} {i : Nat} {p : Int32} (C : CRep h A) (hp : lnRow A.1.2.2.1 p = nI i) (hi : i ≤ 20) : JM mi_X5_weight 7 1 6 [.ref 0, .int p] h (oj_is (.inl (some (.int (rWt (rAt A.1.2.2.1 i))))) h) := by
  obtain ⟨e, ⟨sl, hsl, hL⟩, -⟩ := id C
  have k := t_weight e hL (v := p)
  rw [rowI_at hp hi] at k
  exact k
set_option maxRecDepth 100000 in
set_option maxHeartbeats 2000000 in
theorem us_q_destination {h : AHp} {A : AS} {i : Nat} {p : Int32} (C : CRep h A) (hp : lnRow A.1.2.2.1 p = nI i) (hi : i ≤ 20) : JM mi_X5_destination 7 1 6 [.ref 0, .int p] h (oj_is (.inl (some (.int (rDst (rAt A.1.2.2.1 i))))) h) := by
  obtain ⟨e, ⟨sl, hsl, hL⟩, -⟩ := id C
  have k := t_destination e hL (v := p)
  rw [rowI_at hp hi] at k
  exact k
set_option maxRecDepth 100000 in
set_option maxHeartbeats 2000000 in
theorem us_q_isPresent {h : AHp} {A : AS} {i : Nat} {p : Int32} (C : CRep h A) (hp : lnRow A.1.2.2.1 p = nI i) (hi : i ≤ 20) : JM mi_X5_isPresent 3 0 0 [.ref 0, .int p] h (oj_is (.inl (some (.int (bI true)))) h) := by
  obtain ⟨e, ⟨sl, hsl, hL⟩, -⟩ := id C
  have k := t_isPresent e hL (v := p)
  rw [hp] at k
  have e9 : (nI i == -1) = false := by
    have : ¬ nI i = -1 := fun z => absurd (nI_pos' (n := i) (by omega)) (by rw [z]; decide)
    exact beq_eq_false_iff_ne.mpr this
  rw [e9] at k
  exact k
set_option maxRecDepth 100000 in
set_option maxHeartbeats 2000000 in
theorem us_w_station {h : AHp} {A : AS} {c : Nat} (C : CRep h A) (hc : c < 2) : JM mi_L_station 8 1 6 [.ref 0, .int (nI c)] h (oj_is (.inl (some (.int (if sAtS A.1.2.1 = true then sPl A.1.2.1 (nI c) / 4 else -900002)))) h) := by
  obtain ⟨e, ⟨sl, hsl, hL⟩, -⟩ := id C
  have k := t_station e hL (v := nI c)
  rw [if_pos (in2 hc)] at k
  by_cases z : sAtS A.1.2.1 = true
  · rw [if_pos z] at k ⊢
    exact w_station (P := fun h' => h' = h) (Nat.le_refl _) (Nat.le_refl _) k e (Or.inl rfl)
  · rw [if_neg z] at k ⊢
    exact w_station (P := fun h' => h' = h) (Nat.le_refl _) (Nat.le_refl _) k e (Or.inr (Or.inr ⟨rfl, rfl⟩))
set_option maxRecDepth 100000 in
set_option maxHeartbeats 2000000 in
theorem us_w_riderAt {h : AHp} {A : AS} {c i : Nat} {v : Int32} (C : CRep h A) (hc : c < 2) (hr : crRrow A.1.2.2.1 (nI c) v = nI i) (hi : i ≤ 20) : JM mi_L_riderAt 8 1 6 [.ref 0, .int (nI c), .int v] h (oj_is (.inl (some (.int (rNum (rAt A.1.2.2.1 i))))) h) := by
  obtain ⟨e, ⟨sl, hsl, hL⟩, -⟩ := id C
  have k := t_riderAt e hL (v := nI c) (w := v)
  rw [if_pos (in2 hc), rowI_at hr hi] at k
  exact w_riderAt (P := fun h' => h' = h) (Nat.le_refl _) (Nat.le_refl _) k e (Or.inl rfl)
set_option maxRecDepth 100000 in
set_option maxHeartbeats 2000000 in
theorem us_w_riderAtN {h : AHp} {A : AS} {c : Nat} {v : Int32} (C : CRep h A) (hc : c < 2) (hr : crRrow A.1.2.2.1 (nI c) v = -1) : JM mi_L_riderAt 8 1 6 [.ref 0, .int (nI c), .int v] h (oj_is (.inl (some (.int (-900002)))) h) := by
  obtain ⟨e, ⟨sl, hsl, hL⟩, -⟩ := id C
  have k := t_riderAt e hL (v := nI c) (w := v)
  rw [if_pos (in2 hc), rowI_no hr] at k
  exact w_riderAt (P := fun h' => h' = h) (Nat.le_refl _) (Nat.le_refl _) k e (Or.inr (Or.inr ⟨rfl, rfl⟩))
set_option maxRecDepth 100000 in
set_option maxHeartbeats 2000000 in
theorem us_w_cabinOf {h : AHp} {A : AS} {i : Nat} {p : Int32} (C : CRep h A) (hp : lnRow A.1.2.2.1 p = nI i) (hi : i ≤ 20) : JM mi_L_cabinOf 8 1 6 [.ref 0, .int p] h (oj_is (.inl (some (.int (if rCab (rAt A.1.2.2.1 i) = -1 then -900001 else rCab (rAt A.1.2.2.1 i))))) h) := by
  obtain ⟨e, ⟨sl, hsl, hL⟩, -⟩ := id C
  have k := t_cabinOf e hL (v := p)
  rw [hp, nI_clamp (by omega)] at k
  have hn : ¬ nI i = -1 := fun z => absurd (nI_pos' (n := i) (by omega)) (by rw [z]; decide)
  by_cases z : rCab (rAt A.1.2.2.1 i) = -1
  · rw [if_pos (Or.inr z)] at k
    rw [if_pos z]
    exact w_cabinOf (P := fun h' => h' = h) (Nat.le_refl _) (Nat.le_refl _) k e (Or.inr ⟨rfl, rfl⟩)
  · rw [if_neg (fun y => y.elim hn z)] at k
    rw [if_neg z]
    exact w_cabinOf (P := fun h' => h' = h) (Nat.le_refl _) (Nat.le_refl _) k e (Or.inl rfl)
set_option maxRecDepth 100000 in
set_option maxHeartbeats 2000000 in
theorem us_w_waitingAt {h : AHp} {A : AS} {s i : Nat} {v : Int32} (C : CRep h A) (hs : s < 7) (hr : crWrow A.1.2.2.1 (nI s) v = nI i) (hi : i ≤ 20) : JM mi_L_waitingAt 8 1 6 [.ref 0, .int (nI s), .int v] h (oj_is (.inl (some (.int (rNum (rAt A.1.2.2.1 i))))) h) := by
  obtain ⟨e, ⟨sl, hsl, hL⟩, -⟩ := id C
  have k := t_waitingAt e hL (v := nI s) (w := v)
  rw [if_pos (in7 hs), rowI_at hr hi] at k
  exact w_waitingAt (P := fun h' => h' = h) (Nat.le_refl _) (Nat.le_refl _) k e (Or.inl rfl)
set_option maxRecDepth 100000 in
set_option maxHeartbeats 2000000 in
theorem us_w_pickerByWeight {h : AHp} {A : AS} {i : Nat} {v : Int32} (C : CRep h A) (hr : crByW A.1.2.2.1 v = nI i) (hi : i ≤ 20) : JM mi_L_pickerByWeight 8 1 6 [.ref 0, .int v] h (oj_is (.inl (some (.int (rNum (rAt A.1.2.2.1 i))))) h) := by
  obtain ⟨e, ⟨sl, hsl, hL⟩, -⟩ := id C
  have k := t_pickerByWeight e hL (v := v)
  rw [rowI_at hr hi] at k
  exact w_pickerByWeight (P := fun h' => h' = h) (Nat.le_refl _) (Nat.le_refl _) k e (Or.inl rfl)
