/-- one wrapped call at the state A: both sides' code c, the values where c = 0, the state B behind it -/
def UU (μw μr : MI) (dw dr : Nat) (as : List Value) (A : AS) (n : Nat) : Prop := ∃ (B : AS) (c val b : Int32), AI B (n + 1) ∧ (c = 0 → b = val) ∧ (∀ (h : AHp) (f : Nat → Int64), CRep h A → h 129 = .inl (2, 1, .inr (.inl f)) → JM μw dw 1 6 (.ref 0 :: (as ++ [.ref 129])) h (fun r h' => r = .inl (some (.int c)) ∧ WH h B c val h')) ∧ (∀ (h : AHp) (v : Nat → Int32) (R : Nat → Nat → Int32), MdAt h v R → RS v R A → JM μr dr 0 0 (.ref 121 :: as) h (fun r h' => r = .inl (some (.int b)) ∧ RP h B c h'))
theorem JM_q {μ : MI} {d mc ms : Nat} {av : List Value} {h : AHp} {A : AS} {r0 S : Option Value ⊕ String} (HC : CRep h A) (H : JM μ d mc ms av h (oj_is r0 h)) (e : r0 = S) : JM μ d mc ms av h (fun r h' => r = S ∧ CStep h A h') := JM_imp H (fun r h' q => ⟨q.1.trans e, by rw [q.2]; exact CStep.rf HC⟩)
theorem JM_m {μ : MI} {d mc ms : Nat} {av : List Value} {h : AHp} {A : AS} {v : Nat → Int32} {R : Nat → Nat → Int32} {b b' c c' : Int32} (HS : RS v R A) (H : JM μ d mc ms av h (fun r h' => r = .inl (some (.int b)) ∧ MdP h (fset v 1 c) R h')) (eb : b = b') (ec : c = c') : JM μ d mc ms av h (fun r h' => r = .inl (some (.int b')) ∧ RP h A c' h') := JM_imp H (fun r h' q => by obtain ⟨q1, q2⟩ := q; rw [eb] at q1; rw [ec] at q2; exact ⟨q1, RP_q HS q2⟩)
theorem JM_n {μ : MI} {d mc ms : Nat} {av : List Value} {h : AHp} {A A' : AS} {b b' c c' : Int32} (H : JM μ d mc ms av h (fun r h' => r = .inl (some (.int b)) ∧ RP h A c h')) (eA : A = A') (eb : b = b') (ec : c = c') : JM μ d mc ms av h (fun r h' => r = .inl (some (.int b')) ∧ RP h A' c' h') := by
  subst eA; subst eb; subst ec; exact H
theorem JM_c {μ : MI} {d mc ms : Nat} {av : List Value} {h : AHp} {A A' : AS} {S S' : Option Value ⊕ String} (H : JM μ d mc ms av h (fun r h' => r = S ∧ CStep h A h')) (eA : A = A') (eS : S = S') : JM μ d mc ms av h (fun r h' => r = S' ∧ CStep h A' h') := by
  subst eA; subst eS; exact H
theorem bI_or : ∀ b, bI b = 0 ∨ bI b = 1 := by decide
theorem CRep_outP {h h' : AHp} {A : AS} {w : List Int32} (H : CRep h A) (K : OutP h 113 w h') : CStep h (A.1, A.2.1, A.2.2.1, w, A.2.2.2.2) h' := by
  obtain ⟨e, hL, ⟨q1, w1⟩, ⟨q2, w2⟩, hsv2, hH, hO, T, p, m, hP⟩ := H
  have hh : ∀ x, x < 113 ∨ 114 < x → h' x = h x := fun x z => K.2 x (by omega) (by omega)
  exact ⟨⟨(hh _ (by decide)).trans e, LnR_mv (fun x z1 z2 => hh x (by omega)) hL, ⟨q1, LnR_mv (fun x z1 z2 => hh x (by omega)) w1⟩, ⟨q2, LnR_mv (fun x z1 z2 => hh x (by omega)) w2⟩, fun q w => LnR_mv (fun x z1 z2 => hh x (by omega)) (hsv2 q w), HsAt_mv (fun x z1 z2 => hh x (by omega)) hH, K.1, T, p, m, PgAt_mv (fun x z1 z2 => hh x (by omega)) hP⟩, fun x z => hh x (by omega)⟩
set_option maxRecDepth 100000 in
set_option maxHeartbeats 2000000 in
theorem u_ufm {F : Nat → Int32} {l : List Row} {v w : Int32} (hs : SoundC F l) (hc : (0 ≤ v ∧ v < 2) ∧ 0 ≤ w ∧ w < 7) : uFm (sPl F v) (sUp (uB F) v) (w * 4) = nI (uMv (w * 4) 48 (sPl F v) (sUp (uB F) v)) := by
  obtain ⟨a, ha, ea⟩ := i32_lt2 (st2.mpr hc.1)
  obtain ⟨b, hb, eb⟩ := i32_lt7 (st7.mpr hc.2)
  rw [ea, eb]
  exact sc_units hs ha hb
theorem LI_wt {q : LQ} {T κ : Nat} (H : LI q T κ) : ∀ j, j < q.2.2.1.length → 0 ≤ (rAt q.2.2.1 j).2.1 ∧ (rAt q.2.2.1 j).2.1 ≤ 1000 := by
  obtain ⟨cm, t, nb, hR, -⟩ := LI_row H
  intro j hj
  obtain ⟨n, w, a, b, ca, -, ⟨h2, h3, h4⟩, -⟩ := hR j hj
  rw [h2]
  exact ⟨nI_pos' (by omega), nI_le (a := w) (b := 1000) (by omega) (by omega)⟩
set_option maxRecDepth 100000 in
set_option maxHeartbeats 2000000 in
theorem u_place {A : AS} {n : Nat} {p0 : Int32} (HA : AI A n) (hn : n < 512) : UU mi_L_place mi_X6_place 8 2 [.int p0] A n := by
  have hI := AI_cur HA
  by_cases hc : 0 ≤ p0 ∧ p0 < 2
  · refine ⟨A, 0, sPl A.1.2.1 p0, sPl A.1.2.1 p0, AI_step HA hn, fun _ => rfl, fun h f HC hf => ?_, fun h v R HM HS => ?_⟩
    · obtain ⟨e, ⟨sl', hs, hL⟩, -⟩ := id HC
      exact w_place (by decide) (by decide) (JM_q HC (t_place e hL) ((if_pos hc))) e hf (Or.inl ⟨rfl, rfl⟩)
    · exact JM_m HS (m_place HM HS.1) ((if_pos (st2.mpr hc))) ((if_pos (st2.mpr hc)))
  · refine ⟨A, 1, 0, 0, AI_step HA hn, fun _ => rfl, fun h f HC hf => ?_, fun h v R HM HS => ?_⟩
    · obtain ⟨e, ⟨sl', hs, hL⟩, -⟩ := id HC
      exact w_place (by decide) (by decide) (JM_q HC (t_place e hL) ((if_neg hc))) e hf (Or.inr (⟨rfl, rfl⟩))
    · exact JM_m HS (m_place HM HS.1) ((if_neg ((fun z => hc (st2.mp z))))) ((if_neg ((fun z => hc (st2.mp z)))))
set_option maxRecDepth 100000 in
set_option maxHeartbeats 2000000 in
theorem u_goesUp {A : AS} {n : Nat} {p0 : Int32} (HA : AI A n) (hn : n < 512) : UU mi_L_goesUp mi_X6_goesUp 8 2 [.int p0] A n := by
  have hI := AI_cur HA
  by_cases hc : 0 ≤ p0 ∧ p0 < 2
  · refine ⟨A, 0, bI (sUp (uB A.1.2.1) p0), bI (sUp (uB A.1.2.1) p0), AI_step HA hn, fun _ => rfl, fun h f HC hf => ?_, fun h v R HM HS => ?_⟩
    · obtain ⟨e, ⟨sl', hs, hL⟩, -⟩ := id HC
      exact w_goesUp (by decide) (by decide) (JM_q HC (t_goesUp e hL hI.gU) ((if_pos hc))) e hf (Or.inl ⟨rfl, rfl⟩) (bI_or _)
    · exact JM_m HS (m_goesUp HM HS.1 hI.gU) ((if_pos (st2.mpr hc))) ((if_pos (st2.mpr hc)))
  · refine ⟨A, 1, 0, 0, AI_step HA hn, fun _ => rfl, fun h f HC hf => ?_, fun h v R HM HS => ?_⟩
    · obtain ⟨e, ⟨sl', hs, hL⟩, -⟩ := id HC
      exact w_goesUp (by decide) (by decide) (JM_q HC (t_goesUp e hL hI.gU) ((if_neg hc))) e hf (Or.inr (⟨rfl, rfl⟩)) (Or.inl rfl)
    · exact JM_m HS (m_goesUp HM HS.1 hI.gU) ((if_neg ((fun z => hc (st2.mp z))))) ((if_neg ((fun z => hc (st2.mp z)))))
set_option maxRecDepth 100000 in
set_option maxHeartbeats 2000000 in
theorem u_nextSegment {A : AS} {n : Nat} {p0 : Int32} (HA : AI A n) (hn : n < 512) : UU mi_L_nextSegment mi_X6_nextSegment 8 2 [.int p0] A n := by
  have hI := AI_cur HA
  by_cases hc : 0 ≤ p0 ∧ p0 < 2
  · refine ⟨A, 0, sAhead A.1.2.1 (uB A.1.2.1) p0, sAhead A.1.2.1 (uB A.1.2.1) p0, AI_step HA hn, fun _ => rfl, fun h f HC hf => ?_, fun h v R HM HS => ?_⟩
    · obtain ⟨e, ⟨sl', hs, hL⟩, -⟩ := id HC
      exact w_nextSegment (by decide) (by decide) (JM_q HC (t_nextSegment e hL hI.gU) ((if_pos hc))) e hf (Or.inl ⟨rfl, rfl⟩)
    · exact JM_m HS (m_nextSegment HM HS.1 hI.gU) ((if_pos (st2.mpr hc))) ((if_pos (st2.mpr hc)))
  · refine ⟨A, 1, 0, 0, AI_step HA hn, fun _ => rfl, fun h f HC hf => ?_, fun h v R HM HS => ?_⟩
    · obtain ⟨e, ⟨sl', hs, hL⟩, -⟩ := id HC
      exact w_nextSegment (by decide) (by decide) (JM_q HC (t_nextSegment e hL hI.gU) ((if_neg hc))) e hf (Or.inr (⟨rfl, rfl⟩))
    · exact JM_m HS (m_nextSegment HM HS.1 hI.gU) ((if_neg ((fun z => hc (st2.mp z))))) ((if_neg ((fun z => hc (st2.mp z)))))
set_option maxRecDepth 100000 in
set_option maxHeartbeats 2000000 in
theorem u_cabinWeight {A : AS} {n : Nat} {p0 : Int32} (HA : AI A n) (hn : n < 512) : UU mi_L_cabinWeight mi_X6_cabinWeight 8 2 [.int p0] A n := by
  have hI := AI_cur HA
  by_cases hc : 0 ≤ p0 ∧ p0 < 2
  · refine ⟨A, 0, crFull A.1.2.2.1 p0, crFull A.1.2.2.1 p0, AI_step HA hn, fun _ => rfl, fun h f HC hf => ?_, fun h v R HM HS => ?_⟩
    · obtain ⟨e, ⟨sl', hs, hL⟩, -⟩ := id HC
      exact w_cabinWeight (by decide) (by decide) (JM_q HC (t_cabinWeight e hL) ((if_pos hc))) e hf (Or.inl ⟨rfl, rfl⟩)
    · exact JM_m HS (m_cabinWeight HM HS.1) ((if_pos (st2.mpr hc))) ((if_pos (st2.mpr hc)))
  · refine ⟨A, 1, 0, 0, AI_step HA hn, fun _ => rfl, fun h f HC hf => ?_, fun h v R HM HS => ?_⟩
    · obtain ⟨e, ⟨sl', hs, hL⟩, -⟩ := id HC
      exact w_cabinWeight (by decide) (by decide) (JM_q HC (t_cabinWeight e hL) ((if_neg hc))) e hf (Or.inr (⟨rfl, rfl⟩))
    · exact JM_m HS (m_cabinWeight HM HS.1) ((if_neg ((fun z => hc (st2.mp z))))) ((if_neg ((fun z => hc (st2.mp z)))))
set_option maxRecDepth 100000 in
set_option maxHeartbeats 2000000 in
theorem u_riders {A : AS} {n : Nat} {p0 : Int32} (HA : AI A n) (hn : n < 512) : UU mi_L_riders mi_X6_riders 8 2 [.int p0] A n := by
  have hI := AI_cur HA
  by_cases hc : 0 ≤ p0 ∧ p0 < 2
  · refine ⟨A, 0, nI (crRid A.1.2.2.1 p0), nI (crRid A.1.2.2.1 p0), AI_step HA hn, fun _ => rfl, fun h f HC hf => ?_, fun h v R HM HS => ?_⟩
    · obtain ⟨e, ⟨sl', hs, hL⟩, -⟩ := id HC
      exact w_riders (by decide) (by decide) (JM_q HC (t_riders e hL) ((if_pos hc))) e hf (Or.inl ⟨rfl, rfl⟩)
    · exact JM_m HS (m_riders HM HS.1) ((if_pos (st2.mpr hc))) ((if_pos (st2.mpr hc)))
  · refine ⟨A, 1, 0, 0, AI_step HA hn, fun _ => rfl, fun h f HC hf => ?_, fun h v R HM HS => ?_⟩
    · obtain ⟨e, ⟨sl', hs, hL⟩, -⟩ := id HC
      exact w_riders (by decide) (by decide) (JM_q HC (t_riders e hL) ((if_neg hc))) e hf (Or.inr (⟨rfl, rfl⟩))
    · exact JM_m HS (m_riders HM HS.1) ((if_neg ((fun z => hc (st2.mp z))))) ((if_neg ((fun z => hc (st2.mp z)))))
set_option maxRecDepth 100000 in
set_option maxHeartbeats 2000000 in
theorem u_station {A : AS} {n : Nat} {p0 : Int32} (HA : AI A n) (hn : n < 512) : UU mi_L_station mi_X6_station 8 2 [.int p0] A n := by
  have hI := AI_cur HA
  by_cases hc : 0 ≤ p0 ∧ p0 < 2
  · by_cases h2 : sAtS A.1.2.1 = true
    · refine ⟨A, 0, sPl A.1.2.1 p0 / 4, sPl A.1.2.1 p0 / 4, AI_step HA hn, fun _ => rfl, fun h f HC hf => ?_, fun h v R HM HS => ?_⟩
      · obtain ⟨e, ⟨sl', hs, hL⟩, -⟩ := id HC
        exact w_station (by decide) (by decide) (JM_q HC (t_station e hL) ((if_pos hc).trans (if_pos h2))) e hf (Or.inl ⟨rfl, rfl⟩)
      · exact JM_m HS (m_station HM HS.1) ((if_pos (st2.mpr hc)).trans (if_pos (h2))) ((if_pos (st2.mpr hc)).trans (if_pos (h2)))
    · refine ⟨A, 2, 0, 0, AI_step HA hn, fun _ => rfl, fun h f HC hf => ?_, fun h v R HM HS => ?_⟩
      · obtain ⟨e, ⟨sl', hs, hL⟩, -⟩ := id HC
        exact w_station (by decide) (by decide) (JM_q HC (t_station e hL) ((if_pos hc).trans (if_neg h2))) e hf (Or.inr (Or.inr (⟨rfl, rfl⟩)))
      · exact JM_m HS (m_station HM HS.1) ((if_pos (st2.mpr hc)).trans (if_neg (h2))) ((if_pos (st2.mpr hc)).trans (if_neg (h2)))
  · refine ⟨A, 1, 0, 0, AI_step HA hn, fun _ => rfl, fun h f HC hf => ?_, fun h v R HM HS => ?_⟩
    · obtain ⟨e, ⟨sl', hs, hL⟩, -⟩ := id HC
      exact w_station (by decide) (by decide) (JM_q HC (t_station e hL) ((if_neg hc))) e hf (Or.inr (Or.inl ⟨rfl, rfl⟩))
    · exact JM_m HS (m_station HM HS.1) ((if_neg ((fun z => hc (st2.mp z))))) ((if_neg ((fun z => hc (st2.mp z)))))
set_option maxRecDepth 100000 in
set_option maxHeartbeats 2000000 in
theorem u_unitsUntil {A : AS} {n : Nat} {p0 p1 : Int32} (HA : AI A n) (hn : n < 512) : UU mi_L_unitsUntil mi_X6_unitsUntil 8 2 [.int p0, .int p1] A n := by
  have hI := AI_cur HA
  by_cases hc : (0 ≤ p0 ∧ p0 < 2) ∧ 0 ≤ p1 ∧ p1 < 7
  · refine ⟨A, 0, nI (uMv (p1 * 4) 48 (sPl A.1.2.1 p0) (sUp (uB A.1.2.1) p0)), nI (uMv (p1 * 4) 48 (sPl A.1.2.1 p0) (sUp (uB A.1.2.1) p0)), AI_step HA hn, fun _ => rfl, fun h f HC hf => ?_, fun h v R HM HS => ?_⟩
    · obtain ⟨e, ⟨sl', hs, hL⟩, -⟩ := id HC
      exact w_unitsUntil (by decide) (by decide) (JM_q HC (t_unitsUntil e hL hI.gU) (((if_pos hc)).trans (congrArg (fun z => (Sum.inl (some (Value.int z)) : Option Value ⊕ String)) (u_ufm (LI_SC hI) hc)))) e hf (Or.inl ⟨rfl, rfl⟩)
    · exact JM_m HS (m_unitsUntil HM HS.1 (LI_SC hI)) ((if_pos (⟨st2.mpr hc.1, st7.mpr hc.2⟩))) ((if_pos (⟨st2.mpr hc.1, st7.mpr hc.2⟩)))
  · refine ⟨A, 1, 0, 0, AI_step HA hn, fun _ => rfl, fun h f HC hf => ?_, fun h v R HM HS => ?_⟩
    · obtain ⟨e, ⟨sl', hs, hL⟩, -⟩ := id HC
      exact w_unitsUntil (by decide) (by decide) (JM_q HC (t_unitsUntil e hL hI.gU) ((if_neg hc))) e hf (Or.inr (⟨rfl, rfl⟩))
    · exact JM_m HS (m_unitsUntil HM HS.1 (LI_SC hI)) ((if_neg ((fun z => hc ⟨st2.mp z.1, st7.mp z.2⟩)))) ((if_neg ((fun z => hc ⟨st2.mp z.1, st7.mp z.2⟩))))
set_option maxRecDepth 100000 in
set_option maxHeartbeats 2000000 in
theorem u_unitsUntilByMoving {A : AS} {n : Nat} {p0 p1 : Int32} (HA : AI A n) (hn : n < 512) : UU mi_L_unitsUntilByMoving mi_X6_unitsUntilByMoving 8 3 [.int p0, .int p1] A n := by
  have hI := AI_cur HA
  by_cases hc : (0 ≤ p0 ∧ p0 < 2) ∧ 0 ≤ p1 ∧ p1 < 7
  · refine ⟨A, 0, nI (uMv (p1 * 4) 48 (sPl A.1.2.1 p0) (sUp (uB A.1.2.1) p0)), nI (uMv (p1 * 4) 48 (sPl A.1.2.1 p0) (sUp (uB A.1.2.1) p0)), AI_step HA hn, fun _ => rfl, fun h f HC hf => ?_, fun h v R HM HS => ?_⟩
    · obtain ⟨e, ⟨sl', hs, hL⟩, -⟩ := id HC
      exact w_unitsUntilByMoving (by decide) (by decide) (JM_q HC (t_unitsUntilByMoving e hL hI.gU) ((if_pos hc))) e hf (Or.inl ⟨rfl, rfl⟩)
    · exact JM_m HS (m_unitsUntilByMoving HM HS.1 (LI_SC hI)) ((if_pos (⟨st2.mpr hc.1, st7.mpr hc.2⟩))) ((if_pos (⟨st2.mpr hc.1, st7.mpr hc.2⟩)))
  · refine ⟨A, 1, 0, 0, AI_step HA hn, fun _ => rfl, fun h f HC hf => ?_, fun h v R HM HS => ?_⟩
    · obtain ⟨e, ⟨sl', hs, hL⟩, -⟩ := id HC
      exact w_unitsUntilByMoving (by decide) (by decide) (JM_q HC (t_unitsUntilByMoving e hL hI.gU) ((if_neg hc))) e hf (Or.inr (⟨rfl, rfl⟩))
    · exact JM_m HS (m_unitsUntilByMoving HM HS.1 (LI_SC hI)) ((if_neg ((fun z => hc ⟨st2.mp z.1, st7.mp z.2⟩)))) ((if_neg ((fun z => hc ⟨st2.mp z.1, st7.mp z.2⟩))))
set_option maxRecDepth 100000 in
set_option maxHeartbeats 2000000 in
theorem u_slope {A : AS} {n : Nat} {p0 : Int32} (HA : AI A n) (hn : n < 512) : UU mi_L_slope mi_X6_slope 8 2 [.int p0] A n := by
  have hI := AI_cur HA
  by_cases hc : 0 ≤ p0 ∧ p0 < 6
  · refine ⟨A, 0, A.1.1 p0.toNatClampNeg, A.1.1 p0.toNatClampNeg, AI_step HA hn, fun _ => rfl, fun h f HC hf => ?_, fun h v R HM HS => ?_⟩
    · obtain ⟨e, ⟨sl', hs, hL⟩, -⟩ := id HC
      have hc1 := st6.mpr hc
      exact w_slope (by decide) (by decide) (JM_q HC (t_slope e hL) (((if_pos hc)).trans (congrArg (fun z => (Sum.inl (some (Value.int z)) : Option Value ⊕ String)) (hs _ (by obtain ⟨a, ea, a1, a2⟩ := i32_nat (a := 0) (b := 5) hc1.1 hc1.2 (by decide) (by decide); rw [ea, nI_clamp (by omega)]; omega))))) e hf (Or.inl ⟨rfl, rfl⟩)
    · exact JM_m HS (m_slope HM HS.1) ((if_pos (st6.mpr hc))) ((if_pos (st6.mpr hc)))
  · refine ⟨A, 1, 0, 0, AI_step HA hn, fun _ => rfl, fun h f HC hf => ?_, fun h v R HM HS => ?_⟩
    · obtain ⟨e, ⟨sl', hs, hL⟩, -⟩ := id HC
      exact w_slope (by decide) (by decide) (JM_q HC (t_slope e hL) ((if_neg hc))) e hf (Or.inr (⟨rfl, rfl⟩))
    · exact JM_m HS (m_slope HM HS.1) ((if_neg ((fun z => hc (st6.mp z))))) ((if_neg ((fun z => hc (st6.mp z)))))
set_option maxRecDepth 100000 in
set_option maxHeartbeats 2000000 in
theorem u_waiting {A : AS} {n : Nat} {p0 : Int32} (HA : AI A n) (hn : n < 512) : UU mi_L_waiting mi_X6_waiting 8 3 [.int p0] A n := by
  have hI := AI_cur HA
  by_cases hc : 0 ≤ p0 ∧ p0 < 7
  · refine ⟨A, 0, nI (crWtg A.1.2.2.1 p0), nI (crWtg A.1.2.2.1 p0), AI_step HA hn, fun _ => rfl, fun h f HC hf => ?_, fun h v R HM HS => ?_⟩
    · obtain ⟨e, ⟨sl', hs, hL⟩, -⟩ := id HC
      exact w_waiting (by decide) (by decide) (JM_q HC (t_waiting e hL) ((if_pos hc))) e hf (Or.inl ⟨rfl, rfl⟩)
    · exact JM_m HS (m_waiting HM HS.1) ((if_pos (st7.mpr hc))) ((if_pos (st7.mpr hc)))
  · refine ⟨A, 1, 0, 0, AI_step HA hn, fun _ => rfl, fun h f HC hf => ?_, fun h v R HM HS => ?_⟩
    · obtain ⟨e, ⟨sl', hs, hL⟩, -⟩ := id HC
      exact w_waiting (by decide) (by decide) (JM_q HC (t_waiting e hL) ((if_neg hc))) e hf (Or.inr (⟨rfl, rfl⟩))
    · exact JM_m HS (m_waiting HM HS.1) ((if_neg ((fun z => hc (st7.mp z))))) ((if_neg ((fun z => hc (st7.mp z)))))
set_option maxRecDepth 100000 in
set_option maxHeartbeats 2000000 in
theorem u_weight {A : AS} {n : Nat} {p0 : Int32} (HA : AI A n) (hn : n < 512) : UU mi_L_weight mi_X6_weight 8 3 [.int p0] A n := by
  have hI := AI_cur HA
  by_cases hc : lnRow A.1.2.2.1 p0 = -1
  · refine ⟨A, 1, 0, 0, AI_step HA hn, fun _ => rfl, fun h f HC hf => ?_, fun h v R HM HS => ?_⟩
    · obtain ⟨e, ⟨sl', hs, hL⟩, -⟩ := id HC
      exact w_weight (by decide) (by decide) (JM_q HC (t_weight e hL) ((if_pos hc))) e hf (Or.inr (⟨rfl, rfl⟩))
    · exact JM_m HS (m_weight HM HS.1) ((if_pos (hc))) ((if_pos (hc)))
  · refine ⟨A, 0, (rAt A.1.2.2.1 (lnRow A.1.2.2.1 p0).toNatClampNeg).2.1, (rAt A.1.2.2.1 (lnRow A.1.2.2.1 p0).toNatClampNeg).2.1, AI_step HA hn, fun _ => rfl, fun h f HC hf => ?_, fun h v R HM HS => ?_⟩
    · obtain ⟨e, ⟨sl', hs, hL⟩, -⟩ := id HC
      exact w_weight (by decide) (by decide) (JM_q HC (t_weight e hL) ((if_neg hc))) e hf (Or.inl ⟨rfl, rfl⟩)
    · exact JM_m HS (m_weight HM HS.1) ((if_neg (hc))) ((if_neg (hc)))
set_option maxRecDepth 100000 in
set_option maxHeartbeats 2000000 in
theorem u_destination {A : AS} {n : Nat} {p0 : Int32} (HA : AI A n) (hn : n < 512) : UU mi_L_destination mi_X6_destination 8 3 [.int p0] A n := by
  have hI := AI_cur HA
  by_cases hc : lnRow A.1.2.2.1 p0 = -1
  · refine ⟨A, 1, 0, 0, AI_step HA hn, fun _ => rfl, fun h f HC hf => ?_, fun h v R HM HS => ?_⟩
    · obtain ⟨e, ⟨sl', hs, hL⟩, -⟩ := id HC
      exact w_destination (by decide) (by decide) (JM_q HC (t_destination e hL) ((if_pos hc))) e hf (Or.inr (⟨rfl, rfl⟩))
    · exact JM_m HS (m_destination HM HS.1) ((if_pos (hc))) ((if_pos (hc)))
  · refine ⟨A, 0, (rAt A.1.2.2.1 (lnRow A.1.2.2.1 p0).toNatClampNeg).2.2.2.1, (rAt A.1.2.2.1 (lnRow A.1.2.2.1 p0).toNatClampNeg).2.2.2.1, AI_step HA hn, fun _ => rfl, fun h f HC hf => ?_, fun h v R HM HS => ?_⟩
    · obtain ⟨e, ⟨sl', hs, hL⟩, -⟩ := id HC
      exact w_destination (by decide) (by decide) (JM_q HC (t_destination e hL) ((if_neg hc))) e hf (Or.inl ⟨rfl, rfl⟩)
    · exact JM_m HS (m_destination HM HS.1) ((if_neg (hc))) ((if_neg (hc)))
set_option maxRecDepth 100000 in
set_option maxHeartbeats 2000000 in
theorem u_cabinOf {A : AS} {n : Nat} {p0 : Int32} (HA : AI A n) (hn : n < 512) : UU mi_L_cabinOf mi_X6_cabinOf 8 2 [.int p0] A n := by
  have hI := AI_cur HA
  by_cases hc : lnRow A.1.2.2.1 p0 = -1 ∨ (rAt A.1.2.2.1 (lnRow A.1.2.2.1 p0).toNatClampNeg).2.2.2.2.2.1 = -1
  · refine ⟨A, 1, 0, 0, AI_step HA hn, fun _ => rfl, fun h f HC hf => ?_, fun h v R HM HS => ?_⟩
    · obtain ⟨e, ⟨sl', hs, hL⟩, -⟩ := id HC
      exact w_cabinOf (by decide) (by decide) (JM_q HC (t_cabinOf e hL) ((if_pos hc))) e hf (Or.inr (⟨rfl, rfl⟩))
    · exact JM_m HS (m_cabinOf HM HS.1) ((if_pos (hc))) ((if_pos (hc)))
  · refine ⟨A, 0, (rAt A.1.2.2.1 (lnRow A.1.2.2.1 p0).toNatClampNeg).2.2.2.2.2.1, (rAt A.1.2.2.1 (lnRow A.1.2.2.1 p0).toNatClampNeg).2.2.2.2.2.1, AI_step HA hn, fun _ => rfl, fun h f HC hf => ?_, fun h v R HM HS => ?_⟩
    · obtain ⟨e, ⟨sl', hs, hL⟩, -⟩ := id HC
      exact w_cabinOf (by decide) (by decide) (JM_q HC (t_cabinOf e hL) ((if_neg hc))) e hf (Or.inl ⟨rfl, rfl⟩)
    · exact JM_m HS (m_cabinOf HM HS.1) ((if_neg (hc))) ((if_neg (hc)))
set_option maxRecDepth 100000 in
set_option maxHeartbeats 2000000 in
theorem u_riderAt {A : AS} {n : Nat} {p0 p1 : Int32} (HA : AI A n) (hn : n < 512) : UU mi_L_riderAt mi_X6_riderAt 8 2 [.int p0, .int p1] A n := by
  have hI := AI_cur HA
  by_cases hc : 0 ≤ p0 ∧ p0 < 2
  · by_cases h2 : crRrow A.1.2.2.1 p0 p1 = -1
    · refine ⟨A, 2, 0, 0, AI_step HA hn, fun _ => rfl, fun h f HC hf => ?_, fun h v R HM HS => ?_⟩
      · obtain ⟨e, ⟨sl', hs, hL⟩, -⟩ := id HC
        exact w_riderAt (by decide) (by decide) (JM_q HC (t_riderAt e hL) ((if_pos hc).trans (if_pos h2))) e hf (Or.inr (Or.inr (⟨rfl, rfl⟩)))
      · exact JM_m HS (m_riderAt HM HS.1) ((if_pos (st2.mpr hc)).trans (if_pos (h2))) ((if_pos (st2.mpr hc)).trans (if_pos (h2)))
    · refine ⟨A, 0, (rAt A.1.2.2.1 (crRrow A.1.2.2.1 p0 p1).toNatClampNeg).1, (rAt A.1.2.2.1 (crRrow A.1.2.2.1 p0 p1).toNatClampNeg).1, AI_step HA hn, fun _ => rfl, fun h f HC hf => ?_, fun h v R HM HS => ?_⟩
      · obtain ⟨e, ⟨sl', hs, hL⟩, -⟩ := id HC
        exact w_riderAt (by decide) (by decide) (JM_q HC (t_riderAt e hL) ((if_pos hc).trans (if_neg h2))) e hf (Or.inl ⟨rfl, rfl⟩)
      · exact JM_m HS (m_riderAt HM HS.1) ((if_pos (st2.mpr hc)).trans (if_neg (h2))) ((if_pos (st2.mpr hc)).trans (if_neg (h2)))
  · refine ⟨A, 1, 0, 0, AI_step HA hn, fun _ => rfl, fun h f HC hf => ?_, fun h v R HM HS => ?_⟩
    · obtain ⟨e, ⟨sl', hs, hL⟩, -⟩ := id HC
      exact w_riderAt (by decide) (by decide) (JM_q HC (t_riderAt e hL) ((if_neg hc))) e hf (Or.inr (Or.inl ⟨rfl, rfl⟩))
    · exact JM_m HS (m_riderAt HM HS.1) ((if_neg ((fun z => hc (st2.mp z))))) ((if_neg ((fun z => hc (st2.mp z)))))
set_option maxRecDepth 100000 in
set_option maxHeartbeats 2000000 in
theorem u_waitingAt {A : AS} {n : Nat} {p0 p1 : Int32} (HA : AI A n) (hn : n < 512) : UU mi_L_waitingAt mi_X6_waitingAt 8 2 [.int p0, .int p1] A n := by
  have hI := AI_cur HA
  by_cases hc : 0 ≤ p0 ∧ p0 < 7
  · by_cases h2 : crWrow A.1.2.2.1 p0 p1 = -1
    · refine ⟨A, 2, 0, 0, AI_step HA hn, fun _ => rfl, fun h f HC hf => ?_, fun h v R HM HS => ?_⟩
      · obtain ⟨e, ⟨sl', hs, hL⟩, -⟩ := id HC
        exact w_waitingAt (by decide) (by decide) (JM_q HC (t_waitingAt e hL) ((if_pos hc).trans (if_pos h2))) e hf (Or.inr (Or.inr (⟨rfl, rfl⟩)))
      · exact JM_m HS (m_waitingAt HM HS.1) ((if_pos (st7.mpr hc)).trans (if_pos (h2))) ((if_pos (st7.mpr hc)).trans (if_pos (h2)))
    · refine ⟨A, 0, (rAt A.1.2.2.1 (crWrow A.1.2.2.1 p0 p1).toNatClampNeg).1, (rAt A.1.2.2.1 (crWrow A.1.2.2.1 p0 p1).toNatClampNeg).1, AI_step HA hn, fun _ => rfl, fun h f HC hf => ?_, fun h v R HM HS => ?_⟩
      · obtain ⟨e, ⟨sl', hs, hL⟩, -⟩ := id HC
        exact w_waitingAt (by decide) (by decide) (JM_q HC (t_waitingAt e hL) ((if_pos hc).trans (if_neg h2))) e hf (Or.inl ⟨rfl, rfl⟩)
      · exact JM_m HS (m_waitingAt HM HS.1) ((if_pos (st7.mpr hc)).trans (if_neg (h2))) ((if_pos (st7.mpr hc)).trans (if_neg (h2)))
  · refine ⟨A, 1, 0, 0, AI_step HA hn, fun _ => rfl, fun h f HC hf => ?_, fun h v R HM HS => ?_⟩
    · obtain ⟨e, ⟨sl', hs, hL⟩, -⟩ := id HC
      exact w_waitingAt (by decide) (by decide) (JM_q HC (t_waitingAt e hL) ((if_neg hc))) e hf (Or.inr (Or.inl ⟨rfl, rfl⟩))
    · exact JM_m HS (m_waitingAt HM HS.1) ((if_neg ((fun z => hc (st7.mp z))))) ((if_neg ((fun z => hc (st7.mp z)))))
set_option maxRecDepth 100000 in
set_option maxHeartbeats 2000000 in
theorem u_pickerByWeight {A : AS} {n : Nat} {p0 : Int32} (HA : AI A n) (hn : n < 512) : UU mi_L_pickerByWeight mi_X6_pickerByWeight 8 1 [.int p0] A n := by
  have hI := AI_cur HA
  by_cases hc : crByW A.1.2.2.1 p0 = -1
  · refine ⟨A, 1, 0, 0, AI_step HA hn, fun _ => rfl, fun h f HC hf => ?_, fun h v R HM HS => ?_⟩
    · obtain ⟨e, ⟨sl', hs, hL⟩, -⟩ := id HC
      exact w_pickerByWeight (by decide) (by decide) (JM_q HC (t_pickerByWeight e hL) ((if_pos hc))) e hf (Or.inr (⟨rfl, rfl⟩))
    · exact JM_m HS (m_pickerByWeight HM HS.1 (LI_wt hI)) ((if_pos (hc))) ((if_pos (hc)))
  · refine ⟨A, 0, (rAt A.1.2.2.1 (crByW A.1.2.2.1 p0).toNatClampNeg).1, (rAt A.1.2.2.1 (crByW A.1.2.2.1 p0).toNatClampNeg).1, AI_step HA hn, fun _ => rfl, fun h f HC hf => ?_, fun h v R HM HS => ?_⟩
    · obtain ⟨e, ⟨sl', hs, hL⟩, -⟩ := id HC
      exact w_pickerByWeight (by decide) (by decide) (JM_q HC (t_pickerByWeight e hL) ((if_neg hc))) e hf (Or.inl ⟨rfl, rfl⟩)
    · exact JM_m HS (m_pickerByWeight HM HS.1 (LI_wt hI)) ((if_neg (hc))) ((if_neg (hc)))
set_option maxRecDepth 100000 in
set_option maxHeartbeats 2000000 in
theorem u_busiestStation {A : AS} {n : Nat} (HA : AI A n) (hn : n < 512) : UU mi_L_busiestStation mi_X6_busiestStation 7 3 [] A n := by
  have hI := AI_cur HA
  by_cases hc : (sBz A.1.2.2.1 7).2 = 0
  · refine ⟨A, 1, 0, 0, AI_step HA hn, fun _ => rfl, fun h f HC hf => ?_, fun h v R HM HS => ?_⟩
    · obtain ⟨e, ⟨sl', hs, hL⟩, -⟩ := id HC
      exact w_busiestStation (by decide) (by decide) (JM_q HC (t_busiestStation e hL) ((if_pos hc))) e hf (Or.inr (⟨rfl, rfl⟩))
    · exact JM_m HS (m_busiestStation HM HS.1) ((if_pos (hc))) ((if_pos (hc)))
  · refine ⟨A, 0, nI (sBz A.1.2.2.1 7).1, nI (sBz A.1.2.2.1 7).1, AI_step HA hn, fun _ => rfl, fun h f HC hf => ?_, fun h v R HM HS => ?_⟩
    · obtain ⟨e, ⟨sl', hs, hL⟩, -⟩ := id HC
      exact w_busiestStation (by decide) (by decide) (JM_q HC (t_busiestStation e hL) ((if_neg hc))) e hf (Or.inl ⟨rfl, rfl⟩)
    · exact JM_m HS (m_busiestStation HM HS.1) ((if_neg (hc))) ((if_neg (hc)))
set_option maxRecDepth 100000 in
set_option maxHeartbeats 2000000 in
theorem u_charAt {A : AS} {n : Nat} {p0 : Int32} (HA : AI A n) (hn : n < 512) : UU mi_L_charAt mi_X6_charAt 7 2 [.int p0] A n := by
  have hI := AI_cur HA
  by_cases hc : 0 ≤ p0 ∧ p0 < nI A.2.2.2.1.length
  · refine ⟨A, 0, sg A.2.2.2.1 p0.toNatClampNeg, sg A.2.2.2.1 p0.toNatClampNeg, AI_step HA hn, fun _ => rfl, fun h f HC hf => ?_, fun h v R HM HS => ?_⟩
    · obtain ⟨e, ⟨sl', hs, hL⟩, -⟩ := id HC
      exact w_charAt (by decide) (by decide) (JM_q HC (t_charAt HC (wOk_of HA.2.2.2.1).2) ((if_pos hc))) e hf (Or.inl ⟨rfl, rfl⟩)
    · exact JM_n (m_charAt HM HS (wOk_of HA.2.2.2.1).1) rfl ((if_pos (hc))) ((if_pos (hc)))
  · refine ⟨A, 1, 0, 0, AI_step HA hn, fun _ => rfl, fun h f HC hf => ?_, fun h v R HM HS => ?_⟩
    · obtain ⟨e, ⟨sl', hs, hL⟩, -⟩ := id HC
      exact w_charAt (by decide) (by decide) (JM_q HC (t_charAt HC (wOk_of HA.2.2.2.1).2) ((if_neg hc))) e hf (Or.inr (⟨rfl, rfl⟩))
    · exact JM_n (m_charAt HM HS (wOk_of HA.2.2.2.1).1) rfl ((if_neg (hc))) ((if_neg (hc)))
set_option maxRecDepth 100000 in
set_option maxHeartbeats 2000000 in
theorem u_errorPosition {A : AS} {n : Nat} (HA : AI A n) (hn : n < 512) : UU mi_L_errorPosition mi_X6_errorPosition 7 2 [] A n := by
  have hI := AI_cur HA
  by_cases hc : A.2.2.2.2.2.1 = -1
  · refine ⟨A, 1, 0, 0, AI_step HA hn, fun _ => rfl, fun h f HC hf => ?_, fun h v R HM HS => ?_⟩
    · obtain ⟨e, ⟨sl', hs, hL⟩, -⟩ := id HC
      exact w_errorPosition (by decide) (by decide) (JM_q HC (t_errorPosition HC) ((if_pos hc))) e hf (Or.inr (⟨rfl, rfl⟩))
    · exact JM_n (m_errorPosition HM HS HA.2.2.2.2.1) rfl ((if_pos (hc))) ((if_pos (hc)))
  · refine ⟨A, 0, A.2.2.2.2.2.1, A.2.2.2.2.2.1, AI_step HA hn, fun _ => rfl, fun h f HC hf => ?_, fun h v R HM HS => ?_⟩
    · obtain ⟨e, ⟨sl', hs, hL⟩, -⟩ := id HC
      exact w_errorPosition (by decide) (by decide) (JM_q HC (t_errorPosition HC) ((if_neg hc))) e hf (Or.inl ⟨rfl, rfl⟩)
    · exact JM_n (m_errorPosition HM HS HA.2.2.2.2.1) rfl ((if_neg (hc))) ((if_neg (hc)))
set_option maxRecDepth 100000 in
set_option maxHeartbeats 2000000 in
theorem u_failedCommand {A : AS} {n : Nat} (HA : AI A n) (hn : n < 512) : UU mi_L_failedCommand mi_X6_failedCommand 7 2 [] A n := by
  have hI := AI_cur HA
  by_cases hc : A.2.2.2.2.2.2 = -1
  · refine ⟨A, 1, 0, 0, AI_step HA hn, fun _ => rfl, fun h f HC hf => ?_, fun h v R HM HS => ?_⟩
    · obtain ⟨e, ⟨sl', hs, hL⟩, -⟩ := id HC
      exact w_failedCommand (by decide) (by decide) (JM_q HC (t_failedCommand HC) ((if_pos hc))) e hf (Or.inr (⟨rfl, rfl⟩))
    · exact JM_n (m_failedCommand HM HS HA.2.2.2.2.2.1) rfl ((if_pos (hc))) ((if_pos (hc)))
  · refine ⟨A, 0, A.2.2.2.2.2.2, A.2.2.2.2.2.2, AI_step HA hn, fun _ => rfl, fun h f HC hf => ?_, fun h v R HM HS => ?_⟩
    · obtain ⟨e, ⟨sl', hs, hL⟩, -⟩ := id HC
      exact w_failedCommand (by decide) (by decide) (JM_q HC (t_failedCommand HC) ((if_neg hc))) e hf (Or.inl ⟨rfl, rfl⟩)
    · exact JM_n (m_failedCommand HM HS HA.2.2.2.2.2.1) rfl ((if_neg (hc))) ((if_neg (hc)))
