set_option maxRecDepth 100000 in
set_option maxHeartbeats 2000000 in
theorem t_writeCabinX {h : AHp} {F sl : Nat → Int32} {l : List Row} {E Jn : Int64} {sv : Bool} {ep ec v : Int32} (e : h 0 = .inr (5, [.ref 1, .ref 11, .ref 21, .int (bI sv), .ref 31, .ref 113, .ref 115, .int ep, .int ec])) (hL : LnAt h 1 F sl l E Jn) (hv : ¬ (0 ≤ v ∧ v < 2)) : JM mi_X5_writeCabin 7 1 6 [.ref 0, .int v] h (oj_is (.inr "java/lang/IndexOutOfBoundsException") h) := by
  have e1 := hL.1
  refine JM_of gd_X5_writeCabin rfl (by decide +kernel) (Nat.le_of_ble_eq_true rfl) (oj_cats rfl) (by decide) ?_
  repeat (first | (refine J_step rfl rfl ?_) | (refine J_getf rfl rfl rfl (by assumption) rfl ?_))
  refine J_xS rfl rfl rfl rfl rfl rfl rfl rfl rfl rfl rfl rfl rfl (c_reqCabX hv) ?_
  exact ⟨rfl, rfl⟩
set_option maxRecDepth 100000 in
set_option maxHeartbeats 2000000 in
theorem m_writeCabinX {h : AHp} {v : Nat → Int32} {R : Nat → Nat → Int32} {A : AS} {x : Int32} (H : MdAt h v R) (HS : RS v R A) (hv : ¬ (0 ≤ x ∧ x ≤ 1)) : JM mi_X6_writeCabin 5 0 0 [.ref 121, .int x] h (fun r h' => r = .inl (some (.int 0)) ∧ RP h A 1 h') := by
  have e0 := H.1
  refine JM_of gd_X6_writeCabin rfl (by decide +kernel) (Nat.le_of_ble_eq_true rfl) (oj_cats rfl) (by decide) ?_
  repeat (first | (refine J_step rfl rfl ?_) | (refine J_getf rfl rfl rfl (by assumption) rfl ?_))
  refine J_cS rfl rfl rfl rfl rfl rfl rfl rfl rfl rfl rfl (m_isCabin) ?_
  rw [decide_eq_false hv]
  refine J_if (y := 0) rfl (fun hq => absurd rfl hq) (fun _ => ?_)
  repeat (first | (refine J_step rfl rfl ?_) | (refine J_getf rfl rfl rfl (by assumption) rfl ?_))
  refine J_callV rfl rfl rfl rfl rfl e0 rfl rfl rfl rfl (m_thrT (d := 0) (MdP.rf H)) (Nat.zero_le _) (Nat.zero_le _) (fun E h9 q => by cases q.1) (fun v9 h1 q => ?_)
  obtain ⟨q1, H1⟩ := q
  cases q1
  refine J_if (y := 0) rfl (fun hq => absurd hq (show ¬ (1 : Int32) = 0 by decide)) (fun _ => ?_)
  repeat (first | (refine J_step rfl rfl ?_) | (refine J_getf rfl rfl rfl (by assumption) rfl ?_))
  exact J_iret rfl rfl rfl rfl ⟨rfl, RP_q HS H1⟩
theorem LI_num {q : LQ} {T κ : Nat} (H : LI q T κ) : (∀ j, j < q.2.2.1.length → ∃ k, k < 1000 ∧ (rAt q.2.2.1 j).1 = nI k) ∧ (∀ j, j < q.2.2.1.length → ∃ k, k < 1000 ∧ (rAt q.2.2.1 j).2.2.2.1 = nI k) := by
  obtain ⟨cm, t, nb, hR, hc, hk⟩ := LI_row H
  constructor
  · intro j hj
    obtain ⟨n, w, a, b, ca, ⟨h1, h2⟩, -⟩ := hR j hj
    exact ⟨n, by omega, h1⟩
  · intro j hj
    obtain ⟨n, w, a, b, ca, -, -, -, ⟨h1, h2⟩, -⟩ := hR j hj
    exact ⟨b, by omega, h1⟩
theorem LI_wr {q : LQ} {T κ : Nat} (H : LI q T κ) {v : Int32} (hv : 0 ≤ v ∧ v < 2) : crRid q.2.2.1 v ≤ 6 ∧ (∃ k, k < 1000 ∧ sPl q.2.1 v = nI k) ∧ (∀ n, n < crRid q.2.2.1 v → ¬ crRrow q.2.2.1 v (nI n) = -1) ∧ ∃ k, k < 1000 ∧ v = nI k := by
  obtain ⟨c, hc, rfl⟩ := i32_lt2 (st2.mpr hv)
  obtain ⟨p, hp, ep, -⟩ := sc_inv (LI_SC H) hc
  obtain ⟨t, cc, ht, p', cm, ar, gn, mt, nb, en, jo, b, u, hV, hB, hR, he, hj, hcm⟩ := LI_bnd H
  obtain ⟨-, ⟨-, hc6⟩, -, -, -, -, -, -, hnb, hr0, hr1, h20⟩ := hB
  refine ⟨?_, ⟨p, by omega, ep⟩, fun n hn => rank_row ?_ (by omega) h20 hR.2.1 hR.2.2 hn, ⟨c, by omega, rfl⟩⟩
  · rcases (by omega : c = 0 ∨ c = 1) with z | z
    · rw [z]; exact Nat.le_trans hr0 hc6
    · rw [z]; exact Nat.le_trans hr1 hc6
  · rcases (by omega : c = 0 ∨ c = 1) with z | z
    · rw [z]; decide
    · rw [z]; decide
theorem outCab_ok {q : LQ} {T κ : Nat} (H : LI q T κ) {v : Int32} (hv : 0 ≤ v ∧ v < 2) : ∀ c ∈ outCab q.2.1 (uB q.2.1) q.2.2.1 v, cOk c := by
  obtain ⟨-, hp, hr, hvk⟩ := LI_wr H hv
  obtain ⟨hn, hd⟩ := LI_num H
  obtain ⟨t, cc, ht, p', cm, ar, gn, mt, nb, en, jo, b, u, hV, hB, hR, he, hj, hcm⟩ := LI_bnd H
  obtain ⟨-, -, -, -, -, -, -, -, -, -, -, h20⟩ := hB
  unfold outCab
  refine outRid_ok ?_ hn hd h20 _ hr
  refine app_ok (app_ok (app_ok (dI_ok hvk) (one_ok cOk_64)) (dI_ok hp)) (one_ok ?_)
  split
  · exact cOk_43
  · exact cOk_45
set_option maxRecDepth 100000 in
set_option maxHeartbeats 2000000 in
theorem u_writeCabin {A : AS} {n : Nat} {p0 : Int32} (HA : AI A n) (hn : n < 512) : UU mi_L_writeCabin mi_X6_writeCabin 8 5 [.int p0] A n := by
  have hI := AI_cur HA
  by_cases hc : 0 ≤ p0 ∧ p0 < 2
  · obtain ⟨h6, hp, hr, hvk⟩ := LI_wr hI hc
    obtain ⟨hnn, hd⟩ := LI_num hI
    refine ⟨(A.1, A.2.1, A.2.2.1, outCab A.1.2.1 (uB A.1.2.1) A.1.2.2.1 p0, A.2.2.2.2), 0, nI (outCab A.1.2.1 (uB A.1.2.1) A.1.2.2.1 p0).length, _, AI_out HA hn (outCab_ok hI hc), fun _ => rfl, fun h f HC hf => ?_, fun h v R HM HS => ?_⟩
    · obtain ⟨e, ⟨sl', hs, hL⟩, -, -, -, -, hO, -⟩ := id HC
      exact w_writeCabin (by decide) (by decide) (JM_imp (t_writeCabin e hL hO hI.gU h6 hp hnn hd hr) (fun r h' q => by rw [if_pos hc] at q; exact ⟨q.1, CRep_outP HC q.2⟩)) e hf (Or.inl ⟨rfl, rfl⟩)
    · exact JM_imp (m_writeCabin HM HS hI.gU h6 hp hnn hd hr) (fun r h' q => by rw [if_pos (st2.mpr hc)] at q; exact q)
  · refine ⟨A, 1, 0, 0, AI_step HA hn, fun _ => rfl, fun h f HC hf => ?_, fun h v R HM HS => ?_⟩
    · obtain ⟨e, ⟨sl', hs, hL⟩, -⟩ := id HC
      exact w_writeCabin (by decide) (by decide) (JM_q HC (t_writeCabinX e hL hc) rfl) e hf (Or.inr ⟨rfl, rfl⟩)
    · exact m_writeCabinX HM HS (fun z => hc (st2.mp z))
/-- one unwrapped call at the state A: both sides' answer b, the state B behind it -/
def US (P : Value → Prop) (μx μr : MI) (dx dr : Nat) (as : List Value) (A : AS) (n : Nat) : Prop := ∃ (B : AS) (b : Value), P b ∧ AI B (n + 1) ∧ (∀ h : AHp, CRep h A → JM μx dx 0 0 (.ref 0 :: as) h (fun r h' => r = .inl (some b) ∧ CStep h B h')) ∧ (∀ (h : AHp) (v : Nat → Int32) (R : Nat → Nat → Int32), MdAt h v R → RS v R A → JM μr dr 0 0 (.ref 121 :: as) h (fun r h' => r = .inl (some b) ∧ ∃ c, RP h B c h'))
def PI (v : Value) : Prop := ∃ x, v = .int x
theorem JM_s {μ : MI} {d mc ms : Nat} {av : List Value} {h : AHp} {A : AS} {v : Nat → Int32} {R : Nat → Nat → Int32} {b b' : Value} {c : Int32} (HS : RS v R A) (H : JM μ d mc ms av h (fun r h' => r = .inl (some b) ∧ MdP h (fset v 1 c) R h')) (eb : b = b') : JM μ d mc ms av h (fun r h' => r = .inl (some b') ∧ ∃ c, RP h A c h') := JM_imp H (fun r h' q => by obtain ⟨q1, q2⟩ := q; rw [eb] at q1; exact ⟨q1, _, RP_q HS q2⟩)
theorem JM_v {μ : MI} {d mc ms : Nat} {av : List Value} {h : AHp} {A : AS} {b b' : Value} (HC : CRep h A) (H : JM μ d mc ms av h (oj_is (.inl (some b)) h)) (e : b = b') : JM μ d mc ms av h (fun r h' => r = .inl (some b') ∧ CStep h A h') := JM_q HC H (by rw [e])
theorem JM_r {μ : MI} {d mc ms : Nat} {av : List Value} {h : AHp} {A : AS} {b : Value} {c : Int32} (H : JM μ d mc ms av h (fun r h' => r = .inl (some b) ∧ RP h A c h')) : JM μ d mc ms av h (fun r h' => r = .inl (some b) ∧ ∃ c, RP h A c h') := JM_imp H (fun r h' q => ⟨q.1, _, q.2⟩)
theorem outSt_cong {sl sl' : Nat → Int32} (l : List Row) : ∀ n, (∀ i, i < n → sl' i = sl i) → outSt sl' l n = outSt sl l n
  | 0, _ => rfl
  | n + 1, h => by
    unfold outSt
    rw [outSt_cong l n (fun i hi => h i (by omega)), h n (by omega)]
set_option maxRecDepth 100000 in
set_option maxHeartbeats 2000000 in
theorem us_time {A : AS} {n : Nat} (HA : AI A n) (hn : n < 512) : US PI mi_X5_time mi_X6_time 0 0 [] A n := by
  have hI := AI_cur HA
  refine ⟨A, .int (A.1.2.1 0), ⟨_, rfl⟩, AI_step HA hn, fun h HC => ?_, fun h v R HM HS => ?_⟩
  · obtain ⟨e, ⟨sl', hs, hL⟩, -⟩ := id HC
    exact JM_v HC (t_time (d := 0) e hL) (rfl)
  · exact JM_s HS (m_time HM HS.1) (rfl)
set_option maxRecDepth 100000 in
set_option maxHeartbeats 2000000 in
theorem us_capacity {A : AS} {n : Nat} (HA : AI A n) (hn : n < 512) : US PI mi_X5_capacity mi_X6_capacity 0 0 [] A n := by
  have hI := AI_cur HA
  refine ⟨A, .int (A.1.2.1 1), ⟨_, rfl⟩, AI_step HA hn, fun h HC => ?_, fun h v R HM HS => ?_⟩
  · obtain ⟨e, ⟨sl', hs, hL⟩, -⟩ := id HC
    exact JM_v HC (t_capacity (d := 0) e hL) (rfl)
  · exact JM_s HS (m_capacity HM HS.1) (rfl)
set_option maxRecDepth 100000 in
set_option maxHeartbeats 2000000 in
theorem us_heat {A : AS} {n : Nat} (HA : AI A n) (hn : n < 512) : US PI mi_X5_heat mi_X6_heat 0 0 [] A n := by
  have hI := AI_cur HA
  refine ⟨A, .int (A.1.2.1 2), ⟨_, rfl⟩, AI_step HA hn, fun h HC => ?_, fun h v R HM HS => ?_⟩
  · obtain ⟨e, ⟨sl', hs, hL⟩, -⟩ := id HC
    exact JM_v HC (t_heat (d := 0) e hL) (rfl)
  · exact JM_s HS (m_heat HM HS.1) (rfl)
set_option maxRecDepth 100000 in
set_option maxHeartbeats 2000000 in
theorem us_came {A : AS} {n : Nat} (HA : AI A n) (hn : n < 512) : US PI mi_X5_came mi_X6_came 0 0 [] A n := by
  have hI := AI_cur HA
  refine ⟨A, .int (A.1.2.1 6), ⟨_, rfl⟩, AI_step HA hn, fun h HC => ?_, fun h v R HM HS => ?_⟩
  · obtain ⟨e, ⟨sl', hs, hL⟩, -⟩ := id HC
    exact JM_v HC (t_came (d := 0) e hL) (rfl)
  · exact JM_s HS (m_came HM HS.1) (rfl)
set_option maxRecDepth 100000 in
set_option maxHeartbeats 2000000 in
theorem us_arrived {A : AS} {n : Nat} (HA : AI A n) (hn : n < 512) : US PI mi_X5_arrived mi_X6_arrived 0 0 [] A n := by
  have hI := AI_cur HA
  refine ⟨A, .int (A.1.2.1 7), ⟨_, rfl⟩, AI_step HA hn, fun h HC => ?_, fun h v R HM HS => ?_⟩
  · obtain ⟨e, ⟨sl', hs, hL⟩, -⟩ := id HC
    exact JM_v HC (t_arrived (d := 0) e hL) (rfl)
  · exact JM_s HS (m_arrived HM HS.1) (rfl)
set_option maxRecDepth 100000 in
set_option maxHeartbeats 2000000 in
theorem us_meetings {A : AS} {n : Nat} (HA : AI A n) (hn : n < 512) : US PI mi_X5_meetings mi_X6_meetings 0 0 [] A n := by
  have hI := AI_cur HA
  refine ⟨A, .int (A.1.2.1 9), ⟨_, rfl⟩, AI_step HA hn, fun h HC => ?_, fun h v R HM HS => ?_⟩
  · obtain ⟨e, ⟨sl', hs, hL⟩, -⟩ := id HC
    exact JM_v HC (t_meetings (d := 0) e hL) (rfl)
  · exact JM_s HS (m_meetings HM HS.1) (rfl)
set_option maxRecDepth 100000 in
set_option maxHeartbeats 2000000 in
theorem us_pickers {A : AS} {n : Nat} (HA : AI A n) (hn : n < 512) : US PI mi_X5_pickers mi_X6_pickers 0 0 [] A n := by
  have hI := AI_cur HA
  refine ⟨A, .int (nI A.1.2.2.1.length), ⟨_, rfl⟩, AI_step HA hn, fun h HC => ?_, fun h v R HM HS => ?_⟩
  · obtain ⟨e, ⟨sl', hs, hL⟩, -⟩ := id HC
    exact JM_v HC (t_pickers (d := 0) e hL) (rfl)
  · exact JM_s HS (m_pickers HM HS.1) (rfl)
set_option maxRecDepth 100000 in
set_option maxHeartbeats 2000000 in
theorem us_isBlocked {A : AS} {n : Nat} (HA : AI A n) (hn : n < 512) : US PI mi_X5_isBlocked mi_X6_isBlocked 0 0 [] A n := by
  have hI := AI_cur HA
  obtain ⟨b, hb⟩ := hI.gB
  refine ⟨A, .int (bI b), ⟨_, rfl⟩, AI_step HA hn, fun h HC => ?_, fun h v R HM HS => ?_⟩
  · obtain ⟨e, ⟨sl', hs, hL⟩, -⟩ := id HC
    exact JM_v HC (t_isBlocked (d := 0) e hL hb) (rfl)
  · exact JM_s HS (m_isBlocked HM HS.1 hI.gB) (congrArg Value.int hb)
set_option maxRecDepth 100000 in
set_option maxHeartbeats 2000000 in
theorem us_imbalance {A : AS} {n : Nat} (HA : AI A n) (hn : n < 512) : US PI mi_X5_imbalance mi_X6_imbalance 3 3 [] A n := by
  have hI := AI_cur HA
  refine ⟨A, .int (sImb A.1.2.1 (uB A.1.2.1) A.1.1 A.1.2.2.1), ⟨_, rfl⟩, AI_step HA hn, fun h HC => ?_, fun h v R HM HS => ?_⟩
  · obtain ⟨e, ⟨sl', hs, hL⟩, -⟩ := id HC
    exact JM_v HC (t_imbalance e hL hI.gU) (congrArg Value.int (sImb_cong hs _ _ _))
  · exact JM_s HS (m_imbalance HM HS.1 hI.gU (LI_ah hI)) (rfl)
set_option maxRecDepth 100000 in
set_option maxHeartbeats 2000000 in
theorem us_cameByParts {A : AS} {n : Nat} (HA : AI A n) (hn : n < 512) : US PI mi_X5_cameByParts mi_X6_cameByParts 3 0 [] A n := by
  have hI := AI_cur HA
  refine ⟨A, .int (A.1.2.1 6), ⟨_, rfl⟩, AI_step HA hn, fun h HC => ?_, fun h v R HM HS => ?_⟩
  · obtain ⟨e, ⟨sl', hs, hL⟩, -⟩ := id HC
    exact JM_v HC (t_cameByParts e hL) (congrArg Value.int (LI_parts hI).1)
  · exact JM_s HS (m_cameByParts HM HS.1) (congrArg Value.int (LI_parts hI).2)
set_option maxRecDepth 100000 in
set_option maxHeartbeats 2000000 in
theorem us_blockedMinutes {A : AS} {n : Nat} (HA : AI A n) (hn : n < 512) : US PI mi_X5_blockedMinutes mi_X6_blockedMinutes 0 0 [] A n := by
  have hI := AI_cur HA
  obtain ⟨m, hm2, hm, hs5⟩ := LI_BS hI
  refine ⟨A, .int (nI m), ⟨_, rfl⟩, AI_step HA hn, fun h HC => ?_, fun h v R HM HS => ?_⟩
  · obtain ⟨e, ⟨sl', hs, hL⟩, -⟩ := id HC
    exact JM_v HC (t_blockedMinutes (d := 0) e hL) (congrArg Value.int hs5)
  · exact JM_s HS (m_blockedMinutes HM HS.1 hm) (rfl)
set_option maxRecDepth 100000 in
set_option maxHeartbeats 2000000 in
theorem us_blockedMinutesByPassing {A : AS} {n : Nat} (HA : AI A n) (hn : n < 512) : US PI mi_X5_blockedMinutesByPassing mi_X6_blockedMinutesByPassing 4 1 [] A n := by
  have hI := AI_cur HA
  obtain ⟨m, hm2, hm, hs5⟩ := LI_BS hI
  refine ⟨A, .int (nI m), ⟨_, rfl⟩, AI_step HA hn, fun h HC => ?_, fun h v R HM HS => ?_⟩
  · obtain ⟨e, ⟨sl', hs, hL⟩, -⟩ := id HC
    exact JM_c (t_byPassingA HC hI.gU hI.gB hm hm2) rfl rfl
  · exact JM_s HS (m_blockedMinutesByPassing HM HS.1 hm) (rfl)
set_option maxRecDepth 100000 in
set_option maxHeartbeats 2000000 in
theorem us_waitingStations {A : AS} {n : Nat} (HA : AI A n) (hn : n < 512) : US PI mi_X5_waitingStations mi_X6_waitingStations 2 3 [] A n := by
  have hI := AI_cur HA
  refine ⟨A, .int (nI (sWs A.1.2.2.1 7)), ⟨_, rfl⟩, AI_step HA hn, fun h HC => ?_, fun h v R HM HS => ?_⟩
  · obtain ⟨e, ⟨sl', hs, hL⟩, -⟩ := id HC
    exact JM_v HC (t_waitingStations e hL) (rfl)
  · exact JM_s HS (m_waitingStations HM HS.1) (rfl)
set_option maxRecDepth 100000 in
set_option maxHeartbeats 2000000 in
theorem us_isPresent {A : AS} {n : Nat} {p0 : Int32} (HA : AI A n) (hn : n < 512) : US PI mi_X5_isPresent mi_X6_isPresent 3 2 [.int p0] A n := by
  have hI := AI_cur HA
  refine ⟨A, .int (bI (!(lnRow A.1.2.2.1 p0 == -1))), ⟨_, rfl⟩, AI_step HA hn, fun h HC => ?_, fun h v R HM HS => ?_⟩
  · obtain ⟨e, ⟨sl', hs, hL⟩, -⟩ := id HC
    exact JM_v HC (t_isPresent e hL) (rfl)
  · exact JM_s HS (m_isPresent HM HS.1) (rfl)
set_option maxRecDepth 100000 in
set_option maxHeartbeats 2000000 in
theorem us_isConsistent {A : AS} {n : Nat} (HA : AI A n) (hn : n < 512) : US PI mi_X5_isConsistent mi_X6_isConsistent 5 2 [] A n := by
  have hI := AI_cur HA
  obtain ⟨m, hm2, hm, hs5⟩ := LI_BS hI
  refine ⟨A, .int (bI true), ⟨_, rfl⟩, AI_step HA hn, fun h HC => ?_, fun h v R HM HS => ?_⟩
  · obtain ⟨e, ⟨sl', hs, hL⟩, -⟩ := id HC
    exact JM_c (t_isConsistent HC hI.gU hI.gB hm hm2 (LI_SV hI) (LI_SC hI) (LI_SO hI) (LI_parts hI).1 hs5) rfl rfl
  · exact JM_s HS (m_isConsistent HM HS.1 (LI_parts hI).2 (LI_SC hI).2.2.2.2.2.1 (LI_SC hI).2.2.2.2.2.2) (rfl)
set_option maxRecDepth 100000 in
set_option maxHeartbeats 2000000 in
theorem us_writeStations {A : AS} {n : Nat} (HA : AI A n) (hn : n < 512) : US PI mi_X5_writeStations mi_X6_writeStations 3 5 [] A n := by
  have hI := AI_cur HA
  obtain ⟨t, cc, ht, p', cm, ar, gn, mt, nb, en, jo, b, u, hV, hB, hR, he, hj, hcm⟩ := LI_bnd hI
  obtain ⟨-, -, -, -, -, -, -, -, -, -, -, h20⟩ := hB
  have hsl : ∀ j, j < 6 → ∃ k, k < 1000 ∧ A.1.1 j = nI k := fun j hj => by obtain ⟨k, hk, e⟩ := hR.1 j hj; exact ⟨k, by omega, e⟩
  refine ⟨(A.1, A.2.1, A.2.2.1, outSt A.1.1 A.1.2.2.1 6, A.2.2.2.2), .int (nI (outSt A.1.1 A.1.2.2.1 6).length), ⟨_, rfl⟩, AI_out HA hn (outSt_ok hsl h20 6 (by decide)), fun h HC => ?_, fun h v R HM HS => JM_r (m_writeStations HM HS hsl)⟩
  obtain ⟨e, ⟨sl', hs, hL⟩, -, -, -, -, hO, -⟩ := id HC
  have hc := outSt_cong A.1.2.2.1 6 hs
  exact JM_imp (t_writeStations e hL hO (fun j hj => by rw [hs j hj]; exact hsl j hj)) (fun r h' q => by rw [hc] at q; exact ⟨q.1, CRep_outP HC q.2⟩)
set_option maxRecDepth 100000 in
set_option maxHeartbeats 2000000 in
theorem us_save {A : AS} {n : Nat} (HA : AI A n) (hn : n < 512) : US PI mi_X5_save mi_X6_save 3 2 [] A n := by
  have hI := AI_cur HA
  exact ⟨(asSave A).2, .int (nI A.1.2.2.1.length), ⟨_, rfl⟩, AI_save HA hn, fun h HC => t_save HC hI.gU hI.gB, fun h v R HM HS => JM_r (m_save HM HS)⟩
set_option maxRecDepth 100000 in
set_option maxHeartbeats 2000000 in
theorem us_energy {A : AS} {n : Nat} (HA : AI A n) (hn : n < 512) : US (fun v => ∃ x, v = .long x) mi_X5_energy mi_X6_energy 0 0 [] A n := by
  have hI := AI_cur HA
  obtain ⟨t, cc, ht, p', cm, ar, gn, mt, nb, en, jo, b, u, hV, hB, hR, he, hj, hcm⟩ := LI_bnd hI
  refine ⟨A, .long (lN en), ⟨_, rfl⟩, AI_step HA hn, fun h HC => ?_, fun h v R HM HS => ?_⟩
  · obtain ⟨e, ⟨sl', hs, hL⟩, -⟩ := id HC
    exact JM_v HC (t_energy (d := 0) e hL) (congrArg Value.long hV.2.2.2.2.2.1)
  · exact JM_s HS (m_energy HM HS.1) (congrArg Value.long (by rw [hV.2.2.1]; exact lN_toI64 (by omega)))
set_option maxRecDepth 100000 in
set_option maxHeartbeats 2000000 in
theorem us_occupancy {A : AS} {n : Nat} (HA : AI A n) (hn : n < 512) : US (fun v => ∃ x, v = .float x ∧ vf_n64 (FP.f2d x)) mi_X5_occupancy mi_X6_occupancy 2 2 [] A n := by
  have hI := AI_cur HA
  obtain ⟨t, cc, ht, p', cm, ar, gn, mt, nb, en, jo, b, u, hV, hB, hR, he, hj, hcm⟩ := LI_bnd hI
  obtain ⟨-, ⟨hc1, hc6⟩, -, -, -, -, -, -, hnb, hr0, hr1, h20⟩ := hB
  have eC : A.1.2.1 1 = nI cc := hV.1.2.1
  have eS : nI (crRid A.1.2.2.1 0) + nI (crRid A.1.2.2.1 1) = nI (crRid A.1.2.2.1 0 + crRid A.1.2.2.1 1) := (Int32.ofNat_add _ _).symm
  have h32 : vf_n32 (FP.fdiv (FP.i2f (nI (crRid A.1.2.2.1 0) + nI (crRid A.1.2.2.1 1))) (FP.i2f (2 * A.1.2.1 1))) := by rw [eC, eS]; exact occ_num _ (by omega) _ hc6 hc1
  have h64 : vf_n64 (FP.f2d (FP.fdiv (FP.i2f (nI (crRid A.1.2.2.1 0) + nI (crRid A.1.2.2.1 1))) (FP.i2f (2 * A.1.2.1 1)))) := by rw [eC, eS]; exact occ_f2d _ (by omega) _ hc6 hc1
  have h0 : 0 < 2 * A.1.2.1 1 := by rw [eC]; exact (by decide : ∀ c, c ≤ 6 → 1 ≤ c → (0 : Int32) < 2 * nI c) cc hc6 hc1
  refine ⟨A, .float _, ⟨_, rfl, h64⟩, AI_step HA hn, fun h HC => ?_, fun h v R HM HS => ?_⟩
  · obtain ⟨e, ⟨sl', hs, hL⟩, -⟩ := id HC
    exact JM_v HC (t_occupancy e hL h32 h0) rfl
  · exact JM_s HS (m_occupancy HM HS.1 h32) rfl
