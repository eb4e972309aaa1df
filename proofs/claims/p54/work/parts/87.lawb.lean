set_option maxRecDepth 100000 in
set_option maxHeartbeats 2000000 in
theorem w_lawT {N n M k9 n9 : Nat} {Q : QT} {xs : Nat → Int32} {A : AS} {h : AHp} {o3 o4 : Option Value} {x2 : Int32} (hN : N ≤ 260) (hQ : ∀ h, Q (.inl (some (.int (bI true)))) h) (H : LWs N xs A M h) (HA : AI A n) (hn : n ≤ 400) (hM : M < 999000) (ht : A.2.2.2.2.1 = []) (hlo : loLs (fun a => h a ≠ nilc ∨ 999999 ≤ a) [o3, o4]) (hk : k9 ≤ 500000) (hn9 : n9 ≤ 7000000) : J mi_L_law 16 614016 7246680 Q k9 n9 125 [some (.ref 999999), some (.ref 0), some (.int x2), o3, o4] [] h := by
  refine J_step rfl rfl ?_
  refine J_callSA rfl rfl rfl rfl (Or.inl rfl) rfl (oj_halT rfl trivial ⟨Or.inr (Nat.le_refl _), nnR H.1.1 (by decide), hlo⟩) rfl rfl (c_seen H HA (by omega)) (by omega) (by omega) (fun E h9 q => by cases q.1) (fun v h1 q => ?_)
  obtain ⟨q1, q2⟩ := q
  cases q1
  have H1 := H.seen (f := SN A.1) (by omega)
  have M1 := H.2.2.1
  have arr1 : h1 M = .inl (0, 140, .inl (SN A.1)) := by rw [q2]; exact up_at
  rw [← q2] at H1
  clear q2
  have AIS := AI_save HA (by omega)
  have hu := LI.gU (AI_cur HA)
  have hb := LI.gB (AI_cur HA)
  iterate 2 (refine J_step rfl rfl ?_)
  refine J_callV rfl rfl rfl rfl rfl H1.1.1 rfl rfl rfl rfl (t_save H1.1 hu hb) (by omega) (by omega) (fun E h9 q => by obtain ⟨q, -⟩ := q; have q : Sum.inr E = .inl (some (Value.int (nI A.1.2.2.1.length))) := q; cases q) (fun v9 h2 q => ?_)
  obtain ⟨q1, S2⟩ := q
  have q1 : Sum.inl v9 = .inl (some (Value.int (nI A.1.2.2.1.length))) := q1
  cases q1
  have e1 : (asSave A).2.1 = A.1 := rfl
  have e2 : (asSave A).2.2.1 = some A.1 := rfl
  have e3 : (asSave A).2.2.2.2.2.1 = [] := ht
  generalize (asSave A).2 = S at S2 AIS e1 e2 e3
  have arr2 := (S2.2 M (by omega)).trans arr1
  have H2 := H1.step S2
  clear S2 H1 arr1
  have hI := AI_cur AIS
  have hu := LI.gU hI
  have hb := LI.gB hI
  obtain ⟨m, hm, hBS, -⟩ := LI_BS hI
  iterate 2 (refine J_step rfl rfl ?_)
  refine J_callV rfl rfl rfl rfl rfl H2.1.1 rfl rfl rfl rfl (t_byPassingA H2.1 hu hb hBS hm) (by omega) (by omega) (fun E h9 q => by cases q.1) (fun v9 h3 q => ?_)
  obtain ⟨q1, S3⟩ := q
  cases q1
  have arr3 := (S3.2 M (by omega)).trans arr2
  have H3 := H2.step S3
  clear S3 H2 arr2
  iterate 3 (refine J_step rfl rfl ?_)
  refine J_callV rfl rfl rfl rfl rfl H3.1.1 rfl rfl rfl rfl (us_q_unitsUntil (c := 0) (s := 6) H3.1 (by omega) (by omega) hu) (by omega) (by omega) (fun E h9 q => by cases q.1) (fun v9 h9 q => ?_)
  obtain ⟨q1, q2⟩ := q
  cases q1
  obtain rfl := q2.symm
  rw [sc_units (LI_SC hI) (c := 0) (s := 6) (by omega) (by omega)]
  have hU48 := uMv_le (nI 6 * 4) 48 (sPl S.1.2.1 (nI 0)) (sUp (uB S.1.2.1) (nI 0))
  generalize uMv (nI 6 * 4) 48 (sPl S.1.2.1 (nI 0)) (sUp (uB S.1.2.1) (nI 0)) = un at hU48
  iterate 3 (refine J_step rfl rfl ?_)
  refine J_callV rfl rfl rfl rfl rfl H3.1.1 rfl rfl rfl rfl (us_writeCabin H3.1 AIS) (by omega) (by omega) (fun E h9 q => by obtain ⟨⟨k, -, q⟩, -⟩ := q; cases q) (fun v9 h4 q => ?_)
  obtain ⟨⟨k1, hk1, q1⟩, w1, hw1, S4⟩ := q
  cases q1
  have AI4 := AI_out AIS (by omega) hw1
  have f1 : (S.1, S.2.1, S.2.2.1, w1, S.2.2.2.2).1 = A.1 := e1
  have f2 : (S.1, S.2.1, S.2.2.1, w1, S.2.2.2.2).2.1 = some A.1 := e2
  have f3 : (S.1, S.2.1, S.2.2.1, w1, S.2.2.2.2).2.2.2.2.1 = [] := e3
  generalize (S.1, S.2.1, S.2.2.1, w1, S.2.2.2.2) = S' at S4 AI4 f1 f2 f3
  have arr4 := (S4.2 M (by omega)).trans arr3
  have H4 := H3.step S4
  clear S4 H3 arr3 hI hu hb hBS e1 e2 e3
  iterate 2 (refine J_step rfl rfl ?_)
  refine J_callV rfl rfl rfl rfl rfl H4.1.1 rfl rfl rfl rfl (us_writeStations H4.1 AI4) (by omega) (by omega) (fun E h9 q => by obtain ⟨⟨k, -, q⟩, -⟩ := q; cases q) (fun v9 h5 q => ?_)
  obtain ⟨⟨k2, hk2, q1⟩, w2, hw2, S5⟩ := q
  cases q1
  have AI5 := AI_out AI4 (by omega) hw2
  have e1 : (S'.1, S'.2.1, S'.2.2.1, w2, S'.2.2.2.2).1 = A.1 := f1
  have e2 : (S'.1, S'.2.1, S'.2.2.1, w2, S'.2.2.2.2).2.1 = some A.1 := f2
  have e3 : (S'.1, S'.2.1, S'.2.2.1, w2, S'.2.2.2.2).2.2.2.2.1 = [] := f3
  generalize (S'.1, S'.2.1, S'.2.2.1, w2, S'.2.2.2.2) = T at S5 AI5 e1 e2 e3
  have arr5 := (S5.2 M (by omega)).trans arr4
  have H5 := H4.step S5
  clear S5 H4 arr4 f1 f2 f3 AI4
  iterate 3 (refine J_step rfl rfl ?_)
  obtain ⟨x1, hx1, J1⟩ := us_pbw H5.1 AI5
  refine J_callS rfl rfl rfl rfl (Or.inl rfl) rfl rfl rfl rfl J1 (by omega) (by omega) (fun E h9 q => by cases q.1) (fun v9 h9 q => ?_)
  obtain ⟨q1, q2⟩ := q
  cases q1
  obtain rfl := q2.symm
  iterate 2 (refine J_step rfl rfl ?_)
  obtain ⟨x3, hx3, J2⟩ := us_busy H5.1
  refine J_callS rfl rfl rfl rfl (Or.inl rfl) rfl rfl rfl rfl J2 (by omega) (by omega) (fun E h9 q => by cases q.1) (fun v9 h9 q => ?_)
  obtain ⟨q1, q2⟩ := q
  cases q1
  obtain rfl := q2.symm
  have hBd : Bd 2000000 (nI m + nI un + nI k1 + nI k2 + x1 + x3) := Bd_mono (Bd_add (Bd_add (Bd_add (Bd_add (Bd_add (Bd_nI (K := 100) hm (by omega)) (Bd_nI (K := 48) hU48 (by omega)) (by omega)) (Bd_nI (K := 96) hk1 (by omega)) (by omega)) (Bd_nI (K := 96) hk2 (by omega)) (by omega)) hx1 (by omega)) hx3 (by omega)) (by omega)
  refine J_step rfl rfl ?_
  generalize nI m + nI un + nI k1 + nI k2 + x1 + x3 = xx at hBd
  iterate 3 (refine J_step rfl rfl ?_)
  refine J_callSA rfl rfl rfl rfl (Or.inl rfl) rfl (oj_halT rfl ⟨nnA arr5, trivial⟩ ⟨Or.inr (Nat.le_refl _), nnR H5.1.1 (by decide), nnA arr5, trivial⟩) rfl rfl (c_seen H5 AI5 (by omega)) (by omega) (by omega) (fun E h9 q => by cases q.1) (fun v h6 q => ?_)
  obtain ⟨q1, q2⟩ := q
  cases q1
  have H6 := H5.seen (f := SN T.1) (by omega)
  have arr6 : h6 M = .inl (0, 140, .inl (SN A.1)) := by rw [q2]; exact (up_ne (by omega)).trans arr5
  have brr6 : h6 (M + 1) = .inl (0, 140, .inl (SN A.1)) := by rw [q2, e1]; exact up_at
  rw [← q2] at H6
  clear q2 H5 arr5
  refine J_callS rfl rfl rfl rfl (Or.inl rfl) rfl rfl rfl rfl (c_alike (d := 0) arr6 brr6) (by omega) (by omega) (fun E h9 q => by cases q.1) (fun v9 h9 q => ?_)
  obtain ⟨q1, q2⟩ := q
  cases q1
  obtain rfl := q2.symm
  clear brr6
  refine J_if (y := 0) rfl (fun _ => ?_) (fun z => absurd (show ¬ (1 : Int32) = 0 by decide) z)
  -- five changes
  iterate 3 (refine J_step rfl rfl ?_)
  obtain ⟨c1, B1, JM1, act1, AIB1⟩ := us_pass (p0 := 12) H6.1 AI5 (by omega) e3
  refine J_callS rfl rfl rfl rfl (Or.inl rfl) rfl rfl rfl rfl JM1 (by omega) (by omega) (fun E h9 q => by cases q.1) (fun v9 h7 q => ?_)
  obtain ⟨q1, S7⟩ := q
  cases q1
  have arr7 := (S7.2 M (by omega)).trans arr6
  have H7 := H6.step S7
  clear JM1 S7 H6 arr6
  iterate 4 (refine J_step rfl rfl ?_)
  obtain ⟨c2, B2, JM2, act2, AIB2⟩ := us_addPicker (p0 := 70) (p1 := 0) (p2 := 6) H7.1 AIB1 (by omega) act1.2.1
  refine J_callS rfl rfl rfl rfl (Or.inl rfl) rfl rfl rfl rfl JM2 (by omega) (by omega) (fun E h9 q => by cases q.1) (fun v9 h8 q => ?_)
  obtain ⟨q1, S8⟩ := q
  cases q1
  have arr8 := (S8.2 M (by omega)).trans arr7
  have H8 := H7.step S8
  clear JM2 S8 H7 arr7
  iterate 4 (refine J_step rfl rfl ?_)
  obtain ⟨c3, B3, JM3, act3, AIB3⟩ := us_setSlope (p0 := 2) (p1 := 9) H8.1 AIB2 (by omega) act2.2.1
  refine J_callS rfl rfl rfl rfl (Or.inl rfl) rfl rfl rfl rfl JM3 (by omega) (by omega) (fun E h9 q => by cases q.1) (fun v9 h10 q => ?_)
  obtain ⟨q1, S10⟩ := q
  cases q1
  have arr10 := (S10.2 M (by omega)).trans arr8
  have H10 := H8.step S10
  clear JM3 S10 H8 arr8
  iterate 2 (refine J_step rfl rfl ?_)
  obtain ⟨c4, B4, JM4, act4, AIB4⟩ := us_turn H10.1 AIB3 (by omega) act3.2.1
  refine J_callS rfl rfl rfl rfl (Or.inl rfl) rfl rfl rfl rfl JM4 (by omega) (by omega) (fun E h9 q => by cases q.1) (fun v9 h11 q => ?_)
  obtain ⟨q1, S11⟩ := q
  cases q1
  have arr11 := (S11.2 M (by omega)).trans arr10
  have H11 := H10.step S11
  clear JM4 S11 H10 arr10
  iterate 3 (refine J_step rfl rfl ?_)
  obtain ⟨c5, B5, JM5, act5, AIB5⟩ := us_setCapacity (p0 := 6) H11.1 AIB4 (by omega) act4.2.1
  refine J_callS rfl rfl rfl rfl (Or.inl rfl) rfl rfl rfl rfl JM5 (by omega) (by omega) (fun E h9 q => by cases q.1) (fun v9 h12 q => ?_)
  obtain ⟨q1, S12⟩ := q
  cases q1
  have arr12 := (S12.2 M (by omega)).trans arr11
  have H12 := H11.step S12
  clear JM5 S12 H11 arr11
  have hBd2 : Bd 7000000 (xx + (c1 + c2 + c3 + c4 + c5)) := Bd_mono (Bd_add hBd (Bd_add (Bd_add (Bd_add (Bd_add act1.bd act2.bd (by omega)) act3.bd (by omega)) act4.bd (by omega)) act5.bd (by omega)) (by omega)) (by omega)
  have sv : B5.2.1 = some A.1 := by rw [act5.1, act4.1, act3.1, act2.1, act1.1, e2]
  iterate 4 (refine J_step rfl rfl ?_)
  refine J_ldcI (v := -90000000) rfl (by decide +kernel) ?_
  refine J_ic rfl (fun z => absurd z ?_) (fun _ => ?_)
  · show ¬ xx + (c1 + c2 + c3 + c4 + c5) ≤ -90000000
    rw [Int32.le_iff_toInt_le, show (-90000000 : Int32).toInt = -90000000 by decide]
    have := hBd2.1
    omega
  refine J_step rfl rfl ?_
  refine J_callS rfl rfl rfl rfl (Or.inl rfl) rfl rfl rfl rfl (us_restore H12.1 AIB5 sv) (by omega) (by omega) (fun E h9 q => by cases q.1) (fun v9 h13 q => ?_)
  obtain ⟨q1, S13⟩ := q
  cases q1
  have AI13 := AI_rest AIB5 (by omega)
  have e9 : (asRest B5).2 = (A.1, B5.2.1, [], B5.2.2.2) := by unfold asRest; rw [sv]
  rw [e9] at AI13
  have g1 : ((A.1, B5.2.1, [], B5.2.2.2) : AS).1 = A.1 := rfl
  have g2 : ((A.1, B5.2.1, [], B5.2.2.2) : AS).2.2.1 = [] := rfl
  generalize ((A.1, B5.2.1, [], B5.2.2.2) : AS) = R at S13 AI13 g1 g2
  have arr13 := (S13.2 M (by omega)).trans arr12
  have H13 := H12.step S13
  clear S13 H12 arr12
  refine J_step rfl rfl ?_
  refine J_ic rfl (fun z => absurd rfl z) (fun _ => ?_)
  iterate 2 (refine J_step rfl rfl ?_)
  refine J_callSA rfl rfl rfl rfl (Or.inl rfl) rfl (oj_halT rfl ⟨nnA arr13, trivial⟩ ⟨Or.inr (Nat.le_refl _), nnR H13.1.1 (by decide), nnA arr13, trivial⟩) rfl rfl (c_seen H13 AI13 (by omega)) (by omega) (by omega) (fun E h9 q => by cases q.1) (fun v h14 q => ?_)
  obtain ⟨q1, q2⟩ := q
  cases q1
  have H14 := H13.seen (f := SN R.1) (by omega)
  have arr14 : h14 M = .inl (0, 140, .inl (SN A.1)) := by rw [q2]; exact (up_ne (by omega)).trans arr13
  have brr14 : h14 (M + 1 + 1) = .inl (0, 140, .inl (SN A.1)) := by rw [q2, g1]; exact up_at
  rw [← q2] at H14
  clear q2 H13 arr13
  refine J_callS rfl rfl rfl rfl (Or.inl rfl) rfl rfl rfl rfl (c_alike (d := 0) arr14 brr14) (by omega) (by omega) (fun E h9 q => by cases q.1) (fun v9 h9 q => ?_)
  obtain ⟨q1, q2⟩ := q
  cases q1
  obtain rfl := q2.symm
  refine J_if (y := 0) rfl (fun z => absurd z (by unfold oj_cz; decide)) (fun _ => ?_)
  refine J_step rfl rfl ?_
  refine J_callS rfl rfl rfl rfl (Or.inl rfl) rfl rfl rfl rfl (us_undoN H14.1 AI13 g2) (by omega) (by omega) (fun E h9 q => by cases q.1) (fun v9 h15 q => ?_)
  obtain ⟨q1, S15⟩ := q
  cases q1
  refine J_ldcI (v := -900001) rfl (by decide +kernel) ?_
  refine J_ic rfl (fun z => absurd rfl z) (fun _ => ?_)
  iterate 2 (refine J_step rfl rfl ?_)
  exact J_ret (v := some (.int (bI true))) rfl (rets_z rfl) (by omega) (by omega) (hQ _) rfl
