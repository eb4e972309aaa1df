set_option maxRecDepth 100000 in
set_option maxHeartbeats 2000000 in
theorem w_law13 {mc ms k n m N : Nat} {Q : QT} {xs : Nat → Int32} {A : AS} {h : AHp} {i : Int32} {a6 a7 a8 a9 : Option Value} (HL : LW N xs A h) (HA : AI A m) (hm : m < 512) (in1 : vp_in (i + 1) N) (in2 : vp_in (i + 2) N) (in3 : vp_in (i + 3) N) (hmc : k + 1 ≤ mc) (hms : n + 6 ≤ ms) (kk : LK mc ms Q N xs k n m i) : J mi_L_law 13 mc ms Q k n 765 [some (.ref 999999), some (.ref 0), some (.ref 121), some (.ref 129), some (.ref 130), some (.int i), a6, a7, a8, a9] [] h := by
  obtain ⟨HC, ⟨v, R, HM, HS⟩, ⟨f, hf⟩, ⟨g, hg⟩, hS⟩ := id HL
  obtain ⟨B, _, ⟨b, rfl⟩, HB, HX, HR⟩ := us_blockedMinutesByPassing  HA hm
  iterate 1 (refine J_step rfl rfl ?_)
  refine J_callV rfl rfl rfl rfl rfl HC.1 rfl rfl rfl rfl (HX h HC) (by omega) (by omega) (fun E h9 q => by cases q.1) (fun v9 h1 q => ?_)
  obtain ⟨q1, W1⟩ := q
  cases q1
  have L1 := LW_x HL W1
  obtain ⟨C1, ⟨v1, R1, M1, S1⟩, -, -, hS1⟩ := id L1
  iterate 1 (refine J_step rfl rfl ?_)
  refine J_callV rfl rfl rfl rfl rfl M1.1 rfl rfl rfl rfl (HR h1 v1 R1 M1 S1) (by omega) (by omega) (fun E h9 q => by cases q.1) (fun v9 h2 q => ?_)
  obtain ⟨q1, c2, P2⟩ := q
  cases q1
  have L2 := LW_y L1 P2
  exact J_ic rfl (fun _ => kk _ _ _ _ _ _ _ _ L2 HB (by omega) (by omega)) (fun hq => absurd rfl hq)
set_option maxRecDepth 100000 in
set_option maxHeartbeats 2000000 in
theorem w_law14 {mc ms k n m N : Nat} {Q : QT} {xs : Nat → Int32} {A : AS} {h : AHp} {i : Int32} {a6 a7 a8 a9 : Option Value} (HL : LW N xs A h) (HA : AI A m) (hm : m < 512) (in1 : vp_in (i + 1) N) (in2 : vp_in (i + 2) N) (in3 : vp_in (i + 3) N) (hmc : k + 1 ≤ mc) (hms : n + 6 ≤ ms) (kk : LK mc ms Q N xs k n m i) : J mi_L_law 13 mc ms Q k n 778 [some (.ref 999999), some (.ref 0), some (.ref 121), some (.ref 129), some (.ref 130), some (.int i), a6, a7, a8, a9] [] h := by
  obtain ⟨HC, ⟨v, R, HM, HS⟩, ⟨f, hf⟩, ⟨g, hg⟩, hS⟩ := id HL
  obtain ⟨B, c, val, b, HB, hv, HW, HR⟩ := u_place (p0 := xs (i + 1).toNatClampNeg) HA hm
  iterate 5 (refine J_step rfl rfl ?_)
  refine J_sld rfl rfl rfl hS in1 ?_
  iterate 1 (refine J_step rfl rfl ?_)
  refine J_callS rfl rfl rfl rfl (by decide) rfl rfl rfl rfl (HW h f HC hf) hmc hms (fun E h9 q => by cases q.1) (fun v9 h1 q => ?_)
  obtain ⟨q1, W1⟩ := q
  cases q1
  have L1 := LW_w HL W1
  obtain ⟨C1, ⟨v1, R1, M1, S1⟩, -, -, hS1⟩ := id L1
  iterate 6 (refine J_step rfl rfl ?_)
  refine J_sld rfl rfl rfl hS1 in1 ?_
  refine J_callV rfl rfl rfl rfl rfl M1.1 rfl rfl rfl rfl (HR h1 v1 R1 M1 S1) hmc hms (fun E h9 q => by cases q.1) (fun v9 h2 q => ?_)
  obtain ⟨q1, P2⟩ := q
  cases q1
  obtain ⟨L2, ⟨v2, R2, M2, e2⟩, f2, hf2, hv2⟩ := LW_m L1 P2
  iterate 2 (refine J_step rfl rfl ?_)
  refine J_callV rfl rfl rfl rfl rfl M2.1 rfl rfl rfl rfl (m_thrown (d := 0) M2) hmc hms (fun E h9 q => by cases q.1) (fun v9 h3 q => ?_)
  obtain ⟨q1, rfl⟩ := q
  cases q1
  iterate 1 (refine J_step rfl rfl ?_)
  refine J_ic rfl (fun _ => ?_) (fun hq => absurd e2 hq)
  iterate 1 (refine J_step rfl rfl ?_)
  have fin : J mi_L_law 13 mc ms Q (k + 1 + 0 + 0) (n + 6 + 0 + 0) 831 [some (.ref 999999), some (.ref 0), some (.ref 121), some (.ref 129), some (.ref 130), some (.int i), some (.int c), some (.int b), a8, a9] [] h3 := by
    refine J_step rfl rfl ?_
    exact kk _ _ _ _ _ _ _ _ L2 HB (Nat.le_refl _) (Nat.le_refl _)
  refine J_if (y := 0) rfl (fun _ => fin) (fun hq => ?_)
  have hc : c = 0 := Decidable.of_not_not hq
  iterate 2 (refine J_step rfl rfl ?_)
  refine J_lald rfl hf2 (vp_in_nI (n := 0) (by decide) (by decide)) ?_
  iterate 3 (refine J_step rfl rfl ?_)
  have ez : lg_cmp (f2 (nI 0).toNatClampNeg) b.toInt64 = 0 := by rw [show f2 (nI 0).toNatClampNeg = val.toInt64 from hv2 hc, hv hc]; exact lg_self _
  exact J_if (y := 0) rfl (fun _ => fin) (fun hq => absurd ez hq)
set_option maxRecDepth 100000 in
set_option maxHeartbeats 2000000 in
theorem w_law15 {mc ms k n m N : Nat} {Q : QT} {xs : Nat → Int32} {A : AS} {h : AHp} {i : Int32} {a6 a7 a8 a9 : Option Value} (HL : LW N xs A h) (HA : AI A m) (hm : m < 512) (in1 : vp_in (i + 1) N) (in2 : vp_in (i + 2) N) (in3 : vp_in (i + 3) N) (hmc : k + 1 ≤ mc) (hms : n + 6 ≤ ms) (kk : LK mc ms Q N xs k n m i) : J mi_L_law 13 mc ms Q k n 834 [some (.ref 999999), some (.ref 0), some (.ref 121), some (.ref 129), some (.ref 130), some (.int i), a6, a7, a8, a9] [] h := by
  obtain ⟨HC, ⟨v, R, HM, HS⟩, ⟨f, hf⟩, ⟨g, hg⟩, hS⟩ := id HL
  obtain ⟨B, c, val, b, HB, hv, HW, HR⟩ := u_BgoesUp (p0 := xs (i + 1).toNatClampNeg) HA hm
  iterate 5 (refine J_step rfl rfl ?_)
  refine J_sld rfl rfl rfl hS in1 ?_
  iterate 1 (refine J_step rfl rfl ?_)
  refine J_callS rfl rfl rfl rfl (by decide) rfl rfl rfl rfl (HW h f HC hf) hmc hms (fun E h9 q => by cases q.1) (fun v9 h1 q => ?_)
  obtain ⟨q1, W1⟩ := q
  cases q1
  have L1 := LW_w HL W1
  obtain ⟨C1, ⟨v1, R1, M1, S1⟩, -, -, hS1⟩ := id L1
  iterate 6 (refine J_step rfl rfl ?_)
  refine J_sld rfl rfl rfl hS1 in1 ?_
  refine J_callV rfl rfl rfl rfl rfl M1.1 rfl rfl rfl rfl (HR h1 v1 R1 M1 S1) hmc hms (fun E h9 q => by cases q.1) (fun v9 h2 q => ?_)
  obtain ⟨q1, P2⟩ := q
  cases q1
  obtain ⟨L2, ⟨v2, R2, M2, e2⟩, f2, hf2, hv2⟩ := LW_m L1 P2
  iterate 2 (refine J_step rfl rfl ?_)
  refine J_callV rfl rfl rfl rfl rfl M2.1 rfl rfl rfl rfl (m_thrown (d := 0) M2) hmc hms (fun E h9 q => by cases q.1) (fun v9 h3 q => ?_)
  obtain ⟨q1, rfl⟩ := q
  cases q1
  iterate 1 (refine J_step rfl rfl ?_)
  refine J_ic rfl (fun _ => ?_) (fun hq => absurd e2 hq)
  iterate 1 (refine J_step rfl rfl ?_)
  have fin : J mi_L_law 13 mc ms Q (k + 1 + 0 + 0) (n + 6 + 0 + 0) 894 [some (.ref 999999), some (.ref 0), some (.ref 121), some (.ref 129), some (.ref 130), some (.int i), some (.int c), some (.int b), a8, a9] [] h3 := by
    refine J_step rfl rfl ?_
    exact kk _ _ _ _ _ _ _ _ L2 HB (Nat.le_refl _) (Nat.le_refl _)
  refine J_if (y := 0) rfl (fun _ => fin) (fun hq => ?_)
  have hc : c = 0 := Decidable.of_not_not hq
  iterate 2 (refine J_step rfl rfl ?_)
  obtain ⟨hv1, hv3⟩ := hv hc
  have ef : f2 (nI 0).toNatClampNeg = b.toInt64 := by rw [hv1]; exact hv2 hc
  rw [← hv1] at hv3
  refine J_lald rfl hf2 (vp_in_nI (n := 0) (by decide) (by decide)) ?_
  iterate 1 (refine J_step rfl rfl ?_)
  refine J_if (y := 0) rfl (fun hb => ?_) (fun hb => ?_)
  · have hb0 : b = 0 := hb
    iterate 2 (refine J_step rfl rfl ?_)
    have ez : lg_cmp (f2 (nI 0).toNatClampNeg) 0 = 0 := by rw [ef, hb0]; exact lg_self _
    exact J_if (y := 0) rfl (fun _ => fin) (fun hq => absurd ez hq)
  · have hb0 : b = 1 := hv3.resolve_left hb
    iterate 3 (refine J_step rfl rfl ?_)
    have ez : lg_cmp (f2 (nI 0).toNatClampNeg) 1 = 0 := by rw [ef, hb0]; exact lg_self _
    exact J_if (y := 0) rfl (fun _ => fin) (fun hq => absurd ez hq)
set_option maxRecDepth 100000 in
set_option maxHeartbeats 2000000 in
theorem w_law16 {mc ms k n m N : Nat} {Q : QT} {xs : Nat → Int32} {A : AS} {h : AHp} {i : Int32} {a6 a7 a8 a9 : Option Value} (HL : LW N xs A h) (HA : AI A m) (hm : m < 512) (in1 : vp_in (i + 1) N) (in2 : vp_in (i + 2) N) (in3 : vp_in (i + 3) N) (hmc : k + 1 ≤ mc) (hms : n + 6 ≤ ms) (kk : LK mc ms Q N xs k n m i) : J mi_L_law 13 mc ms Q k n 897 [some (.ref 999999), some (.ref 0), some (.ref 121), some (.ref 129), some (.ref 130), some (.int i), a6, a7, a8, a9] [] h := by
  obtain ⟨HC, ⟨v, R, HM, HS⟩, ⟨f, hf⟩, ⟨g, hg⟩, hS⟩ := id HL
  obtain ⟨B, c, val, b, HB, hv, HW, HR⟩ := u_station (p0 := xs (i + 1).toNatClampNeg) HA hm
  iterate 5 (refine J_step rfl rfl ?_)
  refine J_sld rfl rfl rfl hS in1 ?_
  iterate 1 (refine J_step rfl rfl ?_)
  refine J_callS rfl rfl rfl rfl (by decide) rfl rfl rfl rfl (HW h f HC hf) hmc hms (fun E h9 q => by cases q.1) (fun v9 h1 q => ?_)
  obtain ⟨q1, W1⟩ := q
  cases q1
  have L1 := LW_w HL W1
  obtain ⟨C1, ⟨v1, R1, M1, S1⟩, -, -, hS1⟩ := id L1
  iterate 6 (refine J_step rfl rfl ?_)
  refine J_sld rfl rfl rfl hS1 in1 ?_
  refine J_callV rfl rfl rfl rfl rfl M1.1 rfl rfl rfl rfl (HR h1 v1 R1 M1 S1) hmc hms (fun E h9 q => by cases q.1) (fun v9 h2 q => ?_)
  obtain ⟨q1, P2⟩ := q
  cases q1
  obtain ⟨L2, ⟨v2, R2, M2, e2⟩, f2, hf2, hv2⟩ := LW_m L1 P2
  iterate 2 (refine J_step rfl rfl ?_)
  refine J_callV rfl rfl rfl rfl rfl M2.1 rfl rfl rfl rfl (m_thrown (d := 0) M2) hmc hms (fun E h9 q => by cases q.1) (fun v9 h3 q => ?_)
  obtain ⟨q1, rfl⟩ := q
  cases q1
  iterate 1 (refine J_step rfl rfl ?_)
  refine J_ic rfl (fun _ => ?_) (fun hq => absurd e2 hq)
  iterate 1 (refine J_step rfl rfl ?_)
  have fin : J mi_L_law 13 mc ms Q (k + 1 + 0 + 0) (n + 6 + 0 + 0) 950 [some (.ref 999999), some (.ref 0), some (.ref 121), some (.ref 129), some (.ref 130), some (.int i), some (.int c), some (.int b), a8, a9] [] h3 := by
    refine J_step rfl rfl ?_
    exact kk _ _ _ _ _ _ _ _ L2 HB (Nat.le_refl _) (Nat.le_refl _)
  refine J_if (y := 0) rfl (fun _ => fin) (fun hq => ?_)
  have hc : c = 0 := Decidable.of_not_not hq
  iterate 2 (refine J_step rfl rfl ?_)
  refine J_lald rfl hf2 (vp_in_nI (n := 0) (by decide) (by decide)) ?_
  iterate 3 (refine J_step rfl rfl ?_)
  have ez : lg_cmp (f2 (nI 0).toNatClampNeg) b.toInt64 = 0 := by rw [show f2 (nI 0).toNatClampNeg = val.toInt64 from hv2 hc, hv hc]; exact lg_self _
  exact J_if (y := 0) rfl (fun _ => fin) (fun hq => absurd ez hq)
set_option maxRecDepth 100000 in
set_option maxHeartbeats 2000000 in
theorem w_law17 {mc ms k n m N : Nat} {Q : QT} {xs : Nat → Int32} {A : AS} {h : AHp} {i : Int32} {a6 a7 a8 a9 : Option Value} (HL : LW N xs A h) (HA : AI A m) (hm : m < 512) (in1 : vp_in (i + 1) N) (in2 : vp_in (i + 2) N) (in3 : vp_in (i + 3) N) (hmc : k + 1 ≤ mc) (hms : n + 6 ≤ ms) (kk : LK mc ms Q N xs k n m i) : J mi_L_law 13 mc ms Q k n 953 [some (.ref 999999), some (.ref 0), some (.ref 121), some (.ref 129), some (.ref 130), some (.int i), a6, a7, a8, a9] [] h := by
  obtain ⟨HC, ⟨v, R, HM, HS⟩, ⟨f, hf⟩, ⟨g, hg⟩, hS⟩ := id HL
  obtain ⟨B, c, val, b, HB, hv, HW, HR⟩ := u_nextSegment (p0 := xs (i + 1).toNatClampNeg) HA hm
  iterate 5 (refine J_step rfl rfl ?_)
  refine J_sld rfl rfl rfl hS in1 ?_
  iterate 1 (refine J_step rfl rfl ?_)
  refine J_callS rfl rfl rfl rfl (by decide) rfl rfl rfl rfl (HW h f HC hf) hmc hms (fun E h9 q => by cases q.1) (fun v9 h1 q => ?_)
  obtain ⟨q1, W1⟩ := q
  cases q1
  have L1 := LW_w HL W1
  obtain ⟨C1, ⟨v1, R1, M1, S1⟩, -, -, hS1⟩ := id L1
  iterate 6 (refine J_step rfl rfl ?_)
  refine J_sld rfl rfl rfl hS1 in1 ?_
  refine J_callV rfl rfl rfl rfl rfl M1.1 rfl rfl rfl rfl (HR h1 v1 R1 M1 S1) hmc hms (fun E h9 q => by cases q.1) (fun v9 h2 q => ?_)
  obtain ⟨q1, P2⟩ := q
  cases q1
  obtain ⟨L2, ⟨v2, R2, M2, e2⟩, f2, hf2, hv2⟩ := LW_m L1 P2
  iterate 2 (refine J_step rfl rfl ?_)
  refine J_callV rfl rfl rfl rfl rfl M2.1 rfl rfl rfl rfl (m_thrown (d := 0) M2) hmc hms (fun E h9 q => by cases q.1) (fun v9 h3 q => ?_)
  obtain ⟨q1, rfl⟩ := q
  cases q1
  iterate 1 (refine J_step rfl rfl ?_)
  refine J_ic rfl (fun _ => ?_) (fun hq => absurd e2 hq)
  iterate 1 (refine J_step rfl rfl ?_)
  have fin : J mi_L_law 13 mc ms Q (k + 1 + 0 + 0) (n + 6 + 0 + 0) 1006 [some (.ref 999999), some (.ref 0), some (.ref 121), some (.ref 129), some (.ref 130), some (.int i), some (.int c), some (.int b), a8, a9] [] h3 := by
    refine J_step rfl rfl ?_
    exact kk _ _ _ _ _ _ _ _ L2 HB (Nat.le_refl _) (Nat.le_refl _)
  refine J_if (y := 0) rfl (fun _ => fin) (fun hq => ?_)
  have hc : c = 0 := Decidable.of_not_not hq
  iterate 2 (refine J_step rfl rfl ?_)
  refine J_lald rfl hf2 (vp_in_nI (n := 0) (by decide) (by decide)) ?_
  iterate 3 (refine J_step rfl rfl ?_)
  have ez : lg_cmp (f2 (nI 0).toNatClampNeg) b.toInt64 = 0 := by rw [show f2 (nI 0).toNatClampNeg = val.toInt64 from hv2 hc, hv hc]; exact lg_self _
  exact J_if (y := 0) rfl (fun _ => fin) (fun hq => absurd ez hq)
set_option maxRecDepth 100000 in
set_option maxHeartbeats 2000000 in
theorem w_law18 {mc ms k n m N : Nat} {Q : QT} {xs : Nat → Int32} {A : AS} {h : AHp} {i : Int32} {a6 a7 a8 a9 : Option Value} (HL : LW N xs A h) (HA : AI A m) (hm : m < 512) (in1 : vp_in (i + 1) N) (in2 : vp_in (i + 2) N) (in3 : vp_in (i + 3) N) (hmc : k + 1 ≤ mc) (hms : n + 6 ≤ ms) (kk : LK mc ms Q N xs k n m i) : J mi_L_law 13 mc ms Q k n 1009 [some (.ref 999999), some (.ref 0), some (.ref 121), some (.ref 129), some (.ref 130), some (.int i), a6, a7, a8, a9] [] h := by
  obtain ⟨HC, ⟨v, R, HM, HS⟩, ⟨f, hf⟩, ⟨g, hg⟩, hS⟩ := id HL
  obtain ⟨B, c, val, b, HB, hv, HW, HR⟩ := u_cabinWeight (p0 := xs (i + 1).toNatClampNeg) HA hm
  iterate 5 (refine J_step rfl rfl ?_)
  refine J_sld rfl rfl rfl hS in1 ?_
  iterate 1 (refine J_step rfl rfl ?_)
  refine J_callS rfl rfl rfl rfl (by decide) rfl rfl rfl rfl (HW h f HC hf) hmc hms (fun E h9 q => by cases q.1) (fun v9 h1 q => ?_)
  obtain ⟨q1, W1⟩ := q
  cases q1
  have L1 := LW_w HL W1
  obtain ⟨C1, ⟨v1, R1, M1, S1⟩, -, -, hS1⟩ := id L1
  iterate 6 (refine J_step rfl rfl ?_)
  refine J_sld rfl rfl rfl hS1 in1 ?_
  refine J_callV rfl rfl rfl rfl rfl M1.1 rfl rfl rfl rfl (HR h1 v1 R1 M1 S1) hmc hms (fun E h9 q => by cases q.1) (fun v9 h2 q => ?_)
  obtain ⟨q1, P2⟩ := q
  cases q1
  obtain ⟨L2, ⟨v2, R2, M2, e2⟩, f2, hf2, hv2⟩ := LW_m L1 P2
  iterate 2 (refine J_step rfl rfl ?_)
  refine J_callV rfl rfl rfl rfl rfl M2.1 rfl rfl rfl rfl (m_thrown (d := 0) M2) hmc hms (fun E h9 q => by cases q.1) (fun v9 h3 q => ?_)
  obtain ⟨q1, rfl⟩ := q
  cases q1
  iterate 1 (refine J_step rfl rfl ?_)
  refine J_ic rfl (fun _ => ?_) (fun hq => absurd e2 hq)
  iterate 1 (refine J_step rfl rfl ?_)
  have fin : J mi_L_law 13 mc ms Q (k + 1 + 0 + 0) (n + 6 + 0 + 0) 1062 [some (.ref 999999), some (.ref 0), some (.ref 121), some (.ref 129), some (.ref 130), some (.int i), some (.int c), some (.int b), a8, a9] [] h3 := by
    refine J_step rfl rfl ?_
    exact kk _ _ _ _ _ _ _ _ L2 HB (Nat.le_refl _) (Nat.le_refl _)
  refine J_if (y := 0) rfl (fun _ => fin) (fun hq => ?_)
  have hc : c = 0 := Decidable.of_not_not hq
  iterate 2 (refine J_step rfl rfl ?_)
  refine J_lald rfl hf2 (vp_in_nI (n := 0) (by decide) (by decide)) ?_
  iterate 3 (refine J_step rfl rfl ?_)
  have ez : lg_cmp (f2 (nI 0).toNatClampNeg) b.toInt64 = 0 := by rw [show f2 (nI 0).toNatClampNeg = val.toInt64 from hv2 hc, hv hc]; exact lg_self _
  exact J_if (y := 0) rfl (fun _ => fin) (fun hq => absurd ez hq)
set_option maxRecDepth 100000 in
set_option maxHeartbeats 2000000 in
theorem w_law19 {mc ms k n m N : Nat} {Q : QT} {xs : Nat → Int32} {A : AS} {h : AHp} {i : Int32} {a6 a7 a8 a9 : Option Value} (HL : LW N xs A h) (HA : AI A m) (hm : m < 512) (in1 : vp_in (i + 1) N) (in2 : vp_in (i + 2) N) (in3 : vp_in (i + 3) N) (hmc : k + 1 ≤ mc) (hms : n + 6 ≤ ms) (kk : LK mc ms Q N xs k n m i) : J mi_L_law 13 mc ms Q k n 1065 [some (.ref 999999), some (.ref 0), some (.ref 121), some (.ref 129), some (.ref 130), some (.int i), a6, a7, a8, a9] [] h := by
  obtain ⟨HC, ⟨v, R, HM, HS⟩, ⟨f, hf⟩, ⟨g, hg⟩, hS⟩ := id HL
  obtain ⟨B, c, val, b, HB, hv, HW, HR⟩ := u_riders (p0 := xs (i + 1).toNatClampNeg) HA hm
  iterate 5 (refine J_step rfl rfl ?_)
  refine J_sld rfl rfl rfl hS in1 ?_
  iterate 1 (refine J_step rfl rfl ?_)
  refine J_callS rfl rfl rfl rfl (by decide) rfl rfl rfl rfl (HW h f HC hf) hmc hms (fun E h9 q => by cases q.1) (fun v9 h1 q => ?_)
  obtain ⟨q1, W1⟩ := q
  cases q1
  have L1 := LW_w HL W1
  obtain ⟨C1, ⟨v1, R1, M1, S1⟩, -, -, hS1⟩ := id L1
  iterate 6 (refine J_step rfl rfl ?_)
  refine J_sld rfl rfl rfl hS1 in1 ?_
  refine J_callV rfl rfl rfl rfl rfl M1.1 rfl rfl rfl rfl (HR h1 v1 R1 M1 S1) hmc hms (fun E h9 q => by cases q.1) (fun v9 h2 q => ?_)
  obtain ⟨q1, P2⟩ := q
  cases q1
  obtain ⟨L2, ⟨v2, R2, M2, e2⟩, f2, hf2, hv2⟩ := LW_m L1 P2
  iterate 2 (refine J_step rfl rfl ?_)
  refine J_callV rfl rfl rfl rfl rfl M2.1 rfl rfl rfl rfl (m_thrown (d := 0) M2) hmc hms (fun E h9 q => by cases q.1) (fun v9 h3 q => ?_)
  obtain ⟨q1, rfl⟩ := q
  cases q1
  iterate 1 (refine J_step rfl rfl ?_)
  refine J_ic rfl (fun _ => ?_) (fun hq => absurd e2 hq)
  iterate 1 (refine J_step rfl rfl ?_)
  have fin : J mi_L_law 13 mc ms Q (k + 1 + 0 + 0) (n + 6 + 0 + 0) 1118 [some (.ref 999999), some (.ref 0), some (.ref 121), some (.ref 129), some (.ref 130), some (.int i), some (.int c), some (.int b), a8, a9] [] h3 := by
    refine J_step rfl rfl ?_
    exact kk _ _ _ _ _ _ _ _ L2 HB (Nat.le_refl _) (Nat.le_refl _)
  refine J_if (y := 0) rfl (fun _ => fin) (fun hq => ?_)
  have hc : c = 0 := Decidable.of_not_not hq
  iterate 2 (refine J_step rfl rfl ?_)
  refine J_lald rfl hf2 (vp_in_nI (n := 0) (by decide) (by decide)) ?_
  iterate 3 (refine J_step rfl rfl ?_)
  have ez : lg_cmp (f2 (nI 0).toNatClampNeg) b.toInt64 = 0 := by rw [show f2 (nI 0).toNatClampNeg = val.toInt64 from hv2 hc, hv hc]; exact lg_self _
  exact J_if (y := 0) rfl (fun _ => fin) (fun hq => absurd ez hq)
set_option maxRecDepth 100000 in
set_option maxHeartbeats 2000000 in
theorem w_law20 {mc ms k n m N : Nat} {Q : QT} {xs : Nat → Int32} {A : AS} {h : AHp} {i : Int32} {a6 a7 a8 a9 : Option Value} (HL : LW N xs A h) (HA : AI A m) (hm : m < 512) (in1 : vp_in (i + 1) N) (in2 : vp_in (i + 2) N) (in3 : vp_in (i + 3) N) (hmc : k + 1 ≤ mc) (hms : n + 6 ≤ ms) (kk : LK mc ms Q N xs k n m i) : J mi_L_law 13 mc ms Q k n 1121 [some (.ref 999999), some (.ref 0), some (.ref 121), some (.ref 129), some (.ref 130), some (.int i), a6, a7, a8, a9] [] h := by
  obtain ⟨HC, ⟨v, R, HM, HS⟩, ⟨f, hf⟩, ⟨g, hg⟩, hS⟩ := id HL
  obtain ⟨B, c, val, b, HB, hv, HW, HR⟩ := u_riderAt (p0 := xs (i + 1).toNatClampNeg) (p1 := xs (i + 2).toNatClampNeg) HA hm
  iterate 5 (refine J_step rfl rfl ?_)
  refine J_sld rfl rfl rfl hS in1 ?_
  iterate 4 (refine J_step rfl rfl ?_)
  refine J_sld rfl rfl rfl hS in2 ?_
  iterate 1 (refine J_step rfl rfl ?_)
  refine J_callS rfl rfl rfl rfl (by decide) rfl rfl rfl rfl (HW h f HC hf) hmc hms (fun E h9 q => by cases q.1) (fun v9 h1 q => ?_)
  obtain ⟨q1, W1⟩ := q
  cases q1
  have L1 := LW_w HL W1
  obtain ⟨C1, ⟨v1, R1, M1, S1⟩, -, -, hS1⟩ := id L1
  iterate 6 (refine J_step rfl rfl ?_)
  refine J_sld rfl rfl rfl hS1 in1 ?_
  iterate 4 (refine J_step rfl rfl ?_)
  refine J_sld rfl rfl rfl hS1 in2 ?_
  refine J_callV rfl rfl rfl rfl rfl M1.1 rfl rfl rfl rfl (HR h1 v1 R1 M1 S1) hmc hms (fun E h9 q => by cases q.1) (fun v9 h2 q => ?_)
  obtain ⟨q1, P2⟩ := q
  cases q1
  obtain ⟨L2, ⟨v2, R2, M2, e2⟩, f2, hf2, hv2⟩ := LW_m L1 P2
  iterate 2 (refine J_step rfl rfl ?_)
  refine J_callV rfl rfl rfl rfl rfl M2.1 rfl rfl rfl rfl (m_thrown (d := 0) M2) hmc hms (fun E h9 q => by cases q.1) (fun v9 h3 q => ?_)
  obtain ⟨q1, rfl⟩ := q
  cases q1
  iterate 1 (refine J_step rfl rfl ?_)
  refine J_ic rfl (fun _ => ?_) (fun hq => absurd e2 hq)
  iterate 1 (refine J_step rfl rfl ?_)
  have fin : J mi_L_law 13 mc ms Q (k + 1 + 0 + 0) (n + 6 + 0 + 0) 1186 [some (.ref 999999), some (.ref 0), some (.ref 121), some (.ref 129), some (.ref 130), some (.int i), some (.int c), some (.int b), a8, a9] [] h3 := by
    refine J_step rfl rfl ?_
    exact kk _ _ _ _ _ _ _ _ L2 HB (Nat.le_refl _) (Nat.le_refl _)
  refine J_if (y := 0) rfl (fun _ => fin) (fun hq => ?_)
  have hc : c = 0 := Decidable.of_not_not hq
  iterate 2 (refine J_step rfl rfl ?_)
  refine J_lald rfl hf2 (vp_in_nI (n := 0) (by decide) (by decide)) ?_
  iterate 3 (refine J_step rfl rfl ?_)
  have ez : lg_cmp (f2 (nI 0).toNatClampNeg) b.toInt64 = 0 := by rw [show f2 (nI 0).toNatClampNeg = val.toInt64 from hv2 hc, hv hc]; exact lg_self _
  exact J_if (y := 0) rfl (fun _ => fin) (fun hq => absurd ez hq)
set_option maxRecDepth 100000 in
set_option maxHeartbeats 2000000 in
theorem w_law21 {mc ms k n m N : Nat} {Q : QT} {xs : Nat → Int32} {A : AS} {h : AHp} {i : Int32} {a6 a7 a8 a9 : Option Value} (HL : LW N xs A h) (HA : AI A m) (hm : m < 512) (in1 : vp_in (i + 1) N) (in2 : vp_in (i + 2) N) (in3 : vp_in (i + 3) N) (hmc : k + 1 ≤ mc) (hms : n + 6 ≤ ms) (kk : LK mc ms Q N xs k n m i) : J mi_L_law 13 mc ms Q k n 1189 [some (.ref 999999), some (.ref 0), some (.ref 121), some (.ref 129), some (.ref 130), some (.int i), a6, a7, a8, a9] [] h := by
  obtain ⟨HC, ⟨v, R, HM, HS⟩, ⟨f, hf⟩, ⟨g, hg⟩, hS⟩ := id HL
  obtain ⟨B, c, val, b, HB, hv, HW, HR⟩ := u_unitsUntil (p0 := xs (i + 1).toNatClampNeg) (p1 := xs (i + 2).toNatClampNeg) HA hm
  iterate 5 (refine J_step rfl rfl ?_)
  refine J_sld rfl rfl rfl hS in1 ?_
  iterate 4 (refine J_step rfl rfl ?_)
  refine J_sld rfl rfl rfl hS in2 ?_
  iterate 1 (refine J_step rfl rfl ?_)
  refine J_callS rfl rfl rfl rfl (by decide) rfl rfl rfl rfl (HW h f HC hf) hmc hms (fun E h9 q => by cases q.1) (fun v9 h1 q => ?_)
  obtain ⟨q1, W1⟩ := q
  cases q1
  have L1 := LW_w HL W1
  obtain ⟨C1, ⟨v1, R1, M1, S1⟩, -, -, hS1⟩ := id L1
  iterate 6 (refine J_step rfl rfl ?_)
  refine J_sld rfl rfl rfl hS1 in1 ?_
  iterate 4 (refine J_step rfl rfl ?_)
  refine J_sld rfl rfl rfl hS1 in2 ?_
  refine J_callV rfl rfl rfl rfl rfl M1.1 rfl rfl rfl rfl (HR h1 v1 R1 M1 S1) hmc hms (fun E h9 q => by cases q.1) (fun v9 h2 q => ?_)
  obtain ⟨q1, P2⟩ := q
  cases q1
  obtain ⟨L2, ⟨v2, R2, M2, e2⟩, f2, hf2, hv2⟩ := LW_m L1 P2
  iterate 2 (refine J_step rfl rfl ?_)
  refine J_callV rfl rfl rfl rfl rfl M2.1 rfl rfl rfl rfl (m_thrown (d := 0) M2) hmc hms (fun E h9 q => by cases q.1) (fun v9 h3 q => ?_)
  obtain ⟨q1, rfl⟩ := q
  cases q1
  iterate 1 (refine J_step rfl rfl ?_)
  refine J_ic rfl (fun _ => ?_) (fun hq => absurd e2 hq)
  iterate 1 (refine J_step rfl rfl ?_)
  have fin : J mi_L_law 13 mc ms Q (k + 1 + 0 + 0) (n + 6 + 0 + 0) 1254 [some (.ref 999999), some (.ref 0), some (.ref 121), some (.ref 129), some (.ref 130), some (.int i), some (.int c), some (.int b), a8, a9] [] h3 := by
    refine J_step rfl rfl ?_
    exact kk _ _ _ _ _ _ _ _ L2 HB (Nat.le_refl _) (Nat.le_refl _)
  refine J_if (y := 0) rfl (fun _ => fin) (fun hq => ?_)
  have hc : c = 0 := Decidable.of_not_not hq
  iterate 2 (refine J_step rfl rfl ?_)
  refine J_lald rfl hf2 (vp_in_nI (n := 0) (by decide) (by decide)) ?_
  iterate 3 (refine J_step rfl rfl ?_)
  have ez : lg_cmp (f2 (nI 0).toNatClampNeg) b.toInt64 = 0 := by rw [show f2 (nI 0).toNatClampNeg = val.toInt64 from hv2 hc, hv hc]; exact lg_self _
  exact J_if (y := 0) rfl (fun _ => fin) (fun hq => absurd ez hq)
set_option maxRecDepth 100000 in
set_option maxHeartbeats 2000000 in
theorem w_law22 {mc ms k n m N : Nat} {Q : QT} {xs : Nat → Int32} {A : AS} {h : AHp} {i : Int32} {a6 a7 a8 a9 : Option Value} (HL : LW N xs A h) (HA : AI A m) (hm : m < 512) (in1 : vp_in (i + 1) N) (in2 : vp_in (i + 2) N) (in3 : vp_in (i + 3) N) (hmc : k + 1 ≤ mc) (hms : n + 6 ≤ ms) (kk : LK mc ms Q N xs k n m i) : J mi_L_law 13 mc ms Q k n 1257 [some (.ref 999999), some (.ref 0), some (.ref 121), some (.ref 129), some (.ref 130), some (.int i), a6, a7, a8, a9] [] h := by
  obtain ⟨HC, ⟨v, R, HM, HS⟩, ⟨f, hf⟩, ⟨g, hg⟩, hS⟩ := id HL
  obtain ⟨B, c, val, b, HB, hv, HW, HR⟩ := u_unitsUntilByMoving (p0 := xs (i + 1).toNatClampNeg) (p1 := xs (i + 2).toNatClampNeg) HA hm
  iterate 5 (refine J_step rfl rfl ?_)
  refine J_sld rfl rfl rfl hS in1 ?_
  iterate 4 (refine J_step rfl rfl ?_)
  refine J_sld rfl rfl rfl hS in2 ?_
  iterate 1 (refine J_step rfl rfl ?_)
  refine J_callS rfl rfl rfl rfl (by decide) rfl rfl rfl rfl (HW h f HC hf) hmc hms (fun E h9 q => by cases q.1) (fun v9 h1 q => ?_)
  obtain ⟨q1, W1⟩ := q
  cases q1
  have L1 := LW_w HL W1
  obtain ⟨C1, ⟨v1, R1, M1, S1⟩, -, -, hS1⟩ := id L1
  iterate 6 (refine J_step rfl rfl ?_)
  refine J_sld rfl rfl rfl hS1 in1 ?_
  iterate 4 (refine J_step rfl rfl ?_)
  refine J_sld rfl rfl rfl hS1 in2 ?_
  refine J_callV rfl rfl rfl rfl rfl M1.1 rfl rfl rfl rfl (HR h1 v1 R1 M1 S1) hmc hms (fun E h9 q => by cases q.1) (fun v9 h2 q => ?_)
  obtain ⟨q1, P2⟩ := q
  cases q1
  obtain ⟨L2, ⟨v2, R2, M2, e2⟩, f2, hf2, hv2⟩ := LW_m L1 P2
  iterate 2 (refine J_step rfl rfl ?_)
  refine J_callV rfl rfl rfl rfl rfl M2.1 rfl rfl rfl rfl (m_thrown (d := 0) M2) hmc hms (fun E h9 q => by cases q.1) (fun v9 h3 q => ?_)
  obtain ⟨q1, rfl⟩ := q
  cases q1
  iterate 1 (refine J_step rfl rfl ?_)
  refine J_ic rfl (fun _ => ?_) (fun hq => absurd e2 hq)
  iterate 1 (refine J_step rfl rfl ?_)
  have fin : J mi_L_law 13 mc ms Q (k + 1 + 0 + 0) (n + 6 + 0 + 0) 1322 [some (.ref 999999), some (.ref 0), some (.ref 121), some (.ref 129), some (.ref 130), some (.int i), some (.int c), some (.int b), a8, a9] [] h3 := by
    refine J_step rfl rfl ?_
    exact kk _ _ _ _ _ _ _ _ L2 HB (Nat.le_refl _) (Nat.le_refl _)
  refine J_if (y := 0) rfl (fun _ => fin) (fun hq => ?_)
  have hc : c = 0 := Decidable.of_not_not hq
  iterate 2 (refine J_step rfl rfl ?_)
  refine J_lald rfl hf2 (vp_in_nI (n := 0) (by decide) (by decide)) ?_
  iterate 3 (refine J_step rfl rfl ?_)
  have ez : lg_cmp (f2 (nI 0).toNatClampNeg) b.toInt64 = 0 := by rw [show f2 (nI 0).toNatClampNeg = val.toInt64 from hv2 hc, hv hc]; exact lg_self _
  exact J_if (y := 0) rfl (fun _ => fin) (fun hq => absurd ez hq)
set_option maxRecDepth 100000 in
set_option maxHeartbeats 2000000 in
theorem w_law23 {mc ms k n m N : Nat} {Q : QT} {xs : Nat → Int32} {A : AS} {h : AHp} {i : Int32} {a6 a7 a8 a9 : Option Value} (HL : LW N xs A h) (HA : AI A m) (hm : m < 512) (in1 : vp_in (i + 1) N) (in2 : vp_in (i + 2) N) (in3 : vp_in (i + 3) N) (hmc : k + 1 ≤ mc) (hms : n + 6 ≤ ms) (kk : LK mc ms Q N xs k n m i) : J mi_L_law 13 mc ms Q k n 1325 [some (.ref 999999), some (.ref 0), some (.ref 121), some (.ref 129), some (.ref 130), some (.int i), a6, a7, a8, a9] [] h := by
  obtain ⟨HC, ⟨v, R, HM, HS⟩, ⟨f, hf⟩, ⟨g, hg⟩, hS⟩ := id HL
  obtain ⟨B, _, ⟨b, rfl⟩, HB, HX, HR⟩ := us_pickers  HA hm
  iterate 1 (refine J_step rfl rfl ?_)
  refine J_callV rfl rfl rfl rfl rfl HC.1 rfl rfl rfl rfl (HX h HC) (by omega) (by omega) (fun E h9 q => by cases q.1) (fun v9 h1 q => ?_)
  obtain ⟨q1, W1⟩ := q
  cases q1
  have L1 := LW_x HL W1
  obtain ⟨C1, ⟨v1, R1, M1, S1⟩, -, -, hS1⟩ := id L1
  iterate 1 (refine J_step rfl rfl ?_)
  refine J_callV rfl rfl rfl rfl rfl M1.1 rfl rfl rfl rfl (HR h1 v1 R1 M1 S1) (by omega) (by omega) (fun E h9 q => by cases q.1) (fun v9 h2 q => ?_)
  obtain ⟨q1, c2, P2⟩ := q
  cases q1
  have L2 := LW_y L1 P2
  exact J_ic rfl (fun _ => kk _ _ _ _ _ _ _ _ L2 HB (by omega) (by omega)) (fun hq => absurd rfl hq)
set_option maxRecDepth 100000 in
set_option maxHeartbeats 2000000 in
theorem w_law24 {mc ms k n m N : Nat} {Q : QT} {xs : Nat → Int32} {A : AS} {h : AHp} {i : Int32} {a6 a7 a8 a9 : Option Value} (HL : LW N xs A h) (HA : AI A m) (hm : m < 512) (in1 : vp_in (i + 1) N) (in2 : vp_in (i + 2) N) (in3 : vp_in (i + 3) N) (hmc : k + 1 ≤ mc) (hms : n + 6 ≤ ms) (kk : LK mc ms Q N xs k n m i) : J mi_L_law 13 mc ms Q k n 1338 [some (.ref 999999), some (.ref 0), some (.ref 121), some (.ref 129), some (.ref 130), some (.int i), a6, a7, a8, a9] [] h := by
  obtain ⟨HC, ⟨v, R, HM, HS⟩, ⟨f, hf⟩, ⟨g, hg⟩, hS⟩ := id HL
  obtain ⟨B, _, ⟨b, rfl⟩, HB, HX, HR⟩ := us_isPresent (p0 := xs (i + 1).toNatClampNeg) HA hm
  iterate 5 (refine J_step rfl rfl ?_)
  refine J_sld rfl rfl rfl hS in1 ?_
  refine J_callV rfl rfl rfl rfl rfl HC.1 rfl rfl rfl rfl (HX h HC) (by omega) (by omega) (fun E h9 q => by cases q.1) (fun v9 h1 q => ?_)
  obtain ⟨q1, W1⟩ := q
  cases q1
  have L1 := LW_x HL W1
  obtain ⟨C1, ⟨v1, R1, M1, S1⟩, -, -, hS1⟩ := id L1
  iterate 5 (refine J_step rfl rfl ?_)
  refine J_sld rfl rfl rfl hS1 in1 ?_
  refine J_callV rfl rfl rfl rfl rfl M1.1 rfl rfl rfl rfl (HR h1 v1 R1 M1 S1) (by omega) (by omega) (fun E h9 q => by cases q.1) (fun v9 h2 q => ?_)
  obtain ⟨q1, c2, P2⟩ := q
  cases q1
  have L2 := LW_y L1 P2
  exact J_ic rfl (fun _ => kk _ _ _ _ _ _ _ _ L2 HB (by omega) (by omega)) (fun hq => absurd rfl hq)
set_option maxRecDepth 100000 in
set_option maxHeartbeats 2000000 in
theorem w_law25 {mc ms k n m N : Nat} {Q : QT} {xs : Nat → Int32} {A : AS} {h : AHp} {i : Int32} {a6 a7 a8 a9 : Option Value} (HL : LW N xs A h) (HA : AI A m) (hm : m < 512) (in1 : vp_in (i + 1) N) (in2 : vp_in (i + 2) N) (in3 : vp_in (i + 3) N) (hmc : k + 1 ≤ mc) (hms : n + 6 ≤ ms) (kk : LK mc ms Q N xs k n m i) : J mi_L_law 13 mc ms Q k n 1363 [some (.ref 999999), some (.ref 0), some (.ref 121), some (.ref 129), some (.ref 130), some (.int i), a6, a7, a8, a9] [] h := by
  obtain ⟨HC, ⟨v, R, HM, HS⟩, ⟨f, hf⟩, ⟨g, hg⟩, hS⟩ := id HL
  obtain ⟨B, c, val, b, HB, hv, HW, HR⟩ := u_weight (p0 := xs (i + 1).toNatClampNeg) HA hm
  iterate 5 (refine J_step rfl rfl ?_)
  refine J_sld rfl rfl rfl hS in1 ?_
  iterate 1 (refine J_step rfl rfl ?_)
  refine J_callS rfl rfl rfl rfl (by decide) rfl rfl rfl rfl (HW h f HC hf) hmc hms (fun E h9 q => by cases q.1) (fun v9 h1 q => ?_)
  obtain ⟨q1, W1⟩ := q
  cases q1
  have L1 := LW_w HL W1
  obtain ⟨C1, ⟨v1, R1, M1, S1⟩, -, -, hS1⟩ := id L1
  iterate 6 (refine J_step rfl rfl ?_)
  refine J_sld rfl rfl rfl hS1 in1 ?_
  refine J_callV rfl rfl rfl rfl rfl M1.1 rfl rfl rfl rfl (HR h1 v1 R1 M1 S1) hmc hms (fun E h9 q => by cases q.1) (fun v9 h2 q => ?_)
  obtain ⟨q1, P2⟩ := q
  cases q1
  obtain ⟨L2, ⟨v2, R2, M2, e2⟩, f2, hf2, hv2⟩ := LW_m L1 P2
  iterate 2 (refine J_step rfl rfl ?_)
  refine J_callV rfl rfl rfl rfl rfl M2.1 rfl rfl rfl rfl (m_thrown (d := 0) M2) hmc hms (fun E h9 q => by cases q.1) (fun v9 h3 q => ?_)
  obtain ⟨q1, rfl⟩ := q
  cases q1
  iterate 1 (refine J_step rfl rfl ?_)
  refine J_ic rfl (fun _ => ?_) (fun hq => absurd e2 hq)
  iterate 1 (refine J_step rfl rfl ?_)
  have fin : J mi_L_law 13 mc ms Q (k + 1 + 0 + 0) (n + 6 + 0 + 0) 1416 [some (.ref 999999), some (.ref 0), some (.ref 121), some (.ref 129), some (.ref 130), some (.int i), some (.int c), some (.int b), a8, a9] [] h3 := by
    refine J_step rfl rfl ?_
    exact kk _ _ _ _ _ _ _ _ L2 HB (Nat.le_refl _) (Nat.le_refl _)
  refine J_if (y := 0) rfl (fun _ => fin) (fun hq => ?_)
  have hc : c = 0 := Decidable.of_not_not hq
  iterate 2 (refine J_step rfl rfl ?_)
  refine J_lald rfl hf2 (vp_in_nI (n := 0) (by decide) (by decide)) ?_
  iterate 3 (refine J_step rfl rfl ?_)
  have ez : lg_cmp (f2 (nI 0).toNatClampNeg) b.toInt64 = 0 := by rw [show f2 (nI 0).toNatClampNeg = val.toInt64 from hv2 hc, hv hc]; exact lg_self _
  exact J_if (y := 0) rfl (fun _ => fin) (fun hq => absurd ez hq)
