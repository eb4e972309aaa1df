set_option maxRecDepth 100000 in
set_option maxHeartbeats 2000000 in
theorem w_law0 {mc ms k n m N : Nat} {Q : QT} {xs : Nat → Int32} {A : AS} {h : AHp} {i : Int32} {a6 a7 a8 a9 : Option Value} (HL : LW N xs A h) (HA : AI A m) (hm : m < 512) (in1 : vp_in (i + 1) N) (in2 : vp_in (i + 2) N) (in3 : vp_in (i + 3) N) (hmc : k + 1 ≤ mc) (hms : n + 6 ≤ ms) (kk : LK mc ms Q N xs k n m i) : J mi_L_law 13 mc ms Q k n 264 [some (.ref 999999), some (.ref 0), some (.ref 121), some (.ref 129), some (.ref 130), some (.int i), a6, a7, a8, a9] [] h := by
  obtain ⟨HC, ⟨v, R, HM, HS⟩, ⟨f, hf⟩, ⟨g, hg⟩, hS⟩ := id HL
  obtain ⟨B, c, val, b, HB, hv, HW, HR⟩ := u_addPicker (p0 := xs (i + 1).toNatClampNeg) (p1 := xs (i + 2).toNatClampNeg) (p2 := xs (i + 3).toNatClampNeg) HA hm
  iterate 5 (refine J_step rfl rfl ?_)
  refine J_sld rfl rfl rfl hS in1 ?_
  iterate 4 (refine J_step rfl rfl ?_)
  refine J_sld rfl rfl rfl hS in2 ?_
  iterate 4 (refine J_step rfl rfl ?_)
  refine J_sld rfl rfl rfl hS in3 ?_
  iterate 1 (refine J_step rfl rfl ?_)
  refine J_callS rfl rfl rfl rfl (by decide) rfl rfl rfl rfl (HW h f HC hf) hmc hms (fun E h9 q => by cases q.1) (fun v9 h1 q => ?_)
  obtain ⟨q1, W1⟩ := q
  cases q1
  have L1 := LW_w HL W1
  obtain ⟨C1, ⟨v1, R1, M1, S1⟩, -, -, hS1⟩ := id L1
  iterate 6 (refine J_step rfl rfl ?_)
  refine J_sld rfl rfl rfl hS1 in1 ?_
  iterate 4 (refine J_step rfl rfl ?_)
  refine J_sld rfl rfl rfl hS1 in2 ?_
  iterate 4 (refine J_step rfl rfl ?_)
  refine J_sld rfl rfl rfl hS1 in3 ?_
  refine J_callV rfl rfl rfl rfl rfl M1.1 rfl rfl rfl rfl (HR h1 v1 R1 M1 S1) hmc hms (fun E h9 q => by cases q.1) (fun v9 h2 q => ?_)
  obtain ⟨q1, P2⟩ := q
  cases q1
  obtain ⟨L2, ⟨v2, R2, M2, e2⟩, f2, hf2, hv2⟩ := LW_m L1 P2
  iterate 2 (refine J_step rfl rfl ?_)
  refine J_callV rfl rfl rfl rfl rfl M2.1 rfl rfl rfl rfl (m_thrown (d := 0) M2) hmc hms (fun E h9 q => by cases q.1) (fun v9 h3 q => ?_)
  obtain ⟨q1, rfl⟩ := q
  cases q1
  iterate 1 (refine J_step rfl rfl ?_)
  refine J_ic rfl (fun _ => ?_) (fun hq => absurd e2 hq)
  iterate 1 (refine J_step rfl rfl ?_)
  have fin : J mi_L_law 13 mc ms Q (k + 1 + 0 + 0) (n + 6 + 0 + 0) 341 [some (.ref 999999), some (.ref 0), some (.ref 121), some (.ref 129), some (.ref 130), some (.int i), some (.int c), some (.int b), a8, a9] [] h3 := by
    refine J_step rfl rfl ?_
    exact kk _ _ _ _ _ _ _ _ L2 HB (Nat.le_refl _) (Nat.le_refl _)
  refine J_if (y := 0) rfl (fun _ => fin) (fun hq => ?_)
  have hc : c = 0 := Decidable.of_not_not hq
  iterate 2 (refine J_step rfl rfl ?_)
  refine J_lald rfl hf2 (vp_in_nI (n := 0) (by decide) (by decide)) ?_
  iterate 3 (refine J_step rfl rfl ?_)
  have ez : lg_cmp (f2 (nI 0).toNatClampNeg) b.toInt64 = 0 := by rw [show f2 (nI 0).toNatClampNeg = val.toInt64 from hv2 hc, hv hc]; exact lg_self _
  exact J_if (y := 0) rfl (fun _ => fin) (fun hq => absurd ez hq)
set_option maxRecDepth 100000 in
set_option maxHeartbeats 2000000 in
theorem w_law1 {mc ms k n m N : Nat} {Q : QT} {xs : Nat → Int32} {A : AS} {h : AHp} {i : Int32} {a6 a7 a8 a9 : Option Value} (HL : LW N xs A h) (HA : AI A m) (hm : m < 512) (in1 : vp_in (i + 1) N) (in2 : vp_in (i + 2) N) (in3 : vp_in (i + 3) N) (hmc : k + 1 ≤ mc) (hms : n + 6 ≤ ms) (kk : LK mc ms Q N xs k n m i) : J mi_L_law 13 mc ms Q k n 344 [some (.ref 999999), some (.ref 0), some (.ref 121), some (.ref 129), some (.ref 130), some (.int i), a6, a7, a8, a9] [] h := by
  obtain ⟨HC, ⟨v, R, HM, HS⟩, ⟨f, hf⟩, ⟨g, hg⟩, hS⟩ := id HL
  obtain ⟨B, c, val, b, HB, hv, HW, HR⟩ := u_removePicker (p0 := xs (i + 1).toNatClampNeg) HA hm
  iterate 5 (refine J_step rfl rfl ?_)
  refine J_sld rfl rfl rfl hS in1 ?_
  iterate 1 (refine J_step rfl rfl ?_)
  refine J_callS rfl rfl rfl rfl (by decide) rfl rfl rfl rfl (HW h f HC hf) hmc hms (fun E h9 q => by cases q.1) (fun v9 h1 q => ?_)
  obtain ⟨q1, W1⟩ := q
  cases q1
  have L1 := LW_w HL W1
  obtain ⟨C1, ⟨v1, R1, M1, S1⟩, -, -, hS1⟩ := id L1
  iterate 6 (refine J_step rfl rfl ?_)
  refine J_sld rfl rfl rfl hS1 in1 ?_
  refine J_callV rfl rfl rfl rfl rfl M1.1 rfl rfl rfl rfl (HR h1 v1 R1 M1 S1) hmc hms (fun E h9 q => by cases q.1) (fun v9 h2 q => ?_)
  obtain ⟨q1, P2⟩ := q
  cases q1
  obtain ⟨L2, ⟨v2, R2, M2, e2⟩, f2, hf2, hv2⟩ := LW_m L1 P2
  iterate 2 (refine J_step rfl rfl ?_)
  refine J_callV rfl rfl rfl rfl rfl M2.1 rfl rfl rfl rfl (m_thrown (d := 0) M2) hmc hms (fun E h9 q => by cases q.1) (fun v9 h3 q => ?_)
  obtain ⟨q1, rfl⟩ := q
  cases q1
  iterate 1 (refine J_step rfl rfl ?_)
  refine J_ic rfl (fun _ => ?_) (fun hq => absurd e2 hq)
  iterate 1 (refine J_step rfl rfl ?_)
  have fin : J mi_L_law 13 mc ms Q (k + 1 + 0 + 0) (n + 6 + 0 + 0) 397 [some (.ref 999999), some (.ref 0), some (.ref 121), some (.ref 129), some (.ref 130), some (.int i), some (.int c), some (.int b), a8, a9] [] h3 := by
    refine J_step rfl rfl ?_
    exact kk _ _ _ _ _ _ _ _ L2 HB (Nat.le_refl _) (Nat.le_refl _)
  refine J_if (y := 0) rfl (fun _ => fin) (fun hq => ?_)
  have hc : c = 0 := Decidable.of_not_not hq
  iterate 2 (refine J_step rfl rfl ?_)
  refine J_lald rfl hf2 (vp_in_nI (n := 0) (by decide) (by decide)) ?_
  iterate 3 (refine J_step rfl rfl ?_)
  have ez : lg_cmp (f2 (nI 0).toNatClampNeg) b.toInt64 = 0 := by rw [show f2 (nI 0).toNatClampNeg = val.toInt64 from hv2 hc, hv hc]; exact lg_self _
  exact J_if (y := 0) rfl (fun _ => fin) (fun hq => absurd ez hq)
set_option maxRecDepth 100000 in
set_option maxHeartbeats 2000000 in
theorem w_law2 {mc ms k n m N : Nat} {Q : QT} {xs : Nat → Int32} {A : AS} {h : AHp} {i : Int32} {a6 a7 a8 a9 : Option Value} (HL : LW N xs A h) (HA : AI A m) (hm : m < 512) (in1 : vp_in (i + 1) N) (in2 : vp_in (i + 2) N) (in3 : vp_in (i + 3) N) (hmc : k + 1 ≤ mc) (hms : n + 6 ≤ ms) (kk : LK mc ms Q N xs k n m i) : J mi_L_law 13 mc ms Q k n 400 [some (.ref 999999), some (.ref 0), some (.ref 121), some (.ref 129), some (.ref 130), some (.int i), a6, a7, a8, a9] [] h := by
  obtain ⟨HC, ⟨v, R, HM, HS⟩, ⟨f, hf⟩, ⟨g, hg⟩, hS⟩ := id HL
  obtain ⟨B, c, val, b, HB, hv, HW, HR⟩ := u_setSlope (p0 := xs (i + 1).toNatClampNeg) (p1 := xs (i + 2).toNatClampNeg) HA hm
  iterate 5 (refine J_step rfl rfl ?_)
  refine J_sld rfl rfl rfl hS in1 ?_
  iterate 4 (refine J_step rfl rfl ?_)
  refine J_sld rfl rfl rfl hS in2 ?_
  iterate 1 (refine J_step rfl rfl ?_)
  refine J_callS rfl rfl rfl rfl (by decide) rfl rfl rfl rfl (HW h f HC hf) hmc hms (fun E h9 q => by cases q.1) (fun v9 h1 q => ?_)
  obtain ⟨q1, W1⟩ := q
  cases q1
  have L1 := LW_w HL W1
  obtain ⟨C1, ⟨v1, R1, M1, S1⟩, -, -, hS1⟩ := id L1
  iterate 6 (refine J_step rfl rfl ?_)
  refine J_sld rfl rfl rfl hS1 in1 ?_
  iterate 4 (refine J_step rfl rfl ?_)
  refine J_sld rfl rfl rfl hS1 in2 ?_
  refine J_callV rfl rfl rfl rfl rfl M1.1 rfl rfl rfl rfl (HR h1 v1 R1 M1 S1) hmc hms (fun E h9 q => by cases q.1) (fun v9 h2 q => ?_)
  obtain ⟨q1, P2⟩ := q
  cases q1
  obtain ⟨L2, ⟨v2, R2, M2, e2⟩, f2, hf2, hv2⟩ := LW_m L1 P2
  iterate 2 (refine J_step rfl rfl ?_)
  refine J_callV rfl rfl rfl rfl rfl M2.1 rfl rfl rfl rfl (m_thrown (d := 0) M2) hmc hms (fun E h9 q => by cases q.1) (fun v9 h3 q => ?_)
  obtain ⟨q1, rfl⟩ := q
  cases q1
  iterate 1 (refine J_step rfl rfl ?_)
  refine J_ic rfl (fun _ => ?_) (fun hq => absurd e2 hq)
  iterate 1 (refine J_step rfl rfl ?_)
  have fin : J mi_L_law 13 mc ms Q (k + 1 + 0 + 0) (n + 6 + 0 + 0) 465 [some (.ref 999999), some (.ref 0), some (.ref 121), some (.ref 129), some (.ref 130), some (.int i), some (.int c), some (.int b), a8, a9] [] h3 := by
    refine J_step rfl rfl ?_
    exact kk _ _ _ _ _ _ _ _ L2 HB (Nat.le_refl _) (Nat.le_refl _)
  refine J_if (y := 0) rfl (fun _ => fin) (fun hq => ?_)
  have hc : c = 0 := Decidable.of_not_not hq
  iterate 2 (refine J_step rfl rfl ?_)
  refine J_lald rfl hf2 (vp_in_nI (n := 0) (by decide) (by decide)) ?_
  iterate 3 (refine J_step rfl rfl ?_)
  have ez : lg_cmp (f2 (nI 0).toNatClampNeg) b.toInt64 = 0 := by rw [show f2 (nI 0).toNatClampNeg = val.toInt64 from hv2 hc, hv hc]; exact lg_self _
  exact J_if (y := 0) rfl (fun _ => fin) (fun hq => absurd ez hq)
set_option maxRecDepth 100000 in
set_option maxHeartbeats 2000000 in
theorem w_law3 {mc ms k n m N : Nat} {Q : QT} {xs : Nat → Int32} {A : AS} {h : AHp} {i : Int32} {a6 a7 a8 a9 : Option Value} (HL : LW N xs A h) (HA : AI A m) (hm : m < 512) (in1 : vp_in (i + 1) N) (in2 : vp_in (i + 2) N) (in3 : vp_in (i + 3) N) (hmc : k + 1 ≤ mc) (hms : n + 6 ≤ ms) (kk : LK mc ms Q N xs k n m i) : J mi_L_law 13 mc ms Q k n 468 [some (.ref 999999), some (.ref 0), some (.ref 121), some (.ref 129), some (.ref 130), some (.int i), a6, a7, a8, a9] [] h := by
  obtain ⟨HC, ⟨v, R, HM, HS⟩, ⟨f, hf⟩, ⟨g, hg⟩, hS⟩ := id HL
  obtain ⟨B, c, val, b, HB, hv, HW, HR⟩ := u_Bturn  HA hm
  iterate 2 (refine J_step rfl rfl ?_)
  refine J_callS rfl rfl rfl rfl (by decide) rfl rfl rfl rfl (HW h f HC hf) hmc hms (fun E h9 q => by cases q.1) (fun v9 h1 q => ?_)
  obtain ⟨q1, W1⟩ := q
  cases q1
  have L1 := LW_w HL W1
  obtain ⟨C1, ⟨v1, R1, M1, S1⟩, -, -, hS1⟩ := id L1
  iterate 2 (refine J_step rfl rfl ?_)
  refine J_callV rfl rfl rfl rfl rfl M1.1 rfl rfl rfl rfl (HR h1 v1 R1 M1 S1) hmc hms (fun E h9 q => by cases q.1) (fun v9 h2 q => ?_)
  obtain ⟨q1, P2⟩ := q
  cases q1
  obtain ⟨L2, ⟨v2, R2, M2, e2⟩, f2, hf2, hv2⟩ := LW_m L1 P2
  iterate 2 (refine J_step rfl rfl ?_)
  refine J_callV rfl rfl rfl rfl rfl M2.1 rfl rfl rfl rfl (m_thrown (d := 0) M2) hmc hms (fun E h9 q => by cases q.1) (fun v9 h3 q => ?_)
  obtain ⟨q1, rfl⟩ := q
  cases q1
  iterate 1 (refine J_step rfl rfl ?_)
  refine J_ic rfl (fun _ => ?_) (fun hq => absurd e2 hq)
  iterate 1 (refine J_step rfl rfl ?_)
  have fin : J mi_L_law 13 mc ms Q (k + 1 + 0 + 0) (n + 6 + 0 + 0) 516 [some (.ref 999999), some (.ref 0), some (.ref 121), some (.ref 129), some (.ref 130), some (.int i), some (.int c), some (.int b), a8, a9] [] h3 := by
    refine J_step rfl rfl ?_
    exact kk _ _ _ _ _ _ _ _ L2 HB (Nat.le_refl _) (Nat.le_refl _)
  refine J_if (y := 0) rfl (fun _ => fin) (fun hq => ?_)
  have hc : c = 0 := Decidable.of_not_not hq
  iterate 2 (refine J_step rfl rfl ?_)
  obtain ⟨hv1, hv3⟩ := hv hc
  have ef : f2 (nI 0).toNatClampNeg = b.toInt64 := by rw [hv1]; exact hv2 hc
  rw [← hv1] at hv3
  refine J_lald rfl hf2 (vp_in_nI (n := 0) (by decide) (by decide)) ?_
  iterate 1 (refine J_step rfl rfl ?_)
  refine J_if (y := 0) rfl (fun hb => ?_) (fun hb => ?_)
  · have hb0 : b = 0 := hb
    iterate 2 (refine J_step rfl rfl ?_)
    have ez : lg_cmp (f2 (nI 0).toNatClampNeg) 0 = 0 := by rw [ef, hb0]; exact lg_self _
    exact J_if (y := 0) rfl (fun _ => fin) (fun hq => absurd ez hq)
  · have hb0 : b = 1 := hv3.resolve_left hb
    iterate 3 (refine J_step rfl rfl ?_)
    have ez : lg_cmp (f2 (nI 0).toNatClampNeg) 1 = 0 := by rw [ef, hb0]; exact lg_self _
    exact J_if (y := 0) rfl (fun _ => fin) (fun hq => absurd ez hq)
set_option maxRecDepth 100000 in
set_option maxHeartbeats 2000000 in
theorem w_law4 {mc ms k n m N : Nat} {Q : QT} {xs : Nat → Int32} {A : AS} {h : AHp} {i : Int32} {a6 a7 a8 a9 : Option Value} (HL : LW N xs A h) (HA : AI A m) (hm : m < 512) (in1 : vp_in (i + 1) N) (in2 : vp_in (i + 2) N) (in3 : vp_in (i + 3) N) (hmc : k + 1 ≤ mc) (hms : n + 6 ≤ ms) (kk : LK mc ms Q N xs k n m i) : J mi_L_law 13 mc ms Q k n 519 [some (.ref 999999), some (.ref 0), some (.ref 121), some (.ref 129), some (.ref 130), some (.int i), a6, a7, a8, a9] [] h := by
  obtain ⟨HC, ⟨v, R, HM, HS⟩, ⟨f, hf⟩, ⟨g, hg⟩, hS⟩ := id HL
  obtain ⟨B, c, val, b, HB, hv, HW, HR⟩ := u_setCapacity (p0 := xs (i + 1).toNatClampNeg) HA hm
  iterate 5 (refine J_step rfl rfl ?_)
  refine J_sld rfl rfl rfl hS in1 ?_
  iterate 1 (refine J_step rfl rfl ?_)
  refine J_callS rfl rfl rfl rfl (by decide) rfl rfl rfl rfl (HW h f HC hf) hmc hms (fun E h9 q => by cases q.1) (fun v9 h1 q => ?_)
  obtain ⟨q1, W1⟩ := q
  cases q1
  have L1 := LW_w HL W1
  obtain ⟨C1, ⟨v1, R1, M1, S1⟩, -, -, hS1⟩ := id L1
  iterate 6 (refine J_step rfl rfl ?_)
  refine J_sld rfl rfl rfl hS1 in1 ?_
  refine J_callV rfl rfl rfl rfl rfl M1.1 rfl rfl rfl rfl (HR h1 v1 R1 M1 S1) hmc hms (fun E h9 q => by cases q.1) (fun v9 h2 q => ?_)
  obtain ⟨q1, P2⟩ := q
  cases q1
  obtain ⟨L2, ⟨v2, R2, M2, e2⟩, f2, hf2, hv2⟩ := LW_m L1 P2
  iterate 2 (refine J_step rfl rfl ?_)
  refine J_callV rfl rfl rfl rfl rfl M2.1 rfl rfl rfl rfl (m_thrown (d := 0) M2) hmc hms (fun E h9 q => by cases q.1) (fun v9 h3 q => ?_)
  obtain ⟨q1, rfl⟩ := q
  cases q1
  iterate 1 (refine J_step rfl rfl ?_)
  refine J_ic rfl (fun _ => ?_) (fun hq => absurd e2 hq)
  iterate 1 (refine J_step rfl rfl ?_)
  have fin : J mi_L_law 13 mc ms Q (k + 1 + 0 + 0) (n + 6 + 0 + 0) 572 [some (.ref 999999), some (.ref 0), some (.ref 121), some (.ref 129), some (.ref 130), some (.int i), some (.int c), some (.int b), a8, a9] [] h3 := by
    refine J_step rfl rfl ?_
    exact kk _ _ _ _ _ _ _ _ L2 HB (Nat.le_refl _) (Nat.le_refl _)
  refine J_if (y := 0) rfl (fun _ => fin) (fun hq => ?_)
  have hc : c = 0 := Decidable.of_not_not hq
  iterate 2 (refine J_step rfl rfl ?_)
  refine J_lald rfl hf2 (vp_in_nI (n := 0) (by decide) (by decide)) ?_
  iterate 3 (refine J_step rfl rfl ?_)
  have ez : lg_cmp (f2 (nI 0).toNatClampNeg) b.toInt64 = 0 := by rw [show f2 (nI 0).toNatClampNeg = val.toInt64 from hv2 hc, hv hc]; exact lg_self _
  exact J_if (y := 0) rfl (fun _ => fin) (fun hq => absurd ez hq)
set_option maxRecDepth 100000 in
set_option maxHeartbeats 2000000 in
theorem w_law5 {mc ms k n m N : Nat} {Q : QT} {xs : Nat → Int32} {A : AS} {h : AHp} {i : Int32} {a6 a7 a8 a9 : Option Value} (HL : LW N xs A h) (HA : AI A m) (hm : m < 512) (in1 : vp_in (i + 1) N) (in2 : vp_in (i + 2) N) (in3 : vp_in (i + 3) N) (hmc : k + 1 ≤ mc) (hms : n + 6 ≤ ms) (kk : LK mc ms Q N xs k n m i) : J mi_L_law 13 mc ms Q k n 575 [some (.ref 999999), some (.ref 0), some (.ref 121), some (.ref 129), some (.ref 130), some (.int i), a6, a7, a8, a9] [] h := by
  obtain ⟨HC, ⟨v, R, HM, HS⟩, ⟨f, hf⟩, ⟨g, hg⟩, hS⟩ := id HL
  obtain ⟨B, c, val, b, HB, hv, HW, HR⟩ := u_pass (p0 := xs (i + 1).toNatClampNeg) HA hm
  iterate 5 (refine J_step rfl rfl ?_)
  refine J_sld rfl rfl rfl hS in1 ?_
  iterate 1 (refine J_step rfl rfl ?_)
  refine J_callS rfl rfl rfl rfl (by decide) rfl rfl rfl rfl (HW h f HC hf) hmc hms (fun E h9 q => by cases q.1) (fun v9 h1 q => ?_)
  obtain ⟨q1, W1⟩ := q
  cases q1
  have L1 := LW_w HL W1
  obtain ⟨C1, ⟨v1, R1, M1, S1⟩, -, -, hS1⟩ := id L1
  iterate 6 (refine J_step rfl rfl ?_)
  refine J_sld rfl rfl rfl hS1 in1 ?_
  refine J_callV rfl rfl rfl rfl rfl M1.1 rfl rfl rfl rfl (HR h1 v1 R1 M1 S1) hmc hms (fun E h9 q => by cases q.1) (fun v9 h2 q => ?_)
  obtain ⟨q1, P2⟩ := q
  cases q1
  obtain ⟨L2, ⟨v2, R2, M2, e2⟩, f2, hf2, hv2⟩ := LW_m L1 P2
  iterate 2 (refine J_step rfl rfl ?_)
  refine J_callV rfl rfl rfl rfl rfl M2.1 rfl rfl rfl rfl (m_thrown (d := 0) M2) hmc hms (fun E h9 q => by cases q.1) (fun v9 h3 q => ?_)
  obtain ⟨q1, rfl⟩ := q
  cases q1
  iterate 1 (refine J_step rfl rfl ?_)
  refine J_ic rfl (fun _ => ?_) (fun hq => absurd e2 hq)
  iterate 1 (refine J_step rfl rfl ?_)
  have fin : J mi_L_law 13 mc ms Q (k + 1 + 0 + 0) (n + 6 + 0 + 0) 628 [some (.ref 999999), some (.ref 0), some (.ref 121), some (.ref 129), some (.ref 130), some (.int i), some (.int c), some (.int b), a8, a9] [] h3 := by
    refine J_step rfl rfl ?_
    exact kk _ _ _ _ _ _ _ _ L2 HB (Nat.le_refl _) (Nat.le_refl _)
  refine J_if (y := 0) rfl (fun _ => fin) (fun hq => ?_)
  have hc : c = 0 := Decidable.of_not_not hq
  iterate 2 (refine J_step rfl rfl ?_)
  refine J_lald rfl hf2 (vp_in_nI (n := 0) (by decide) (by decide)) ?_
  iterate 3 (refine J_step rfl rfl ?_)
  have ez : lg_cmp (f2 (nI 0).toNatClampNeg) b.toInt64 = 0 := by rw [show f2 (nI 0).toNatClampNeg = val.toInt64 from hv2 hc, hv hc]; exact lg_self _
  exact J_if (y := 0) rfl (fun _ => fin) (fun hq => absurd ez hq)
set_option maxRecDepth 100000 in
set_option maxHeartbeats 2000000 in
theorem w_law6 {mc ms k n m N : Nat} {Q : QT} {xs : Nat → Int32} {A : AS} {h : AHp} {i : Int32} {a6 a7 a8 a9 : Option Value} (HL : LW N xs A h) (HA : AI A m) (hm : m < 512) (in1 : vp_in (i + 1) N) (in2 : vp_in (i + 2) N) (in3 : vp_in (i + 3) N) (hmc : k + 1 ≤ mc) (hms : n + 6 ≤ ms) (kk : LK mc ms Q N xs k n m i) : J mi_L_law 13 mc ms Q k n 631 [some (.ref 999999), some (.ref 0), some (.ref 121), some (.ref 129), some (.ref 130), some (.int i), a6, a7, a8, a9] [] h := by
  obtain ⟨HC, ⟨v, R, HM, HS⟩, ⟨f, hf⟩, ⟨g, hg⟩, hS⟩ := id HL
  obtain ⟨B, _, ⟨b, rfl⟩, HB, HX, HR⟩ := us_time  HA hm
  iterate 1 (refine J_step rfl rfl ?_)
  refine J_callV rfl rfl rfl rfl rfl HC.1 rfl rfl rfl rfl (HX h HC) (by omega) (by omega) (fun E h9 q => by cases q.1) (fun v9 h1 q => ?_)
  obtain ⟨q1, W1⟩ := q
  cases q1
  have L1 := LW_x HL W1
  obtain ⟨C1, ⟨v1, R1, M1, S1⟩, -, -, hS1⟩ := id L1
  iterate 1 (refine J_step rfl rfl ?_)
  refine J_callV rfl rfl rfl rfl rfl M1.1 rfl rfl rfl rfl (HR h1 v1 R1 M1 S1) (by omega) (by omega) (fun E h9 q => by cases q.1) (fun v9 h2 q => ?_)
  obtain ⟨q1, c2, P2⟩ := q
  cases q1
  have L2 := LW_y L1 P2
  exact J_ic rfl (fun _ => kk _ _ _ _ _ _ _ _ L2 HB (by omega) (by omega)) (fun hq => absurd rfl hq)
set_option maxRecDepth 100000 in
set_option maxHeartbeats 2000000 in
theorem w_law7 {mc ms k n m N : Nat} {Q : QT} {xs : Nat → Int32} {A : AS} {h : AHp} {i : Int32} {a6 a7 a8 a9 : Option Value} (HL : LW N xs A h) (HA : AI A m) (hm : m < 512) (in1 : vp_in (i + 1) N) (in2 : vp_in (i + 2) N) (in3 : vp_in (i + 3) N) (hmc : k + 1 ≤ mc) (hms : n + 6 ≤ ms) (kk : LK mc ms Q N xs k n m i) : J mi_L_law 13 mc ms Q k n 644 [some (.ref 999999), some (.ref 0), some (.ref 121), some (.ref 129), some (.ref 130), some (.int i), a6, a7, a8, a9] [] h := by
  obtain ⟨HC, ⟨v, R, HM, HS⟩, ⟨f, hf⟩, ⟨g, hg⟩, hS⟩ := id HL
  obtain ⟨B, c, val, b, HB, hv, HW, HR⟩ := u_slope (p0 := xs (i + 1).toNatClampNeg) HA hm
  iterate 5 (refine J_step rfl rfl ?_)
  refine J_sld rfl rfl rfl hS in1 ?_
  iterate 1 (refine J_step rfl rfl ?_)
  refine J_callS rfl rfl rfl rfl (by decide) rfl rfl rfl rfl (HW h f HC hf) hmc hms (fun E h9 q => by cases q.1) (fun v9 h1 q => ?_)
  obtain ⟨q1, W1⟩ := q
  cases q1
  have L1 := LW_w HL W1
  obtain ⟨C1, ⟨v1, R1, M1, S1⟩, -, -, hS1⟩ := id L1
  iterate 6 (refine J_step rfl rfl ?_)
  refine J_sld rfl rfl rfl hS1 in1 ?_
  refine J_callV rfl rfl rfl rfl rfl M1.1 rfl rfl rfl rfl (HR h1 v1 R1 M1 S1) hmc hms (fun E h9 q => by cases q.1) (fun v9 h2 q => ?_)
  obtain ⟨q1, P2⟩ := q
  cases q1
  obtain ⟨L2, ⟨v2, R2, M2, e2⟩, f2, hf2, hv2⟩ := LW_m L1 P2
  iterate 2 (refine J_step rfl rfl ?_)
  refine J_callV rfl rfl rfl rfl rfl M2.1 rfl rfl rfl rfl (m_thrown (d := 0) M2) hmc hms (fun E h9 q => by cases q.1) (fun v9 h3 q => ?_)
  obtain ⟨q1, rfl⟩ := q
  cases q1
  iterate 1 (refine J_step rfl rfl ?_)
  refine J_ic rfl (fun _ => ?_) (fun hq => absurd e2 hq)
  iterate 1 (refine J_step rfl rfl ?_)
  have fin : J mi_L_law 13 mc ms Q (k + 1 + 0 + 0) (n + 6 + 0 + 0) 697 [some (.ref 999999), some (.ref 0), some (.ref 121), some (.ref 129), some (.ref 130), some (.int i), some (.int c), some (.int b), a8, a9] [] h3 := by
    refine J_step rfl rfl ?_
    exact kk _ _ _ _ _ _ _ _ L2 HB (Nat.le_refl _) (Nat.le_refl _)
  refine J_if (y := 0) rfl (fun _ => fin) (fun hq => ?_)
  have hc : c = 0 := Decidable.of_not_not hq
  iterate 2 (refine J_step rfl rfl ?_)
  refine J_lald rfl hf2 (vp_in_nI (n := 0) (by decide) (by decide)) ?_
  iterate 3 (refine J_step rfl rfl ?_)
  have ez : lg_cmp (f2 (nI 0).toNatClampNeg) b.toInt64 = 0 := by rw [show f2 (nI 0).toNatClampNeg = val.toInt64 from hv2 hc, hv hc]; exact lg_self _
  exact J_if (y := 0) rfl (fun _ => fin) (fun hq => absurd ez hq)
set_option maxRecDepth 100000 in
set_option maxHeartbeats 2000000 in
theorem w_law8 {mc ms k n m N : Nat} {Q : QT} {xs : Nat → Int32} {A : AS} {h : AHp} {i : Int32} {a6 a7 a8 a9 : Option Value} (HL : LW N xs A h) (HA : AI A m) (hm : m < 512) (in1 : vp_in (i + 1) N) (in2 : vp_in (i + 2) N) (in3 : vp_in (i + 3) N) (hmc : k + 1 ≤ mc) (hms : n + 6 ≤ ms) (kk : LK mc ms Q N xs k n m i) : J mi_L_law 13 mc ms Q k n 700 [some (.ref 999999), some (.ref 0), some (.ref 121), some (.ref 129), some (.ref 130), some (.int i), a6, a7, a8, a9] [] h := by
  obtain ⟨HC, ⟨v, R, HM, HS⟩, ⟨f, hf⟩, ⟨g, hg⟩, hS⟩ := id HL
  obtain ⟨B, _, ⟨b, rfl⟩, HB, HX, HR⟩ := us_capacity  HA hm
  iterate 1 (refine J_step rfl rfl ?_)
  refine J_callV rfl rfl rfl rfl rfl HC.1 rfl rfl rfl rfl (HX h HC) (by omega) (by omega) (fun E h9 q => by cases q.1) (fun v9 h1 q => ?_)
  obtain ⟨q1, W1⟩ := q
  cases q1
  have L1 := LW_x HL W1
  obtain ⟨C1, ⟨v1, R1, M1, S1⟩, -, -, hS1⟩ := id L1
  iterate 1 (refine J_step rfl rfl ?_)
  refine J_callV rfl rfl rfl rfl rfl M1.1 rfl rfl rfl rfl (HR h1 v1 R1 M1 S1) (by omega) (by omega) (fun E h9 q => by cases q.1) (fun v9 h2 q => ?_)
  obtain ⟨q1, c2, P2⟩ := q
  cases q1
  have L2 := LW_y L1 P2
  exact J_ic rfl (fun _ => kk _ _ _ _ _ _ _ _ L2 HB (by omega) (by omega)) (fun hq => absurd rfl hq)
set_option maxRecDepth 100000 in
set_option maxHeartbeats 2000000 in
theorem w_law9 {mc ms k n m N : Nat} {Q : QT} {xs : Nat → Int32} {A : AS} {h : AHp} {i : Int32} {a6 a7 a8 a9 : Option Value} (HL : LW N xs A h) (HA : AI A m) (hm : m < 512) (in1 : vp_in (i + 1) N) (in2 : vp_in (i + 2) N) (in3 : vp_in (i + 3) N) (hmc : k + 1 ≤ mc) (hms : n + 6 ≤ ms) (kk : LK mc ms Q N xs k n m i) : J mi_L_law 13 mc ms Q k n 713 [some (.ref 999999), some (.ref 0), some (.ref 121), some (.ref 129), some (.ref 130), some (.int i), a6, a7, a8, a9] [] h := by
  obtain ⟨HC, ⟨v, R, HM, HS⟩, ⟨f, hf⟩, ⟨g, hg⟩, hS⟩ := id HL
  obtain ⟨B, _, ⟨b, rfl⟩, HB, HX, HR⟩ := us_imbalance  HA hm
  iterate 1 (refine J_step rfl rfl ?_)
  refine J_callV rfl rfl rfl rfl rfl HC.1 rfl rfl rfl rfl (HX h HC) (by omega) (by omega) (fun E h9 q => by cases q.1) (fun v9 h1 q => ?_)
  obtain ⟨q1, W1⟩ := q
  cases q1
  have L1 := LW_x HL W1
  obtain ⟨C1, ⟨v1, R1, M1, S1⟩, -, -, hS1⟩ := id L1
  iterate 1 (refine J_step rfl rfl ?_)
  refine J_callV rfl rfl rfl rfl rfl M1.1 rfl rfl rfl rfl (HR h1 v1 R1 M1 S1) (by omega) (by omega) (fun E h9 q => by cases q.1) (fun v9 h2 q => ?_)
  obtain ⟨q1, c2, P2⟩ := q
  cases q1
  have L2 := LW_y L1 P2
  exact J_ic rfl (fun _ => kk _ _ _ _ _ _ _ _ L2 HB (by omega) (by omega)) (fun hq => absurd rfl hq)
set_option maxRecDepth 100000 in
set_option maxHeartbeats 2000000 in
theorem w_law10 {mc ms k n m N : Nat} {Q : QT} {xs : Nat → Int32} {A : AS} {h : AHp} {i : Int32} {a6 a7 a8 a9 : Option Value} (HL : LW N xs A h) (HA : AI A m) (hm : m < 512) (in1 : vp_in (i + 1) N) (in2 : vp_in (i + 2) N) (in3 : vp_in (i + 3) N) (hmc : k + 1 ≤ mc) (hms : n + 6 ≤ ms) (kk : LK mc ms Q N xs k n m i) : J mi_L_law 13 mc ms Q k n 726 [some (.ref 999999), some (.ref 0), some (.ref 121), some (.ref 129), some (.ref 130), some (.int i), a6, a7, a8, a9] [] h := by
  obtain ⟨HC, ⟨v, R, HM, HS⟩, ⟨f, hf⟩, ⟨g, hg⟩, hS⟩ := id HL
  obtain ⟨B, _, ⟨b, rfl⟩, HB, HX, HR⟩ := us_heat  HA hm
  iterate 1 (refine J_step rfl rfl ?_)
  refine J_callV rfl rfl rfl rfl rfl HC.1 rfl rfl rfl rfl (HX h HC) (by omega) (by omega) (fun E h9 q => by cases q.1) (fun v9 h1 q => ?_)
  obtain ⟨q1, W1⟩ := q
  cases q1
  have L1 := LW_x HL W1
  obtain ⟨C1, ⟨v1, R1, M1, S1⟩, -, -, hS1⟩ := id L1
  iterate 1 (refine J_step rfl rfl ?_)
  refine J_callV rfl rfl rfl rfl rfl M1.1 rfl rfl rfl rfl (HR h1 v1 R1 M1 S1) (by omega) (by omega) (fun E h9 q => by cases q.1) (fun v9 h2 q => ?_)
  obtain ⟨q1, c2, P2⟩ := q
  cases q1
  have L2 := LW_y L1 P2
  exact J_ic rfl (fun _ => kk _ _ _ _ _ _ _ _ L2 HB (by omega) (by omega)) (fun hq => absurd rfl hq)
set_option maxRecDepth 100000 in
set_option maxHeartbeats 2000000 in
theorem w_law11 {mc ms k n m N : Nat} {Q : QT} {xs : Nat → Int32} {A : AS} {h : AHp} {i : Int32} {a6 a7 a8 a9 : Option Value} (HL : LW N xs A h) (HA : AI A m) (hm : m < 512) (in1 : vp_in (i + 1) N) (in2 : vp_in (i + 2) N) (in3 : vp_in (i + 3) N) (hmc : k + 1 ≤ mc) (hms : n + 6 ≤ ms) (kk : LK mc ms Q N xs k n m i) : J mi_L_law 13 mc ms Q k n 739 [some (.ref 999999), some (.ref 0), some (.ref 121), some (.ref 129), some (.ref 130), some (.int i), a6, a7, a8, a9] [] h := by
  obtain ⟨HC, ⟨v, R, HM, HS⟩, ⟨f, hf⟩, ⟨g, hg⟩, hS⟩ := id HL
  obtain ⟨B, _, ⟨b, rfl⟩, HB, HX, HR⟩ := us_isBlocked  HA hm
  iterate 1 (refine J_step rfl rfl ?_)
  refine J_callV rfl rfl rfl rfl rfl HC.1 rfl rfl rfl rfl (HX h HC) (by omega) (by omega) (fun E h9 q => by cases q.1) (fun v9 h1 q => ?_)
  obtain ⟨q1, W1⟩ := q
  cases q1
  have L1 := LW_x HL W1
  obtain ⟨C1, ⟨v1, R1, M1, S1⟩, -, -, hS1⟩ := id L1
  iterate 1 (refine J_step rfl rfl ?_)
  refine J_callV rfl rfl rfl rfl rfl M1.1 rfl rfl rfl rfl (HR h1 v1 R1 M1 S1) (by omega) (by omega) (fun E h9 q => by cases q.1) (fun v9 h2 q => ?_)
  obtain ⟨q1, c2, P2⟩ := q
  cases q1
  have L2 := LW_y L1 P2
  exact J_ic rfl (fun _ => kk _ _ _ _ _ _ _ _ L2 HB (by omega) (by omega)) (fun hq => absurd rfl hq)
set_option maxRecDepth 100000 in
set_option maxHeartbeats 2000000 in
theorem w_law12 {mc ms k n m N : Nat} {Q : QT} {xs : Nat → Int32} {A : AS} {h : AHp} {i : Int32} {a6 a7 a8 a9 : Option Value} (HL : LW N xs A h) (HA : AI A m) (hm : m < 512) (in1 : vp_in (i + 1) N) (in2 : vp_in (i + 2) N) (in3 : vp_in (i + 3) N) (hmc : k + 1 ≤ mc) (hms : n + 6 ≤ ms) (kk : LK mc ms Q N xs k n m i) : J mi_L_law 13 mc ms Q k n 752 [some (.ref 999999), some (.ref 0), some (.ref 121), some (.ref 129), some (.ref 130), some (.int i), a6, a7, a8, a9] [] h := by
  obtain ⟨HC, ⟨v, R, HM, HS⟩, ⟨f, hf⟩, ⟨g, hg⟩, hS⟩ := id HL
  obtain ⟨B, _, ⟨b, rfl⟩, HB, HX, HR⟩ := us_blockedMinutes  HA hm
  iterate 1 (refine J_step rfl rfl ?_)
  refine J_callV rfl rfl rfl rfl rfl HC.1 rfl rfl rfl rfl (HX h HC) (by omega) (by omega) (fun E h9 q => by cases q.1) (fun v9 h1 q => ?_)
  obtain ⟨q1, W1⟩ := q
  cases q1
  have L1 := LW_x HL W1
  obtain ⟨C1, ⟨v1, R1, M1, S1⟩, -, -, hS1⟩ := id L1
  iterate 1 (refine J_step rfl rfl ?_)
  refine J_callV rfl rfl rfl rfl rfl M1.1 rfl rfl rfl rfl (HR h1 v1 R1 M1 S1) (by omega) (by omega) (fun E h9 q => by cases q.1) (fun v9 h2 q => ?_)
  obtain ⟨q1, c2, P2⟩ := q
  cases q1
  have L2 := LW_y L1 P2
  exact J_ic rfl (fun _ => kk _ _ _ _ _ _ _ _ L2 HB (by omega) (by omega)) (fun hq => absurd rfl hq)
