set_option maxRecDepth 100000 in
set_option maxHeartbeats 2000000 in
theorem w_law38 {mc ms k n m N : Nat} {Q : QT} {xs : Nat → Int32} {A : AS} {h : AHp} {i : Int32} {a6 a7 a8 a9 : Option Value} (HL : LW N xs A h) (HA : AI A m) (hm : m < 512) (in1 : vp_in (i + 1) N) (in2 : vp_in (i + 2) N) (in3 : vp_in (i + 3) N) (hmc : k + 1 ≤ mc) (hms : n + 6 ≤ ms) (kk : LK mc ms Q N xs k n m i) : J mi_L_law 13 mc ms Q k n 1834 [some (.ref 999999), some (.ref 0), some (.ref 121), some (.ref 129), some (.ref 130), some (.int i), a6, a7, a8, a9] [] h := by
  obtain ⟨HC, ⟨v, R, HM, HS⟩, ⟨f, hf⟩, ⟨g, hg⟩, hS⟩ := id HL
  obtain ⟨c, val, b, HB, hv, HW, HR⟩ := u_meanJourney HA hm
  iterate 2 (refine J_step rfl rfl ?_)
  refine J_callS rfl rfl rfl rfl (by decide) rfl rfl rfl rfl (HW h g HC hg) hmc hms (fun E h9 q => by cases q.1) (fun v9 h1 q => ?_)
  obtain ⟨q1, W1⟩ := q
  cases q1
  have L1 := LW_d HL W1
  obtain ⟨C1, ⟨v1, R1, M1, S1⟩, -, -, hS1⟩ := id L1
  iterate 2 (refine J_step rfl rfl ?_)
  refine J_callV rfl rfl rfl rfl rfl M1.1 rfl rfl rfl rfl (HR h1 v1 R1 M1 S1) hmc hms (fun E h9 q => by cases q.1) (fun v9 h2 q => ?_)
  obtain ⟨q1, P2⟩ := q
  cases q1
  obtain ⟨L2, ⟨v2, R2, M2, e2⟩, f2, hf2, hv2⟩ := LW_n L1 P2
  iterate 2 (refine J_step rfl rfl ?_)
  refine J_callV rfl rfl rfl rfl rfl M2.1 rfl rfl rfl rfl (m_thrown (d := 0) M2) hmc hms (fun E h9 q => by cases q.1) (fun v9 h3 q => ?_)
  obtain ⟨q1, rfl⟩ := q
  cases q1
  iterate 1 (refine J_step rfl rfl ?_)
  refine J_ic rfl (fun _ => ?_) (fun hq => absurd e2 hq)
  iterate 1 (refine J_step rfl rfl ?_)
  have fin : J mi_L_law 13 mc ms Q (k + 1 + 0 + 0) (n + 6 + 0 + 0) 1896 [some (.ref 999999), some (.ref 0), some (.ref 121), some (.ref 129), some (.ref 130), some (.int i), some (.int c), some (.double b), none, a9] [] h3 := by
    refine J_step rfl rfl ?_
    exact kk _ _ _ _ _ _ _ _ L2 HB (Nat.le_refl _) (Nat.le_refl _)
  refine J_if (y := 0) rfl (fun _ => fin) (fun hq => ?_)
  have hc : c = 0 := Decidable.of_not_not hq
  iterate 2 (refine J_step rfl rfl ?_)
  have eb : f2 (nI 0).toNatClampNeg = b := (hv2 hc).trans (hv hc).symm
  refine J_dald rfl hf2 (vp_in_nI (n := 0) (by decide) (by decide)) ?_
  iterate 2 (refine J_step rfl rfl ?_)
  refine J_if (y := 0) rfl (fun _ => fin) (fun hz => ?_)
  iterate 2 (refine J_step rfl rfl ?_)
  refine J_dald rfl hf2 (vp_in_nI (n := 0) (by decide) (by decide)) ?_
  iterate 2 (refine J_step rfl rfl ?_)
  refine J_dald rfl hf2 (vp_in_nI (n := 0) (by decide) (by decide)) ?_
  iterate 1 (refine J_step rfl rfl ?_)
  refine J_if (y := 0) rfl (fun hy => absurd (show Op.cmpValue (FP.dcmp (f2 (nI 0).toNatClampNeg) b) .l = 0 by rw [← eb]; exact hy) hz) (fun hy => ?_)
  iterate 3 (refine J_step rfl rfl ?_)
  exact J_if (y := 0) rfl (fun _ => fin) (fun hx => absurd (show ¬ Op.cmpValue (FP.dcmp b b) .l = 0 by rw [← eb]; exact hy) hx)
set_option maxRecDepth 100000 in
set_option maxHeartbeats 2000000 in
theorem w_law39 {mc ms k n m N : Nat} {Q : QT} {xs : Nat → Int32} {A : AS} {h : AHp} {i : Int32} {a6 a7 a8 a9 : Option Value} (HL : LW N xs A h) (HA : AI A m) (hm : m < 512) (in1 : vp_in (i + 1) N) (in2 : vp_in (i + 2) N) (in3 : vp_in (i + 3) N) (hmc : k + 1 ≤ mc) (hms : n + 6 ≤ ms) (kk : LK mc ms Q N xs k n m i) : J mi_L_law 13 mc ms Q k n 1899 [some (.ref 999999), some (.ref 0), some (.ref 121), some (.ref 129), some (.ref 130), some (.int i), a6, a7, a8, a9] [] h := by
  obtain ⟨HC, ⟨v, R, HM, HS⟩, ⟨f, hf⟩, ⟨g, hg⟩, hS⟩ := id HL
  obtain ⟨B, _, ⟨b, rfl, hb64⟩, HB, HX, HR⟩ := us_occupancy  HA hm
  iterate 1 (refine J_step rfl rfl ?_)
  refine J_callV rfl rfl rfl rfl rfl HC.1 rfl rfl rfl rfl (HX h HC) (by omega) (by omega) (fun E h9 q => by cases q.1) (fun v9 h1 q => ?_)
  obtain ⟨q1, W1⟩ := q
  cases q1
  have L1 := LW_x HL W1
  obtain ⟨C1, ⟨v1, R1, M1, S1⟩, -, -, hS1⟩ := id L1
  refine J_f2d rfl hb64 ?_
  iterate 2 (refine J_step rfl rfl ?_)
  refine J_callV rfl rfl rfl rfl rfl M1.1 rfl rfl rfl rfl (HR h1 v1 R1 M1 S1) (by omega) (by omega) (fun E h9 q => by cases q.1) (fun v9 h2 q => ?_)
  obtain ⟨q1, c2, P2⟩ := q
  cases q1
  have L2 := LW_y L1 P2
  refine J_f2d rfl hb64 ?_
  iterate 4 (refine J_step rfl rfl ?_)
  have fin : J mi_L_law 13 mc ms Q (k + 0 + 0) (n + 0 + 0) 1939 [some (.ref 999999), some (.ref 0), some (.ref 121), some (.ref 129), some (.ref 130), some (.int i), some (.double (FP.f2d b)), none, some (.double (FP.f2d b)), none] [] h2 := by
    refine J_step rfl rfl ?_
    exact kk _ _ _ _ _ _ _ _ L2 HB (by omega) (by omega)
  refine J_if (y := 0) rfl (fun _ => fin) (fun hz => ?_)
  iterate 3 (refine J_step rfl rfl ?_)
  refine J_if (y := 0) rfl (fun hy => absurd hy hz) (fun hy => ?_)
  iterate 3 (refine J_step rfl rfl ?_)
  exact J_if (y := 0) rfl (fun _ => fin) (fun hx => absurd hz hx)
set_option maxRecDepth 100000 in
set_option maxHeartbeats 2000000 in
theorem w_law40 {mc ms k n m N : Nat} {Q : QT} {xs : Nat → Int32} {A : AS} {h : AHp} {i : Int32} {a6 a7 a8 a9 : Option Value} (HL : LW N xs A h) (HA : AI A m) (hm : m < 512) (in1 : vp_in (i + 1) N) (in2 : vp_in (i + 2) N) (in3 : vp_in (i + 3) N) (hmc : k + 1 ≤ mc) (hms : n + 6 ≤ ms) (kk : LK mc ms Q N xs k n m i) : J mi_L_law 13 mc ms Q k n 1942 [some (.ref 999999), some (.ref 0), some (.ref 121), some (.ref 129), some (.ref 130), some (.int i), a6, a7, a8, a9] [] h := by
  obtain ⟨HC, ⟨v, R, HM, HS⟩, ⟨f, hf⟩, ⟨g, hg⟩, hS⟩ := id HL
  obtain ⟨B, _, ⟨b, rfl⟩, HB, HX, HR⟩ := us_isConsistent  HA hm
  iterate 1 (refine J_step rfl rfl ?_)
  refine J_callV rfl rfl rfl rfl rfl HC.1 rfl rfl rfl rfl (HX h HC) (by omega) (by omega) (fun E h9 q => by cases q.1) (fun v9 h1 q => ?_)
  obtain ⟨q1, W1⟩ := q
  cases q1
  have L1 := LW_x HL W1
  obtain ⟨C1, ⟨v1, R1, M1, S1⟩, -, -, hS1⟩ := id L1
  iterate 1 (refine J_step rfl rfl ?_)
  refine J_callV rfl rfl rfl rfl rfl M1.1 rfl rfl rfl rfl (HR h1 v1 R1 M1 S1) (by omega) (by omega) (fun E h9 q => by cases q.1) (fun v9 h2 q => ?_)
  obtain ⟨q1, c2, P2⟩ := q
  cases q1
  have L2 := LW_y L1 P2
  exact J_ic rfl (fun _ => kk _ _ _ _ _ _ _ _ L2 HB (by omega) (by omega)) (fun hq => absurd rfl hq)
set_option maxRecDepth 100000 in
set_option maxHeartbeats 2000000 in
theorem w_law41 {mc ms k n m N : Nat} {Q : QT} {xs : Nat → Int32} {A : AS} {h : AHp} {i : Int32} {a6 a7 a8 a9 : Option Value} (HL : LW N xs A h) (HA : AI A m) (hm : m < 512) (in1 : vp_in (i + 1) N) (in2 : vp_in (i + 2) N) (in3 : vp_in (i + 3) N) (hmc : k + 1 ≤ mc) (hms : n + 6 ≤ ms) (kk : LK mc ms Q N xs k n m i) : J mi_L_law 13 mc ms Q k n 1955 [some (.ref 999999), some (.ref 0), some (.ref 121), some (.ref 129), some (.ref 130), some (.int i), a6, a7, a8, a9] [] h := by
  obtain ⟨HC, ⟨v, R, HM, HS⟩, ⟨f, hf⟩, ⟨g, hg⟩, hS⟩ := id HL
  obtain ⟨B, c, val, b, HB, hv, HW, HR⟩ := u_writeCabin (p0 := xs (i + 1).toNatClampNeg) HA hm
  iterate 5 (refine J_step rfl rfl ?_)
  refine J_sld rfl rfl rfl hS in1 ?_
  iterate 1 (refine J_step rfl rfl ?_)
  refine J_callS rfl rfl rfl rfl (by decide) rfl rfl rfl rfl (HW h f HC hf) hmc hms (fun E h9 q => by cases q.1) (fun v9 h1 q => ?_)
  obtain ⟨q1, W1⟩ := q
  cases q1
  have L1 := LW_w HL W1
  obtain ⟨C1, ⟨v1, R1, M1, S1⟩, -, -, hS1⟩ := id L1
  iterate 6 (refine J_step rfl rfl ?_)
  refine J_sld rfl rfl rfl hS1 in1 ?_
  refine J_callV rfl rfl rfl rfl rfl M1.1 rfl rfl rfl rfl (HR h1 v1 R1 M1 S1) hmc hms (fun E h9 q => by cases q.1) (fun v9 h2 q => ?_)
  obtain ⟨q1, P2⟩ := q
  cases q1
  obtain ⟨L2, ⟨v2, R2, M2, e2⟩, f2, hf2, hv2⟩ := LW_m L1 P2
  iterate 2 (refine J_step rfl rfl ?_)
  refine J_callV rfl rfl rfl rfl rfl M2.1 rfl rfl rfl rfl (m_thrown (d := 0) M2) hmc hms (fun E h9 q => by cases q.1) (fun v9 h3 q => ?_)
  obtain ⟨q1, rfl⟩ := q
  cases q1
  iterate 1 (refine J_step rfl rfl ?_)
  refine J_ic rfl (fun _ => ?_) (fun hq => absurd e2 hq)
  iterate 1 (refine J_step rfl rfl ?_)
  have fin : J mi_L_law 13 mc ms Q (k + 1 + 0 + 0) (n + 6 + 0 + 0) 2008 [some (.ref 999999), some (.ref 0), some (.ref 121), some (.ref 129), some (.ref 130), some (.int i), some (.int c), some (.int b), a8, a9] [] h3 := by
    refine J_step rfl rfl ?_
    exact kk _ _ _ _ _ _ _ _ L2 HB (Nat.le_refl _) (Nat.le_refl _)
  refine J_if (y := 0) rfl (fun _ => fin) (fun hq => ?_)
  have hc : c = 0 := Decidable.of_not_not hq
  iterate 2 (refine J_step rfl rfl ?_)
  refine J_lald rfl hf2 (vp_in_nI (n := 0) (by decide) (by decide)) ?_
  iterate 3 (refine J_step rfl rfl ?_)
  have ez : lg_cmp (f2 (nI 0).toNatClampNeg) b.toInt64 = 0 := by rw [show f2 (nI 0).toNatClampNeg = val.toInt64 from hv2 hc, hv hc]; exact lg_self _
  exact J_if (y := 0) rfl (fun _ => fin) (fun hq => absurd ez hq)
set_option maxRecDepth 100000 in
set_option maxHeartbeats 2000000 in
theorem w_law42 {mc ms k n m N : Nat} {Q : QT} {xs : Nat → Int32} {A : AS} {h : AHp} {i : Int32} {a6 a7 a8 a9 : Option Value} (HL : LW N xs A h) (HA : AI A m) (hm : m < 512) (in1 : vp_in (i + 1) N) (in2 : vp_in (i + 2) N) (in3 : vp_in (i + 3) N) (hmc : k + 1 ≤ mc) (hms : n + 6 ≤ ms) (kk : LK mc ms Q N xs k n m i) : J mi_L_law 13 mc ms Q k n 2011 [some (.ref 999999), some (.ref 0), some (.ref 121), some (.ref 129), some (.ref 130), some (.int i), a6, a7, a8, a9] [] h := by
  obtain ⟨HC, ⟨v, R, HM, HS⟩, ⟨f, hf⟩, ⟨g, hg⟩, hS⟩ := id HL
  obtain ⟨B, _, ⟨b, rfl⟩, HB, HX, HR⟩ := us_writeStations  HA hm
  iterate 1 (refine J_step rfl rfl ?_)
  refine J_callV rfl rfl rfl rfl rfl HC.1 rfl rfl rfl rfl (HX h HC) (by omega) (by omega) (fun E h9 q => by cases q.1) (fun v9 h1 q => ?_)
  obtain ⟨q1, W1⟩ := q
  cases q1
  have L1 := LW_x HL W1
  obtain ⟨C1, ⟨v1, R1, M1, S1⟩, -, -, hS1⟩ := id L1
  iterate 1 (refine J_step rfl rfl ?_)
  refine J_callV rfl rfl rfl rfl rfl M1.1 rfl rfl rfl rfl (HR h1 v1 R1 M1 S1) (by omega) (by omega) (fun E h9 q => by cases q.1) (fun v9 h2 q => ?_)
  obtain ⟨q1, c2, P2⟩ := q
  cases q1
  have L2 := LW_y L1 P2
  exact J_ic rfl (fun _ => kk _ _ _ _ _ _ _ _ L2 HB (by omega) (by omega)) (fun hq => absurd rfl hq)
set_option maxRecDepth 100000 in
set_option maxHeartbeats 2000000 in
theorem w_law43 {mc ms k n m N : Nat} {Q : QT} {xs : Nat → Int32} {A : AS} {h : AHp} {i : Int32} {a6 a7 a8 a9 : Option Value} (HL : LW N xs A h) (HA : AI A m) (hm : m < 512) (in1 : vp_in (i + 1) N) (in2 : vp_in (i + 2) N) (in3 : vp_in (i + 3) N) (hmc : k + 1 ≤ mc) (hms : n + 6 ≤ ms) (kk : LK mc ms Q N xs k n m i) : J mi_L_law 13 mc ms Q k n 2024 [some (.ref 999999), some (.ref 0), some (.ref 121), some (.ref 129), some (.ref 130), some (.int i), a6, a7, a8, a9] [] h := by
  obtain ⟨HC, ⟨v, R, HM, HS⟩, ⟨f, hf⟩, ⟨g, hg⟩, hS⟩ := id HL
  obtain ⟨B, c, val, b, HB, hv, HW, HR⟩ := u_charAt (p0 := xs (i + 1).toNatClampNeg) HA hm
  iterate 5 (refine J_step rfl rfl ?_)
  refine J_sld rfl rfl rfl hS in1 ?_
  iterate 1 (refine J_step rfl rfl ?_)
  refine J_callS rfl rfl rfl rfl (by decide) rfl rfl rfl rfl (HW h f HC hf) hmc hms (fun E h9 q => by cases q.1) (fun v9 h1 q => ?_)
  obtain ⟨q1, W1⟩ := q
  cases q1
  have L1 := LW_w HL W1
  obtain ⟨C1, ⟨v1, R1, M1, S1⟩, -, -, hS1⟩ := id L1
  iterate 6 (refine J_step rfl rfl ?_)
  refine J_sld rfl rfl rfl hS1 in1 ?_
  refine J_callV rfl rfl rfl rfl rfl M1.1 rfl rfl rfl rfl (HR h1 v1 R1 M1 S1) hmc hms (fun E h9 q => by cases q.1) (fun v9 h2 q => ?_)
  obtain ⟨q1, P2⟩ := q
  cases q1
  obtain ⟨L2, ⟨v2, R2, M2, e2⟩, f2, hf2, hv2⟩ := LW_m L1 P2
  iterate 2 (refine J_step rfl rfl ?_)
  refine J_callV rfl rfl rfl rfl rfl M2.1 rfl rfl rfl rfl (m_thrown (d := 0) M2) hmc hms (fun E h9 q => by cases q.1) (fun v9 h3 q => ?_)
  obtain ⟨q1, rfl⟩ := q
  cases q1
  iterate 1 (refine J_step rfl rfl ?_)
  refine J_ic rfl (fun _ => ?_) (fun hq => absurd e2 hq)
  iterate 1 (refine J_step rfl rfl ?_)
  have fin : J mi_L_law 13 mc ms Q (k + 1 + 0 + 0) (n + 6 + 0 + 0) 2077 [some (.ref 999999), some (.ref 0), some (.ref 121), some (.ref 129), some (.ref 130), some (.int i), some (.int c), some (.int b), a8, a9] [] h3 := by
    refine J_step rfl rfl ?_
    exact kk _ _ _ _ _ _ _ _ L2 HB (Nat.le_refl _) (Nat.le_refl _)
  refine J_if (y := 0) rfl (fun _ => fin) (fun hq => ?_)
  have hc : c = 0 := Decidable.of_not_not hq
  iterate 2 (refine J_step rfl rfl ?_)
  refine J_lald rfl hf2 (vp_in_nI (n := 0) (by decide) (by decide)) ?_
  iterate 3 (refine J_step rfl rfl ?_)
  have ez : lg_cmp (f2 (nI 0).toNatClampNeg) b.toInt64 = 0 := by rw [show f2 (nI 0).toNatClampNeg = val.toInt64 from hv2 hc, hv hc]; exact lg_self _
  exact J_if (y := 0) rfl (fun _ => fin) (fun hq => absurd ez hq)
set_option maxRecDepth 100000 in
set_option maxHeartbeats 2000000 in
theorem w_law44 {mc ms k n m N : Nat} {Q : QT} {xs : Nat → Int32} {A : AS} {h : AHp} {i : Int32} {a6 a7 a8 a9 : Option Value} (HL : LW N xs A h) (HA : AI A m) (hm : m < 512) (in1 : vp_in (i + 1) N) (in2 : vp_in (i + 2) N) (in3 : vp_in (i + 3) N) (hmc : k + 1 ≤ mc) (hms : n + 6 ≤ ms) (kk : LK mc ms Q N xs k n m i) : J mi_L_law 13 mc ms Q k n 2080 [some (.ref 999999), some (.ref 0), some (.ref 121), some (.ref 129), some (.ref 130), some (.int i), a6, a7, a8, a9] [] h := by
  obtain ⟨HC, ⟨v, R, HM, HS⟩, ⟨f, hf⟩, ⟨g, hg⟩, hS⟩ := id HL
  obtain ⟨B, c, val, b, HB, hv, HW, HR⟩ := u_type (p0 := ((xs (i + 1).toNatClampNeg).toUInt32 % 65536).toInt32) HA hm (cOk_i2c _)
  iterate 5 (refine J_step rfl rfl ?_)
  refine J_sld rfl rfl rfl hS in1 ?_
  iterate 2 (refine J_step rfl rfl ?_)
  refine J_callS rfl rfl rfl rfl (by decide) rfl rfl rfl rfl (HW h f HC hf) hmc hms (fun E h9 q => by cases q.1) (fun v9 h1 q => ?_)
  obtain ⟨q1, W1⟩ := q
  cases q1
  have L1 := LW_w HL W1
  obtain ⟨C1, ⟨v1, R1, M1, S1⟩, -, -, hS1⟩ := id L1
  iterate 6 (refine J_step rfl rfl ?_)
  refine J_sld rfl rfl rfl hS1 in1 ?_
  iterate 1 (refine J_step rfl rfl ?_)
  refine J_callV rfl rfl rfl rfl rfl M1.1 rfl rfl rfl rfl (HR h1 v1 R1 M1 S1) hmc hms (fun E h9 q => by cases q.1) (fun v9 h2 q => ?_)
  obtain ⟨q1, P2⟩ := q
  cases q1
  obtain ⟨L2, ⟨v2, R2, M2, e2⟩, f2, hf2, hv2⟩ := LW_m L1 P2
  iterate 2 (refine J_step rfl rfl ?_)
  refine J_callV rfl rfl rfl rfl rfl M2.1 rfl rfl rfl rfl (m_thrown (d := 0) M2) hmc hms (fun E h9 q => by cases q.1) (fun v9 h3 q => ?_)
  obtain ⟨q1, rfl⟩ := q
  cases q1
  iterate 1 (refine J_step rfl rfl ?_)
  refine J_ic rfl (fun _ => ?_) (fun hq => absurd e2 hq)
  iterate 1 (refine J_step rfl rfl ?_)
  have fin : J mi_L_law 13 mc ms Q (k + 1 + 0 + 0) (n + 6 + 0 + 0) 2135 [some (.ref 999999), some (.ref 0), some (.ref 121), some (.ref 129), some (.ref 130), some (.int i), some (.int c), some (.int b), a8, a9] [] h3 := by
    refine J_step rfl rfl ?_
    exact kk _ _ _ _ _ _ _ _ L2 HB (Nat.le_refl _) (Nat.le_refl _)
  refine J_if (y := 0) rfl (fun _ => fin) (fun hq => ?_)
  have hc : c = 0 := Decidable.of_not_not hq
  iterate 2 (refine J_step rfl rfl ?_)
  refine J_lald rfl hf2 (vp_in_nI (n := 0) (by decide) (by decide)) ?_
  iterate 3 (refine J_step rfl rfl ?_)
  have ez : lg_cmp (f2 (nI 0).toNatClampNeg) b.toInt64 = 0 := by rw [show f2 (nI 0).toNatClampNeg = val.toInt64 from hv2 hc, hv hc]; exact lg_self _
  exact J_if (y := 0) rfl (fun _ => fin) (fun hq => absurd ez hq)
set_option maxRecDepth 100000 in
set_option maxHeartbeats 2000000 in
theorem w_law45 {mc ms k n m N : Nat} {Q : QT} {xs : Nat → Int32} {A : AS} {h : AHp} {i : Int32} {a6 a7 a8 a9 : Option Value} (HL : LW N xs A h) (HA : AI A m) (hm : m < 512) (in1 : vp_in (i + 1) N) (in2 : vp_in (i + 2) N) (in3 : vp_in (i + 3) N) (hmc : k + 1 ≤ mc) (hms : n + 6 ≤ ms) (kk : LK mc ms Q N xs k n m i) : J mi_L_law 13 mc ms Q k n 2138 [some (.ref 999999), some (.ref 0), some (.ref 121), some (.ref 129), some (.ref 130), some (.int i), a6, a7, a8, a9] [] h := by
  obtain ⟨HC, ⟨v, R, HM, HS⟩, ⟨f, hf⟩, ⟨g, hg⟩, hS⟩ := id HL
  obtain ⟨B, c, val, b, HB, hv, HW, HR⟩ := u_run  HA hm HS.2.2.2.2.1.2.1
  iterate 2 (refine J_step rfl rfl ?_)
  refine J_callS rfl rfl rfl rfl (by decide) rfl rfl rfl rfl (HW h f HC hf) hmc hms (fun E h9 q => by cases q.1) (fun v9 h1 q => ?_)
  obtain ⟨q1, W1⟩ := q
  cases q1
  have L1 := LW_w HL W1
  obtain ⟨C1, ⟨v1, R1, M1, S1⟩, -, -, hS1⟩ := id L1
  iterate 2 (refine J_step rfl rfl ?_)
  refine J_callV rfl rfl rfl rfl rfl M1.1 rfl rfl rfl rfl (HR h1 v1 R1 M1 S1) hmc hms (fun E h9 q => by cases q.1) (fun v9 h2 q => ?_)
  obtain ⟨q1, P2⟩ := q
  cases q1
  obtain ⟨L2, ⟨v2, R2, M2, e2⟩, f2, hf2, hv2⟩ := LW_m L1 P2
  iterate 2 (refine J_step rfl rfl ?_)
  refine J_callV rfl rfl rfl rfl rfl M2.1 rfl rfl rfl rfl (m_thrown (d := 0) M2) hmc hms (fun E h9 q => by cases q.1) (fun v9 h3 q => ?_)
  obtain ⟨q1, rfl⟩ := q
  cases q1
  iterate 1 (refine J_step rfl rfl ?_)
  refine J_ic rfl (fun _ => ?_) (fun hq => absurd e2 hq)
  iterate 1 (refine J_step rfl rfl ?_)
  have fin : J mi_L_law 13 mc ms Q (k + 1 + 0 + 0) (n + 6 + 0 + 0) 2179 [some (.ref 999999), some (.ref 0), some (.ref 121), some (.ref 129), some (.ref 130), some (.int i), some (.int c), some (.int b), a8, a9] [] h3 := by
    refine J_step rfl rfl ?_
    exact kk _ _ _ _ _ _ _ _ L2 HB (Nat.le_refl _) (Nat.le_refl _)
  refine J_if (y := 0) rfl (fun _ => fin) (fun hq => ?_)
  have hc : c = 0 := Decidable.of_not_not hq
  iterate 2 (refine J_step rfl rfl ?_)
  refine J_lald rfl hf2 (vp_in_nI (n := 0) (by decide) (by decide)) ?_
  iterate 3 (refine J_step rfl rfl ?_)
  have ez : lg_cmp (f2 (nI 0).toNatClampNeg) b.toInt64 = 0 := by rw [show f2 (nI 0).toNatClampNeg = val.toInt64 from hv2 hc, hv hc]; exact lg_self _
  exact J_if (y := 0) rfl (fun _ => fin) (fun hq => absurd ez hq)
set_option maxRecDepth 100000 in
set_option maxHeartbeats 2000000 in
theorem w_law46 {mc ms k n m N : Nat} {Q : QT} {xs : Nat → Int32} {A : AS} {h : AHp} {i : Int32} {a6 a7 a8 a9 : Option Value} (HL : LW N xs A h) (HA : AI A m) (hm : m < 512) (in1 : vp_in (i + 1) N) (in2 : vp_in (i + 2) N) (in3 : vp_in (i + 3) N) (hmc : k + 1 ≤ mc) (hms : n + 6 ≤ ms) (kk : LK mc ms Q N xs k n m i) : J mi_L_law 13 mc ms Q k n 2182 [some (.ref 999999), some (.ref 0), some (.ref 121), some (.ref 129), some (.ref 130), some (.int i), a6, a7, a8, a9] [] h := by
  obtain ⟨HC, ⟨v, R, HM, HS⟩, ⟨f, hf⟩, ⟨g, hg⟩, hS⟩ := id HL
  obtain ⟨B, c, val, b, HB, hv, HW, HR⟩ := u_errorPosition  HA hm
  iterate 2 (refine J_step rfl rfl ?_)
  refine J_callS rfl rfl rfl rfl (by decide) rfl rfl rfl rfl (HW h f HC hf) hmc hms (fun E h9 q => by cases q.1) (fun v9 h1 q => ?_)
  obtain ⟨q1, W1⟩ := q
  cases q1
  have L1 := LW_w HL W1
  obtain ⟨C1, ⟨v1, R1, M1, S1⟩, -, -, hS1⟩ := id L1
  iterate 2 (refine J_step rfl rfl ?_)
  refine J_callV rfl rfl rfl rfl rfl M1.1 rfl rfl rfl rfl (HR h1 v1 R1 M1 S1) hmc hms (fun E h9 q => by cases q.1) (fun v9 h2 q => ?_)
  obtain ⟨q1, P2⟩ := q
  cases q1
  obtain ⟨L2, ⟨v2, R2, M2, e2⟩, f2, hf2, hv2⟩ := LW_m L1 P2
  iterate 2 (refine J_step rfl rfl ?_)
  refine J_callV rfl rfl rfl rfl rfl M2.1 rfl rfl rfl rfl (m_thrown (d := 0) M2) hmc hms (fun E h9 q => by cases q.1) (fun v9 h3 q => ?_)
  obtain ⟨q1, rfl⟩ := q
  cases q1
  iterate 1 (refine J_step rfl rfl ?_)
  refine J_ic rfl (fun _ => ?_) (fun hq => absurd e2 hq)
  iterate 1 (refine J_step rfl rfl ?_)
  have fin : J mi_L_law 13 mc ms Q (k + 1 + 0 + 0) (n + 6 + 0 + 0) 2223 [some (.ref 999999), some (.ref 0), some (.ref 121), some (.ref 129), some (.ref 130), some (.int i), some (.int c), some (.int b), a8, a9] [] h3 := by
    refine J_step rfl rfl ?_
    exact kk _ _ _ _ _ _ _ _ L2 HB (Nat.le_refl _) (Nat.le_refl _)
  refine J_if (y := 0) rfl (fun _ => fin) (fun hq => ?_)
  have hc : c = 0 := Decidable.of_not_not hq
  iterate 2 (refine J_step rfl rfl ?_)
  refine J_lald rfl hf2 (vp_in_nI (n := 0) (by decide) (by decide)) ?_
  iterate 3 (refine J_step rfl rfl ?_)
  have ez : lg_cmp (f2 (nI 0).toNatClampNeg) b.toInt64 = 0 := by rw [show f2 (nI 0).toNatClampNeg = val.toInt64 from hv2 hc, hv hc]; exact lg_self _
  exact J_if (y := 0) rfl (fun _ => fin) (fun hq => absurd ez hq)
set_option maxRecDepth 100000 in
set_option maxHeartbeats 2000000 in
theorem w_law47 {mc ms k n m N : Nat} {Q : QT} {xs : Nat → Int32} {A : AS} {h : AHp} {i : Int32} {a6 a7 a8 a9 : Option Value} (HL : LW N xs A h) (HA : AI A m) (hm : m < 512) (in1 : vp_in (i + 1) N) (in2 : vp_in (i + 2) N) (in3 : vp_in (i + 3) N) (hmc : k + 1 ≤ mc) (hms : n + 6 ≤ ms) (kk : LK mc ms Q N xs k n m i) : J mi_L_law 13 mc ms Q k n 2226 [some (.ref 999999), some (.ref 0), some (.ref 121), some (.ref 129), some (.ref 130), some (.int i), a6, a7, a8, a9] [] h := by
  obtain ⟨HC, ⟨v, R, HM, HS⟩, ⟨f, hf⟩, ⟨g, hg⟩, hS⟩ := id HL
  obtain ⟨B, c, val, b, HB, hv, HW, HR⟩ := u_failedCommand  HA hm
  iterate 2 (refine J_step rfl rfl ?_)
  refine J_callS rfl rfl rfl rfl (by decide) rfl rfl rfl rfl (HW h f HC hf) hmc hms (fun E h9 q => by cases q.1) (fun v9 h1 q => ?_)
  obtain ⟨q1, W1⟩ := q
  cases q1
  have L1 := LW_w HL W1
  obtain ⟨C1, ⟨v1, R1, M1, S1⟩, -, -, hS1⟩ := id L1
  iterate 2 (refine J_step rfl rfl ?_)
  refine J_callV rfl rfl rfl rfl rfl M1.1 rfl rfl rfl rfl (HR h1 v1 R1 M1 S1) hmc hms (fun E h9 q => by cases q.1) (fun v9 h2 q => ?_)
  obtain ⟨q1, P2⟩ := q
  cases q1
  obtain ⟨L2, ⟨v2, R2, M2, e2⟩, f2, hf2, hv2⟩ := LW_m L1 P2
  iterate 2 (refine J_step rfl rfl ?_)
  refine J_callV rfl rfl rfl rfl rfl M2.1 rfl rfl rfl rfl (m_thrown (d := 0) M2) hmc hms (fun E h9 q => by cases q.1) (fun v9 h3 q => ?_)
  obtain ⟨q1, rfl⟩ := q
  cases q1
  iterate 1 (refine J_step rfl rfl ?_)
  refine J_ic rfl (fun _ => ?_) (fun hq => absurd e2 hq)
  iterate 1 (refine J_step rfl rfl ?_)
  have fin : J mi_L_law 13 mc ms Q (k + 1 + 0 + 0) (n + 6 + 0 + 0) 2267 [some (.ref 999999), some (.ref 0), some (.ref 121), some (.ref 129), some (.ref 130), some (.int i), some (.int c), some (.int b), a8, a9] [] h3 := by
    refine J_step rfl rfl ?_
    exact kk _ _ _ _ _ _ _ _ L2 HB (Nat.le_refl _) (Nat.le_refl _)
  refine J_if (y := 0) rfl (fun _ => fin) (fun hq => ?_)
  have hc : c = 0 := Decidable.of_not_not hq
  iterate 2 (refine J_step rfl rfl ?_)
  refine J_lald rfl hf2 (vp_in_nI (n := 0) (by decide) (by decide)) ?_
  iterate 3 (refine J_step rfl rfl ?_)
  have ez : lg_cmp (f2 (nI 0).toNatClampNeg) b.toInt64 = 0 := by rw [show f2 (nI 0).toNatClampNeg = val.toInt64 from hv2 hc, hv hc]; exact lg_self _
  exact J_if (y := 0) rfl (fun _ => fin) (fun hq => absurd ez hq)
set_option maxRecDepth 100000 in
set_option maxHeartbeats 2000000 in
theorem w_law48 {mc ms k n m N : Nat} {Q : QT} {xs : Nat → Int32} {A : AS} {h : AHp} {i : Int32} {a6 a7 a8 a9 : Option Value} (HL : LW N xs A h) (HA : AI A m) (hm : m < 512) (in1 : vp_in (i + 1) N) (in2 : vp_in (i + 2) N) (in3 : vp_in (i + 3) N) (hmc : k + 1 ≤ mc) (hms : n + 6 ≤ ms) (kk : LK mc ms Q N xs k n m i) : J mi_L_law 13 mc ms Q k n 2270 [some (.ref 999999), some (.ref 0), some (.ref 121), some (.ref 129), some (.ref 130), some (.int i), a6, a7, a8, a9] [] h := by
  obtain ⟨HC, ⟨v, R, HM, HS⟩, ⟨f, hf⟩, ⟨g, hg⟩, hS⟩ := id HL
  obtain ⟨B, c, val, b, HB, hv, HW, HR⟩ := u_undo  HA hm
  iterate 2 (refine J_step rfl rfl ?_)
  refine J_callS rfl rfl rfl rfl (by decide) rfl rfl rfl rfl (HW h f HC hf) hmc hms (fun E h9 q => by cases q.1) (fun v9 h1 q => ?_)
  obtain ⟨q1, W1⟩ := q
  cases q1
  have L1 := LW_w HL W1
  obtain ⟨C1, ⟨v1, R1, M1, S1⟩, -, -, hS1⟩ := id L1
  iterate 2 (refine J_step rfl rfl ?_)
  refine J_callV rfl rfl rfl rfl rfl M1.1 rfl rfl rfl rfl (HR h1 v1 R1 M1 S1) hmc hms (fun E h9 q => by cases q.1) (fun v9 h2 q => ?_)
  obtain ⟨q1, P2⟩ := q
  cases q1
  obtain ⟨L2, ⟨v2, R2, M2, e2⟩, f2, hf2, hv2⟩ := LW_m L1 P2
  iterate 2 (refine J_step rfl rfl ?_)
  refine J_callV rfl rfl rfl rfl rfl M2.1 rfl rfl rfl rfl (m_thrown (d := 0) M2) hmc hms (fun E h9 q => by cases q.1) (fun v9 h3 q => ?_)
  obtain ⟨q1, rfl⟩ := q
  cases q1
  iterate 1 (refine J_step rfl rfl ?_)
  refine J_ic rfl (fun _ => ?_) (fun hq => absurd e2 hq)
  iterate 1 (refine J_step rfl rfl ?_)
  have fin : J mi_L_law 13 mc ms Q (k + 1 + 0 + 0) (n + 6 + 0 + 0) 2311 [some (.ref 999999), some (.ref 0), some (.ref 121), some (.ref 129), some (.ref 130), some (.int i), some (.int c), some (.int b), a8, a9] [] h3 := by
    refine J_step rfl rfl ?_
    exact kk _ _ _ _ _ _ _ _ L2 HB (Nat.le_refl _) (Nat.le_refl _)
  refine J_if (y := 0) rfl (fun _ => fin) (fun hq => ?_)
  have hc : c = 0 := Decidable.of_not_not hq
  iterate 2 (refine J_step rfl rfl ?_)
  refine J_lald rfl hf2 (vp_in_nI (n := 0) (by decide) (by decide)) ?_
  iterate 3 (refine J_step rfl rfl ?_)
  have ez : lg_cmp (f2 (nI 0).toNatClampNeg) b.toInt64 = 0 := by rw [show f2 (nI 0).toNatClampNeg = val.toInt64 from hv2 hc, hv hc]; exact lg_self _
  exact J_if (y := 0) rfl (fun _ => fin) (fun hq => absurd ez hq)
set_option maxRecDepth 100000 in
set_option maxHeartbeats 2000000 in
theorem w_law49 {mc ms k n m N : Nat} {Q : QT} {xs : Nat → Int32} {A : AS} {h : AHp} {i : Int32} {a6 a7 a8 a9 : Option Value} (HL : LW N xs A h) (HA : AI A m) (hm : m < 512) (in1 : vp_in (i + 1) N) (in2 : vp_in (i + 2) N) (in3 : vp_in (i + 3) N) (hmc : k + 1 ≤ mc) (hms : n + 6 ≤ ms) (kk : LK mc ms Q N xs k n m i) : J mi_L_law 13 mc ms Q k n 2314 [some (.ref 999999), some (.ref 0), some (.ref 121), some (.ref 129), some (.ref 130), some (.int i), a6, a7, a8, a9] [] h := by
  obtain ⟨HC, ⟨v, R, HM, HS⟩, ⟨f, hf⟩, ⟨g, hg⟩, hS⟩ := id HL
  obtain ⟨B, _, ⟨b, rfl⟩, HB, HX, HR⟩ := us_save  HA hm
  iterate 1 (refine J_step rfl rfl ?_)
  refine J_callV rfl rfl rfl rfl rfl HC.1 rfl rfl rfl rfl (HX h HC) (by omega) (by omega) (fun E h9 q => by cases q.1) (fun v9 h1 q => ?_)
  obtain ⟨q1, W1⟩ := q
  cases q1
  have L1 := LW_x HL W1
  obtain ⟨C1, ⟨v1, R1, M1, S1⟩, -, -, hS1⟩ := id L1
  iterate 1 (refine J_step rfl rfl ?_)
  refine J_callV rfl rfl rfl rfl rfl M1.1 rfl rfl rfl rfl (HR h1 v1 R1 M1 S1) (by omega) (by omega) (fun E h9 q => by cases q.1) (fun v9 h2 q => ?_)
  obtain ⟨q1, c2, P2⟩ := q
  cases q1
  have L2 := LW_y L1 P2
  exact J_ic rfl (fun _ => kk _ _ _ _ _ _ _ _ L2 HB (by omega) (by omega)) (fun hq => absurd rfl hq)
set_option maxRecDepth 100000 in
set_option maxHeartbeats 2000000 in
theorem w_law50 {mc ms k n m N : Nat} {Q : QT} {xs : Nat → Int32} {A : AS} {h : AHp} {i : Int32} {a6 a7 a8 a9 : Option Value} (HL : LW N xs A h) (HA : AI A m) (hm : m < 512) (in1 : vp_in (i + 1) N) (in2 : vp_in (i + 2) N) (in3 : vp_in (i + 3) N) (hmc : k + 1 ≤ mc) (hms : n + 6 ≤ ms) (kk : LK mc ms Q N xs k n m i) : J mi_L_law 13 mc ms Q k n 2327 [some (.ref 999999), some (.ref 0), some (.ref 121), some (.ref 129), some (.ref 130), some (.int i), a6, a7, a8, a9] [] h := by
  obtain ⟨HC, ⟨v, R, HM, HS⟩, ⟨f, hf⟩, ⟨g, hg⟩, hS⟩ := id HL
  obtain ⟨B, c, val, b, HB, hv, HW, HR⟩ := u_restore  HA hm
  iterate 2 (refine J_step rfl rfl ?_)
  refine J_callS rfl rfl rfl rfl (by decide) rfl rfl rfl rfl (HW h f HC hf) hmc hms (fun E h9 q => by cases q.1) (fun v9 h1 q => ?_)
  obtain ⟨q1, W1⟩ := q
  cases q1
  have L1 := LW_w HL W1
  obtain ⟨C1, ⟨v1, R1, M1, S1⟩, -, -, hS1⟩ := id L1
  iterate 2 (refine J_step rfl rfl ?_)
  refine J_callV rfl rfl rfl rfl rfl M1.1 rfl rfl rfl rfl (HR h1 v1 R1 M1 S1) hmc hms (fun E h9 q => by cases q.1) (fun v9 h2 q => ?_)
  obtain ⟨q1, P2⟩ := q
  cases q1
  obtain ⟨L2, ⟨v2, R2, M2, e2⟩, f2, hf2, hv2⟩ := LW_m L1 P2
  iterate 2 (refine J_step rfl rfl ?_)
  refine J_callV rfl rfl rfl rfl rfl M2.1 rfl rfl rfl rfl (m_thrown (d := 0) M2) hmc hms (fun E h9 q => by cases q.1) (fun v9 h3 q => ?_)
  obtain ⟨q1, rfl⟩ := q
  cases q1
  iterate 1 (refine J_step rfl rfl ?_)
  refine J_ic rfl (fun _ => ?_) (fun hq => absurd e2 hq)
  iterate 1 (refine J_step rfl rfl ?_)
  have fin : J mi_L_law 13 mc ms Q (k + 1 + 0 + 0) (n + 6 + 0 + 0) 2368 [some (.ref 999999), some (.ref 0), some (.ref 121), some (.ref 129), some (.ref 130), some (.int i), some (.int c), some (.int b), a8, a9] [] h3 := by
    refine J_step rfl rfl ?_
    exact kk _ _ _ _ _ _ _ _ L2 HB (Nat.le_refl _) (Nat.le_refl _)
  refine J_if (y := 0) rfl (fun _ => fin) (fun hq => ?_)
  have hc : c = 0 := Decidable.of_not_not hq
  iterate 2 (refine J_step rfl rfl ?_)
  refine J_lald rfl hf2 (vp_in_nI (n := 0) (by decide) (by decide)) ?_
  iterate 3 (refine J_step rfl rfl ?_)
  have ez : lg_cmp (f2 (nI 0).toNatClampNeg) b.toInt64 = 0 := by rw [show f2 (nI 0).toNatClampNeg = val.toInt64 from hv2 hc, hv hc]; exact lg_self _
  exact J_if (y := 0) rfl (fun _ => fin) (fun hq => absurd ez hq)
