def dI (x : Int32) : List Int32 := dgt x.toNatClampNeg
theorem dgN_le (k : Nat) : dgN k ≤ 3 := by
  unfold dgN
  split
  · decide
  · split <;> decide
theorem dI_nI {k : Nat} (h : k < 1000) : dI (nI k) = dgt k := by rw [dI, nI_clamp (by omega)]
theorem dI_len (x : Int32) : (dI x).length ≤ 3 := dgt_len _
def outRid (b : List Int32) (l : List Row) (v : Int32) : Nat → List Int32
  | 0 => b
  | n + 1 => (((outRid b l v n ++ [32]) ++ dI (rAt l (crRrow l v (nI n)).toNatClampNeg).1) ++ [62]) ++ dI (rAt l (crRrow l v (nI n)).toNatClampNeg).2.2.2.1
def outCab (F : Nat → Int32) (u : Bool) (l : List Row) (v : Int32) : List Int32 := outRid (((dI v ++ [64]) ++ dI (sPl F v)) ++ [if sUp u v then 43 else 45]) l v (crRid l v)
theorem outRid_len (b : List Int32) (l : List Row) (v : Int32) : ∀ n, (outRid b l v n).length ≤ b.length + 8 * n
  | 0 => Nat.le_refl _
  | n + 1 => by
    have := outRid_len b l v n
    have h1 := dI_len (rAt l (crRrow l v (nI n)).toNatClampNeg).1
    have h2 := dI_len (rAt l (crRrow l v (nI n)).toNatClampNeg).2.2.2.1
    simp only [outRid, List.length_append, List.length_cons, List.length_nil]
    omega
theorem cOk_64 : cOk 64 := by show vp_nar .char 64 = 64; decide +kernel
theorem cOk_43 : cOk 43 := by show vp_nar .char 43 = 43; decide +kernel
theorem cOk_45 : cOk 45 := by show vp_nar .char 45 = 45; decide +kernel
theorem cOk_32 : cOk 32 := by show vp_nar .char 32 = 32; decide +kernel
theorem cOk_62 : cOk 62 := by show vp_nar .char 62 = 62; decide +kernel
theorem cOk_47 : cOk 47 := by show vp_nar .char 47 = 47; decide +kernel
theorem OutP.ln {h h1 : AHp} {w : List Int32} {F sl : Nat → Int32} {l : List Row} {E Jn : Int64} (H : OutP h 113 w h1) (hL : LnAt h 1 F sl l E Jn) : LnAt h1 1 F sl l E Jn := LnAt_mv (fun x z1 z2 => H.2 x (by omega) (by omega)) hL
theorem OutP.rf {h : AHp} {o : Nat} {w : List Int32} (H : OutAt h o w) : OutP h o w h := ⟨H, fun _ _ _ => rfl⟩
set_option maxRecDepth 100000 in
set_option maxHeartbeats 2000000 in
theorem c_putP {d : Nat} {h h1 : AHp} {o : Nat} {w : List Int32} {c : Int32} (H : OutP h o w h1) (hc : cOk c) (hl : w.length < 96) : JM mi_X3_put d 0 0 [.ref o, .int c] h1 (fun r h' => r = .inl none ∧ OutP h o (w ++ [c]) h') := JM_imp (c_put H.1 hc hl) fun r h' z => ⟨z.1, H.trans z.2⟩
set_option maxRecDepth 100000 in
set_option maxHeartbeats 2000000 in
theorem c_putN {h h1 : AHp} {o : Nat} {w : List Int32} {x : Int32} (H : OutP h o w h1) (hx : ∃ k, k < 1000 ∧ x = nI k) (hl : w.length + 3 ≤ 96) : JM mi_X3_putNumber 1 0 0 [.ref o, .int x] h1 (fun r h' => r = .inl none ∧ OutP h o (w ++ dI x) h') := by
  obtain ⟨k, hk, rfl⟩ := hx
  rw [dI_nI hk]
  exact JM_imp (c_putNumber H.1 hk (by have := dgN_le k; omega)) fun r h' z => ⟨z.1, H.trans z.2⟩
set_option maxRecDepth 100000 in
set_option maxHeartbeats 2000000 in
theorem t_writeCabin {h : AHp} {F sl : Nat → Int32} {l : List Row} {E Jn : Int64} {sv : Bool} {ep ec v : Int32} {w0 : List Int32} (e : h 0 = .inr (5, [.ref 1, .ref 11, .ref 21, .int (bI sv), .ref 31, .ref 113, .ref 115, .int ep, .int ec])) (hL : LnAt h 1 F sl l E Jn) (hO : OutAt h 113 w0) (hu : gU F) (h6 : crRid l v ≤ 6) (hp : ∃ k, k < 1000 ∧ sPl F v = nI k) (hn : ∀ j, j < l.length → ∃ k, k < 1000 ∧ (rAt l j).1 = nI k) (hd : ∀ j, j < l.length → ∃ k, k < 1000 ∧ (rAt l j).2.2.2.1 = nI k) (hr : ∀ n, n < crRid l v → ¬ crRrow l v (nI n) = -1) : JM mi_X5_writeCabin 7 1 6 [.ref 0, .int v] h (fun r h' => if 0 ≤ v ∧ v < 2 then r = .inl (some (.int (nI (outCab F (uB F) l v).length))) ∧ OutP h 113 (outCab F (uB F) l v) h' else r = .inr "java/lang/IndexOutOfBoundsException" ∧ h' = h) := by
  have o0 := hO.1
  have e1 := hL.1
  have hC := hL.2.2
  obtain ⟨R, ⟨f0, f1, f2, f3, f4, f5, f6, f7, hc⟩, hR⟩ := id hC
  refine JM_of gd_X5_writeCabin rfl (by decide +kernel) (Nat.le_of_ble_eq_true rfl) (oj_cats rfl) (by decide) ?_
  repeat (first | (refine J_step rfl rfl ?_) | (refine J_getf rfl rfl rfl (by assumption) rfl ?_))
  by_cases hv : 0 ≤ v ∧ v < 2
  · simp only [if_pos hv]
    have hv2 : ∃ k, k < 1000 ∧ v = nI k := by
      have t1 := Int32.lt_iff_toInt_lt.mp hv.2
      have t2 : v.toInt < 2 := by simpa using t1
      exact ⟨v.toNatClampNeg, by unfold Int32.toNatClampNeg; omega, (i32_clamp hv.1).symm⟩
    refine J_cS rfl rfl rfl rfl rfl rfl rfl rfl rfl rfl rfl (c_reqCab (d := 0) hv) ?_
    repeat (first | (refine J_step rfl rfl ?_) | (refine J_getf rfl rfl rfl (by assumption) rfl ?_))
    refine J_callV rfl rfl rfl rfl rfl o0 rfl rfl rfl rfl (c_clear (d := 0) hO) (Nat.zero_le _) (Nat.zero_le _) (fun E h9 q => by cases q.1) (fun v9 h1 q => ?_)
    obtain ⟨q1, H1⟩ := q
    cases q1
    have e1 := (H1.2 0 (by omega) (by omega)).trans e
    have o1 := H1.1.1
    repeat (first | (refine J_step rfl rfl ?_) | (refine J_getf rfl rfl rfl (by assumption) rfl ?_))
    refine J_callV rfl rfl rfl rfl rfl o1 rfl rfl rfl rfl (c_putN H1 hv2 (by decide)) (Nat.zero_le _) (Nat.zero_le _) (fun E h9 q => by cases q.1) (fun v9 h2 q => ?_)
    obtain ⟨q1, H2⟩ := q
    cases q1
    have l2 : ([] ++ dI v).length ≤ 3 := dI_len v
    have e2 := (H2.2 0 (by omega) (by omega)).trans e
    have o2 := H2.1.1
    repeat (first | (refine J_step rfl rfl ?_) | (refine J_getf rfl rfl rfl (by assumption) rfl ?_))
    refine J_callV rfl rfl rfl rfl rfl o2 rfl rfl rfl rfl (c_putP (d := 0) H2 cOk_64 (by omega)) (Nat.zero_le _) (Nat.zero_le _) (fun E h9 q => by cases q.1) (fun v9 h3 q => ?_)
    obtain ⟨q1, H3⟩ := q
    cases q1
    have l3 : (([] ++ dI v) ++ [64]).length ≤ 4 := by rw [List.length_append]; show _ + 1 ≤ 4; omega
    have e3 := (H3.2 0 (by omega) (by omega)).trans e
    have hL3 := H3.ln hL
    have g3 := hL3.1
    have o3 := H3.1.1
    repeat (first | (refine J_step rfl rfl ?_) | (refine J_getf rfl rfl rfl (by assumption) rfl ?_))
    refine J_cV rfl rfl rfl rfl rfl (by assumption) rfl rfl rfl rfl rfl rfl (c_placeOf (d := 0) hL3) ?_
    refine J_callV rfl rfl rfl rfl rfl o3 rfl rfl rfl rfl (c_putN H3 hp (by omega)) (Nat.zero_le _) (Nat.zero_le _) (fun E h9 q => by cases q.1) (fun v9 h4 q => ?_)
    obtain ⟨q1, H4⟩ := q
    cases q1
    have l4 : ((([] ++ dI v) ++ [64]) ++ dI (sPl F v)).length ≤ 7 := by rw [List.length_append]; have := dI_len (sPl F v); omega
    have e4 := (H4.2 0 (by omega) (by omega)).trans e
    have hL4 := H4.ln hL
    have g4 := hL4.1
    have o4 := H4.1.1
    repeat (first | (refine J_step rfl rfl ?_) | (refine J_getf rfl rfl rfl (by assumption) rfl ?_))
    refine J_cV rfl rfl rfl rfl rfl (by assumption) rfl rfl rfl rfl rfl rfl (c_isUp (d := 0) hL4 hu) ?_
    have go : ∀ c, cOk c → c = (if sUp (uB F) v then 43 else 45) → J mi_X5_writeCabin 7 1 6 (fun r h' => r = .inl (some (.int (nI (outCab F (uB F) l v).length))) ∧ OutP h 113 (outCab F (uB F) l v) h') 0 0 65 [some (.ref 0), some (.int v), none, none, none] [.int c, .ref 113] h4 := by
      intro c hcc hce
      refine J_callV rfl rfl rfl rfl rfl o4 rfl rfl rfl rfl (c_putP (d := 0) H4 hcc (by omega)) (Nat.zero_le _) (Nat.zero_le _) (fun E h9 q => by cases q.1) (fun v9 h5 q => ?_)
      obtain ⟨q1, H5⟩ := q
      cases q1
      rw [hce] at H5
      have l5 : (((([] ++ dI v) ++ [64]) ++ dI (sPl F v)) ++ [if sUp (uB F) v then 43 else 45]).length ≤ 8 := by rw [List.length_append]; show _ + 1 ≤ 8; omega
      change OutP h 113 ((((dI v) ++ [64]) ++ dI (sPl F v)) ++ [if sUp (uB F) v then 43 else 45]) h5 at H5
      change ((((dI v) ++ [64]) ++ dI (sPl F v)) ++ [if sUp (uB F) v then 43 else 45]).length ≤ 8 at l5
      have hout : outCab F (uB F) l v = outRid ((((dI v) ++ [64]) ++ dI (sPl F v)) ++ [if sUp (uB F) v then 43 else 45]) l v (crRid l v) := rfl
      generalize (((dI v) ++ [64]) ++ dI (sPl F v)) ++ [if sUp (uB F) v then 43 else 45] = b at H5 l5 hout
      rw [hout]
      have hL5 := H5.ln hL
      have g5 := hL5.1
      have e5 := (H5.2 0 (by omega) (by omega)).trans e
      obtain ⟨R5, ⟨f50, -⟩, -⟩ := id hL5.2.2
      have loop : ∀ m j h6, m + j = crRid l v → OutP h 113 (outRid b l v j) h6 → ∀ o4, J mi_X5_writeCabin 7 1 6 (fun r h' => r = .inl (some (.int (nI (outRid b l v (crRid l v)).length))) ∧ OutP h 113 (outRid b l v (crRid l v)) h') 0 0 82 [some (.ref 0), some (.int v), some (.int (nI (crRid l v))), some (.int (nI j)), o4] [] h6 := by
        intro m
        induction m with
        | zero =>
          intro j h6' hj H6 o4
          obtain rfl : j = crRid l v := by omega
          have e6 := (H6.2 0 (by omega) (by omega)).trans e
          have o6 := H6.1.1
          repeat (first | (refine J_step rfl rfl ?_) | (refine J_getf rfl rfl rfl (by assumption) rfl ?_))
          refine J_ic rfl (fun _ => ?_) (fun hz => absurd (Int32.le_refl _) hz)
          repeat (first | (refine J_step rfl rfl ?_) | (refine J_getf rfl rfl rfl (by assumption) rfl ?_))
          exact J_iret rfl rfl rfl rfl ⟨rfl, H6⟩
        | succ m ih =>
          intro j h7 hj H7 o4
          have hlen := outRid_len b l v j
          have e7 := (H7.2 0 (by omega) (by omega)).trans e
          have hL7 := H7.ln hL
          have g7 := hL7.1
          have o7 := H7.1.1
          obtain ⟨R7, ⟨f70, f71, f72, f73, f74, f75, f76, f77, hc7⟩, hR7⟩ := id hL7.2.2
          repeat (first | (refine J_step rfl rfl ?_) | (refine J_getf rfl rfl rfl (by assumption) rfl ?_))
          refine J_ic rfl (fun hz => absurd hz (nI_ge (by omega) (by omega))) (fun _ => ?_)
          repeat (first | (refine J_step rfl rfl ?_) | (refine J_getf rfl rfl rfl (by assumption) rfl ?_))
          refine J_cV rfl rfl rfl rfl rfl (by assumption) rfl rfl rfl rfl rfl rfl (c_riderRow hL7.2.2) ?_
          rcases fstI_cases (fun i => (rAt l i).2.2.2.2.2.1 == v && nI (crBef l i) == nI j) l.length with ⟨hv0, -⟩ | ⟨i, hi, -, hv0, -⟩
          · exact absurd (show crRrow l v (nI j) = -1 from hv0) (hr j (by omega))
          · have hri : crRrow l v (nI j) = nI i := hv0
            have hout1 : outRid b l v (j + 1) = (((outRid b l v j ++ [32]) ++ dI (rAt l i).1) ++ [62]) ++ dI (rAt l i).2.2.2.1 := by
              rw [outRid, hri, nI_clamp (by omega)]
            have ha1 := dI_len (rAt l i).1
            have ha2 := dI_len (rAt l i).2.2.2.1
            rw [hri]
            refine J_cS rfl rfl rfl rfl rfl rfl rfl rfl rfl rfl rfl (c_reqRow (d := 0) (i := i) (by omega)) ?_
            repeat (first | (refine J_step rfl rfl ?_) | (refine J_getf rfl rfl rfl (by assumption) rfl ?_))
            refine J_callV rfl rfl rfl rfl rfl o7 rfl rfl rfl rfl (c_putP (d := 0) H7 cOk_32 (by omega)) (Nat.zero_le _) (Nat.zero_le _) (fun E h9 q => by cases q.1) (fun v9 h8 q => ?_)
            obtain ⟨q1, H8⟩ := q
            cases q1
            have l8 : (outRid b l v j ++ [32]).length = (outRid b l v j).length + 1 := by rw [List.length_append]; rfl
            clear e7 g7 o7 f70 f71 f72 f73 f74 f75 f76 f77
            have e8 := (H8.2 0 (by omega) (by omega)).trans e
            have hL8 := H8.ln hL
            have g8 := hL8.1
            have o8 := H8.1.1
            obtain ⟨R8, ⟨f80, f81, f82, f83, f84, f85, f86, f87, hc8⟩, hR8⟩ := id hL8.2.2
            repeat (first | (refine J_step rfl rfl ?_) | (refine J_getf rfl rfl rfl (by assumption) rfl ?_))
            refine J_iald rfl (by assumption) (vp_in_nI (by omega) (by omega)) ?_
            rw [nI_clamp (by omega), (show R8 0 i = (rAt l i).1 from (rw_rAt hR8 hi).1)]
            refine J_callV rfl rfl rfl rfl rfl o8 rfl rfl rfl rfl (c_putN H8 (hn i hi) (by omega)) (Nat.zero_le _) (Nat.zero_le _) (fun E h9 q => by cases q.1) (fun v9 h9 q => ?_)
            obtain ⟨q1, H9⟩ := q
            cases q1
            have l9 : ((outRid b l v j ++ [32]) ++ dI (rAt l i).1).length ≤ (outRid b l v j).length + 4 := by rw [List.length_append]; omega
            clear e8 g8 o8 f80 f81 f82 f83 f84 f85 f86 f87
            have e9 := (H9.2 0 (by omega) (by omega)).trans e
            have o9 := H9.1.1
            repeat (first | (refine J_step rfl rfl ?_) | (refine J_getf rfl rfl rfl (by assumption) rfl ?_))
            refine J_callV rfl rfl rfl rfl rfl o9 rfl rfl rfl rfl (c_putP (d := 0) H9 cOk_62 (by omega)) (Nat.zero_le _) (Nat.zero_le _) (fun E h9 q => by cases q.1) (fun v9 h10 q => ?_)
            obtain ⟨q1, H10⟩ := q
            cases q1
            have l10 : (((outRid b l v j ++ [32]) ++ dI (rAt l i).1) ++ [62]).length ≤ (outRid b l v j).length + 5 := by rw [List.length_append]; show _ + 1 ≤ _; omega
            clear e9 o9
            have e10 := (H10.2 0 (by omega) (by omega)).trans e
            have hL10 := H10.ln hL
            have g10 := hL10.1
            have o10 := H10.1.1
            obtain ⟨R10, ⟨f80, f81, f82, f83, f84, f85, f86, f87, hc10⟩, hR10⟩ := id hL10.2.2
            repeat (first | (refine J_step rfl rfl ?_) | (refine J_getf rfl rfl rfl (by assumption) rfl ?_))
            refine J_iald rfl (by assumption) (vp_in_nI (by omega) (by omega)) ?_
            rw [nI_clamp (by omega), (show R10 3 i = (rAt l i).2.2.2.1 from (rw_rAt hR10 hi).2.2.2.1)]
            refine J_callV rfl rfl rfl rfl rfl o10 rfl rfl rfl rfl (c_putN H10 (hd i hi) (by omega)) (Nat.zero_le _) (Nat.zero_le _) (fun E h9 q => by cases q.1) (fun v9 h11 q => ?_)
            obtain ⟨q1, H11⟩ := q
            cases q1
            rw [← hout1] at H11
            have hs := fun o4 => ih (j + 1) h11 (by omega) H11 o4
            rw [nI_succ] at hs
            iterate 2 (first | (refine J_step rfl rfl ?_) | (refine J_getf rfl rfl rfl (by assumption) rfl ?_))
            exact hs _
      iterate 4 (first | (refine J_step rfl rfl ?_) | (refine J_getf rfl rfl rfl (by assumption) rfl ?_))
      refine J_cV rfl rfl rfl rfl rfl (by assumption) rfl rfl rfl rfl rfl rfl (c_countRiders (d := 0) hL5.2.2) ?_
      iterate 3 (first | (refine J_step rfl rfl ?_) | (refine J_getf rfl rfl rfl (by assumption) rfl ?_))
      exact loop (crRid l v) 0 h5 rfl H5 _
    refine J_if (y := 0) rfl (fun hq => ?_) (fun hq => ?_)
    · have hb := bI_f hq
      iterate 1 (refine J_step rfl rfl ?_)
      exact go 45 cOk_45 (by rw [hb]; rfl)
    · have hb := bI_t hq
      iterate 2 (refine J_step rfl rfl ?_)
      exact go 43 cOk_43 (by rw [hb]; rfl)
  · simp only [if_neg hv]
    refine J_xS rfl rfl rfl rfl rfl rfl rfl rfl rfl rfl rfl rfl rfl (c_reqCabX hv) ?_
    exact ⟨rfl, rfl⟩
def outSt (sl : Nat → Int32) (l : List Row) : Nat → List Int32
  | 0 => dI (nI (crWtg l 0))
  | n + 1 => (((outSt sl l n ++ [47]) ++ dI (sl n)) ++ [47]) ++ dI (nI (crWtg l (nI (n + 1))))
theorem outSt_len (sl : Nat → Int32) (l : List Row) : ∀ n, (outSt sl l n).length ≤ 3 + 8 * n
  | 0 => dI_len _
  | n + 1 => by
    have := outSt_len sl l n
    have h1 := dI_len (sl n)
    have h2 := dI_len (nI (crWtg l (nI (n + 1))))
    simp only [outSt, List.length_append, List.length_cons, List.length_nil]
    omega
set_option maxRecDepth 100000 in
set_option maxHeartbeats 2000000 in
theorem t_writeStations {h : AHp} {F sl : Nat → Int32} {l : List Row} {E Jn : Int64} {sv : Bool} {ep ec : Int32} {w0 : List Int32} (e : h 0 = .inr (5, [.ref 1, .ref 11, .ref 21, .int (bI sv), .ref 31, .ref 113, .ref 115, .int ep, .int ec])) (hL : LnAt h 1 F sl l E Jn) (hO : OutAt h 113 w0) (hs : ∀ j, j < 6 → ∃ k, k < 1000 ∧ sl j = nI k) : JM mi_X5_writeStations 3 0 0 [.ref 0] h (fun r h' => r = .inl (some (.int (nI (outSt sl l 6).length))) ∧ OutP h 113 (outSt sl l 6) h') := by
  have o0 := hO.1
  have e1 := hL.1
  have hC := hL.2.2
  obtain ⟨R, ⟨f0, f1, f2, f3, f4, f5, f6, f7, hc⟩, hR⟩ := id hC
  have hw : ∀ s, ∃ k, k < 1000 ∧ nI (crWtg l s) = nI k := fun s => ⟨_, by have := crWtg_le (l := l) (s := s); omega, rfl⟩
  refine JM_of gd_X5_writeStations rfl (by decide +kernel) (Nat.le_of_ble_eq_true rfl) (oj_cats rfl) (by decide) ?_
  repeat (first | (refine J_step rfl rfl ?_) | (refine J_getf rfl rfl rfl (by assumption) rfl ?_))
  refine J_callV rfl rfl rfl rfl rfl o0 rfl rfl rfl rfl (c_clear (d := 0) hO) (Nat.zero_le _) (Nat.zero_le _) (fun E h9 q => by cases q.1) (fun v9 h1 q => ?_)
  obtain ⟨q1, H1⟩ := q
  cases q1
  clear e1 f0 o0
  have e1 := (H1.2 0 (by omega) (by omega)).trans e
  have hL1 := H1.ln hL
  have g1 := hL1.1
  have o1 := H1.1.1
  obtain ⟨R1, ⟨f10, -⟩, -⟩ := id hL1.2.2
  repeat (first | (refine J_step rfl rfl ?_) | (refine J_getf rfl rfl rfl (by assumption) rfl ?_))
  refine J_cV rfl rfl rfl rfl rfl (by assumption) rfl rfl rfl rfl rfl rfl (c_countWaiting hL1.2.2) ?_
  refine J_callV rfl rfl rfl rfl rfl o1 rfl rfl rfl rfl (c_putN H1 (hw 0) (by decide)) (Nat.zero_le _) (Nat.zero_le _) (fun E h9 q => by cases q.1) (fun v9 h2 q => ?_)
  obtain ⟨q1, H2⟩ := q
  cases q1
  have loop : ∀ m j h3, m + j = 6 → OutP h 113 (outSt sl l j) h3 → J mi_X5_writeStations 3 0 0 (fun r h' => r = .inl (some (.int (nI (outSt sl l 6).length))) ∧ OutP h 113 (outSt sl l 6) h') 0 0 27 [some (.ref 0), some (.int (nI j))] [] h3 := by
    intro m
    induction m with
    | zero =>
      intro j h3 hj H3
      obtain rfl : j = 6 := by omega
      have e3 := (H3.2 0 (by omega) (by omega)).trans e
      have o3 := H3.1.1
      repeat (first | (refine J_step rfl rfl ?_) | (refine J_getf rfl rfl rfl (by assumption) rfl ?_))
      refine J_ic rfl (fun _ => ?_) (fun hz => absurd (oj_ccT (by decide)) hz)
      repeat (first | (refine J_step rfl rfl ?_) | (refine J_getf rfl rfl rfl (by assumption) rfl ?_))
      exact J_iret rfl rfl rfl rfl ⟨rfl, H3⟩
    | succ m ih =>
      intro j h3 hj H3
      have hlen := outSt_len sl l j
      have ha1 := dI_len (sl j)
      have ha2 := dI_len (nI (crWtg l (nI (j + 1))))
      have e3 := (H3.2 0 (by omega) (by omega)).trans e
      have o3 := H3.1.1
      repeat (first | (refine J_step rfl rfl ?_) | (refine J_getf rfl rfl rfl (by assumption) rfl ?_))
      refine J_ic rfl (fun hq => absurd (show nI 6 ≤ nI j from hq) (nI_ge (by omega) (by omega))) (fun hq => ?_)
      repeat (first | (refine J_step rfl rfl ?_) | (refine J_getf rfl rfl rfl (by assumption) rfl ?_))
      refine J_callV rfl rfl rfl rfl rfl o3 rfl rfl rfl rfl (c_putP (d := 0) H3 cOk_47 (by omega)) (Nat.zero_le _) (Nat.zero_le _) (fun E h9 q => by cases q.1) (fun v9 h4 q => ?_)
      obtain ⟨q1, H4⟩ := q
      cases q1
      have l4 : (outSt sl l j ++ [47]).length = (outSt sl l j).length + 1 := by rw [List.length_append]; rfl
      clear e3 o3
      have e4 := (H4.2 0 (by omega) (by omega)).trans e
      have hL4 := H4.ln hL
      have g4 := hL4.1
      have s4 := hL4.2.1
      have o4 := H4.1.1
      repeat (first | (refine J_step rfl rfl ?_) | (refine J_getf rfl rfl rfl (by assumption) rfl ?_))
      refine J_iald rfl s4 (vp_in_nI (by omega) (by omega)) ?_
      rw [nI_clamp (by omega)]
      refine J_callV rfl rfl rfl rfl rfl o4 rfl rfl rfl rfl (c_putN H4 (hs j (by omega)) (by omega)) (Nat.zero_le _) (Nat.zero_le _) (fun E h9 q => by cases q.1) (fun v9 h5 q => ?_)
      obtain ⟨q1, H5⟩ := q
      cases q1
      have l5 : ((outSt sl l j ++ [47]) ++ dI (sl j)).length ≤ (outSt sl l j).length + 4 := by rw [List.length_append]; omega
      clear e4 o4 g4 s4
      have e5 := (H5.2 0 (by omega) (by omega)).trans e
      have o5 := H5.1.1
      repeat (first | (refine J_step rfl rfl ?_) | (refine J_getf rfl rfl rfl (by assumption) rfl ?_))
      refine J_callV rfl rfl rfl rfl rfl o5 rfl rfl rfl rfl (c_putP (d := 0) H5 cOk_47 (by omega)) (Nat.zero_le _) (Nat.zero_le _) (fun E h9 q => by cases q.1) (fun v9 h6 q => ?_)
      obtain ⟨q1, H6⟩ := q
      cases q1
      have l6 : (((outSt sl l j ++ [47]) ++ dI (sl j)) ++ [47]).length ≤ (outSt sl l j).length + 5 := by rw [List.length_append]; show _ + 1 ≤ _; omega
      clear e5 o5
      have e6 := (H6.2 0 (by omega) (by omega)).trans e
      have hL6 := H6.ln hL
      have g6 := hL6.1
      have o6 := H6.1.1
      obtain ⟨R6, ⟨f60, -⟩, -⟩ := id hL6.2.2
      repeat (first | (refine J_step rfl rfl ?_) | (refine J_getf rfl rfl rfl (by assumption) rfl ?_))
      rw [← nI_succ]
      refine J_cV rfl rfl rfl rfl rfl (by assumption) rfl rfl rfl rfl rfl rfl (c_countWaiting hL6.2.2) ?_
      refine J_callV rfl rfl rfl rfl rfl o6 rfl rfl rfl rfl (c_putN H6 (hw _) (by omega)) (Nat.zero_le _) (Nat.zero_le _) (fun E h9 q => by cases q.1) (fun v9 h7 q => ?_)
      obtain ⟨q1, H7⟩ := q
      cases q1
      have hs2 := ih (j + 1) h7 (by omega) H7
      rw [nI_succ] at hs2
      iterate 2 (first | (refine J_step rfl rfl ?_) | (refine J_getf rfl rfl rfl (by assumption) rfl ?_))
      exact hs2
  iterate 2 (first | (refine J_step rfl rfl ?_) | (refine J_getf rfl rfl rfl (by assumption) rfl ?_))
  exact loop 6 0 h2 rfl H2
