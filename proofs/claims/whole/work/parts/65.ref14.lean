set_option maxRecDepth 100000 in
set_option maxHeartbeats 2000000 in
theorem m_writeCabin {h : AHp} {v : Nat → Int32} {R : Nat → Nat → Int32} {A : AS} {x : Int32} (H : MdAt h v R) (HS : RS v R A) (hu : gU A.1.2.1) (h6 : crRid A.1.2.2.1 x ≤ 6) (hp : ∃ k, k < 1000 ∧ sPl A.1.2.1 x = nI k) (hn : ∀ j, j < A.1.2.2.1.length → ∃ k, k < 1000 ∧ (rAt A.1.2.2.1 j).1 = nI k) (hd : ∀ j, j < A.1.2.2.1.length → ∃ k, k < 1000 ∧ (rAt A.1.2.2.1 j).2.2.2.1 = nI k) (hr : ∀ n, n < crRid A.1.2.2.1 x → ¬ crRrow A.1.2.2.1 x (nI n) = -1) : JM mi_X6_writeCabin 5 0 0 [.ref 121, .int x] h (fun r h' => if 0 ≤ x ∧ x ≤ 1 then r = .inl (some (.int (nI (outCab A.1.2.1 (uB A.1.2.1) A.1.2.2.1 x).length))) ∧ RP h (A.1, A.2.1, A.2.2.1, outCab A.1.2.1 (uB A.1.2.1) A.1.2.2.1 x, A.2.2.2.2) 0 h' else r = .inl (some (.int 0)) ∧ RP h A 1 h') := by
  have S := HS.1
  have hl20 := S.2.2.2.2
  have e0 := H.1
  refine JM_of gd_X6_writeCabin rfl (by decide +kernel) (Nat.le_of_ble_eq_true rfl) (oj_cats rfl) (by decide) ?_
  repeat (first | (refine J_step rfl rfl ?_) | (refine J_getf rfl rfl rfl (by assumption) rfl ?_))
  refine J_cS rfl rfl rfl rfl rfl rfl rfl rfl rfl rfl rfl (m_isCabin) ?_
  by_cases hv : 0 ≤ x ∧ x ≤ 1
  · simp only [if_pos hv]
    rw [decide_eq_true hv]
    refine J_if (y := 0) rfl (fun _ => ?_) (fun hq => absurd (show ¬ bI true = 0 by decide) hq)
    repeat (first | (refine J_step rfl rfl ?_) | (refine J_getf rfl rfl rfl (by assumption) rfl ?_))
    refine J_callV rfl rfl rfl rfl rfl e0 rfl rfl rfl rfl (m_thrF (d := 0) (MdP.rf H)) (Nat.zero_le _) (Nat.zero_le _) (fun E h9 q => by cases q.1) (fun v9 h1 q => ?_)
    obtain ⟨q1, H1⟩ := q
    cases q1
    clear e0
    have e0 := H1.1.1
    refine J_if (y := 0) rfl (fun _ => ?_) (fun hq => absurd rfl hq)
    have hv2 : ∃ k, k < 1000 ∧ x = nI k := by
      obtain ⟨c, hc, e⟩ := i32_lt2 hv
      exact ⟨c, by omega, e⟩
    repeat (first | (refine J_step rfl rfl ?_) | (refine J_getf rfl rfl rfl (by assumption) rfl ?_))
    refine J_putf rfl rfl rfl e0 rfl rfl (fun _ => rfl) rfl rfl ?_
    have H2 := H1.trans (H1.1.fld (v' := fset (fset v 1 0) 6 0))
    refine J_heap (h2 := oj_up h1 121 (rO (fset (fset v 1 0) 6 0))) rfl ?_
    generalize oj_up h1 121 (rO (fset (fset v 1 0) 6 0)) = h2 at H2 ⊢
    clear e0
    have e0 := H2.1.1
    have O2 : OP h (fset v 1 0) R [] h2 := ⟨R 4, by rw [aset_self]; exact H2, Nat.zero_le _, fun j x hx => by cases hx⟩
    repeat (first | (refine J_step rfl rfl ?_) | (refine J_getf rfl rfl rfl (by assumption) rfl ?_))
    refine J_callV rfl rfl rfl rfl rfl e0 rfl rfl rfl rfl (m_numN O2 hv2 (by decide)) (Nat.zero_le _) (Nat.zero_le _) (fun E h9 q => by cases q.1) (fun v9 h3 q => ?_)
    obtain ⟨q1, O3⟩ := q
    cases q1
    have l3 : ([] ++ dI x).length ≤ 3 := dI_len x
    clear e0
    have e0 := O3.obj
    repeat (first | (refine J_step rfl rfl ?_) | (refine J_getf rfl rfl rfl (by assumption) rfl ?_))
    refine J_callV rfl rfl rfl rfl rfl e0 rfl rfl rfl rfl (m_puts (d := 0) O3 (by omega)) (Nat.zero_le _) (Nat.zero_le _) (fun E h9 q => by cases q.1) (fun v9 h4 q => ?_)
    obtain ⟨q1, O4⟩ := q
    cases q1
    have l4 : (([] ++ dI x) ++ [64]).length ≤ 4 := by rw [List.length_append]; show _ + 1 ≤ 4; omega
    clear e0
    have e0 := O4.obj
    obtain ⟨g4, M4⟩ := O4.md
    have SM4 : SI ((aset R 4 g4) 0) A.1 := by rw [aset_ne (by decide)]; exact S
    repeat (first | (refine J_step rfl rfl ?_) | (refine J_getf rfl rfl rfl (by assumption) rfl ?_))
    refine J_cV rfl rfl rfl rfl rfl (by assumption) rfl rfl rfl rfl rfl rfl (m_placeOf (d := 0) M4 SM4) ?_
    refine J_callV rfl rfl rfl rfl rfl e0 rfl rfl rfl rfl (m_numN O4 hp (by omega)) (Nat.zero_le _) (Nat.zero_le _) (fun E h9 q => by cases q.1) (fun v9 h5 q => ?_)
    obtain ⟨q1, O5⟩ := q
    cases q1
    have l5 : ((([] ++ dI x) ++ [64]) ++ dI (sPl A.1.2.1 x)).length ≤ 7 := by rw [List.length_append]; have := dI_len (sPl A.1.2.1 x); omega
    clear e0
    have e0 := O5.obj
    obtain ⟨g5, M5⟩ := O5.md
    have SM5 : SI ((aset R 4 g5) 0) A.1 := by rw [aset_ne (by decide)]; exact S
    repeat (first | (refine J_step rfl rfl ?_) | (refine J_getf rfl rfl rfl (by assumption) rfl ?_))
    refine J_cV rfl rfl rfl rfl rfl (by assumption) rfl rfl rfl rfl rfl rfl (m_up (d := 0) M5 SM5 hu) ?_
    have go : ∀ c, c = (if sUp (uB A.1.2.1) x then 43 else 45 : Int32) → J mi_X6_writeCabin 5 0 0 (fun r h' => r = .inl (some (.int (nI (outCab A.1.2.1 (uB A.1.2.1) A.1.2.2.1 x).length))) ∧ RP h (A.1, A.2.1, A.2.2.1, outCab A.1.2.1 (uB A.1.2.1) A.1.2.2.1 x, A.2.2.2.2) 0 h') 0 0 63 [some (.ref 121), some (.int x), none, none] [.int c, .ref 121] h5 := by
      intro c hce
      refine J_callV rfl rfl rfl rfl rfl e0 rfl rfl rfl rfl (m_puts (d := 0) O5 (by omega)) (Nat.zero_le _) (Nat.zero_le _) (fun E h9 q => by cases q.1) (fun v9 h6' q => ?_)
      obtain ⟨q1, O6⟩ := q
      cases q1
      rw [hce] at O6
      have l6 : (((([] ++ dI x) ++ [64]) ++ dI (sPl A.1.2.1 x)) ++ [if sUp (uB A.1.2.1) x then 43 else 45]).length ≤ 8 := by rw [List.length_append]; show _ + 1 ≤ 8; omega
      change OP h (fset v 1 0) R ((((dI x) ++ [64]) ++ dI (sPl A.1.2.1 x)) ++ [if sUp (uB A.1.2.1) x then 43 else 45]) h6' at O6
      change ((((dI x) ++ [64]) ++ dI (sPl A.1.2.1 x)) ++ [if sUp (uB A.1.2.1) x then 43 else 45]).length ≤ 8 at l6
      have hout : outCab A.1.2.1 (uB A.1.2.1) A.1.2.2.1 x = outRid ((((dI x) ++ [64]) ++ dI (sPl A.1.2.1 x)) ++ [if sUp (uB A.1.2.1) x then 43 else 45]) A.1.2.2.1 x (crRid A.1.2.2.1 x) := rfl
      generalize (((dI x) ++ [64]) ++ dI (sPl A.1.2.1 x)) ++ [if sUp (uB A.1.2.1) x then 43 else 45] = b at O6 l6 hout
      rw [hout]
      have loop : ∀ m j h7, m + j = crRid A.1.2.2.1 x → OP h (fset v 1 0) R (outRid b A.1.2.2.1 x j) h7 → ∀ z3, J mi_X6_writeCabin 5 0 0 (fun r h' => r = .inl (some (.int (nI (outRid b A.1.2.2.1 x (crRid A.1.2.2.1 x)).length))) ∧ RP h (A.1, A.2.1, A.2.2.1, outRid b A.1.2.2.1 x (crRid A.1.2.2.1 x), A.2.2.2.2) 0 h') 0 0 68 [some (.ref 121), some (.int x), some (.int (nI j)), z3] [] h7 := by
        intro m
        induction m with
        | zero =>
          intro j h7 hj O7 z3
          obtain rfl : j = crRid A.1.2.2.1 x := by omega
          have g0 := O7.obj
          obtain ⟨g7, M7⟩ := O7.md
          have SM7 : SI ((aset R 4 g7) 0) A.1 := by rw [aset_ne (by decide)]; exact S
          repeat (first | (refine J_step rfl rfl ?_) | (refine J_getf rfl rfl rfl (by assumption) rfl ?_))
          refine J_cV rfl rfl rfl rfl rfl (by assumption) rfl rfl rfl rfl rfl rfl (m_inCabin M7 SM7) ?_
          refine J_ic rfl (fun _ => ?_) (fun hz => absurd (Int32.le_refl _) hz)
          repeat (first | (refine J_step rfl rfl ?_) | (refine J_getf rfl rfl rfl (by assumption) rfl ?_))
          exact J_iret rfl rfl rfl rfl ⟨rfl, RS_out HS O7⟩
        | succ m ih =>
          intro j h7 hj O7 z3
          have hlen := outRid_len b A.1.2.2.1 x j
          have g0 := O7.obj
          obtain ⟨g7, M7⟩ := O7.md
          have SM7 : SI ((aset R 4 g7) 0) A.1 := by rw [aset_ne (by decide)]; exact S
          repeat (first | (refine J_step rfl rfl ?_) | (refine J_getf rfl rfl rfl (by assumption) rfl ?_))
          refine J_cV rfl rfl rfl rfl rfl (by assumption) rfl rfl rfl rfl rfl rfl (m_inCabin M7 SM7) ?_
          refine J_ic rfl (fun hz => absurd hz (nI_ge (by omega) (by omega))) (fun _ => ?_)
          repeat (first | (refine J_step rfl rfl ?_) | (refine J_getf rfl rfl rfl (by assumption) rfl ?_))
          refine J_cV rfl rfl rfl rfl rfl (by assumption) rfl rfl rfl rfl rfl rfl (m_rider M7 SM7) ?_
          rcases fstI_cases (fun i => (rAt A.1.2.2.1 i).2.2.2.2.2.1 == x && nI (crBef A.1.2.2.1 i) == nI j) A.1.2.2.1.length with ⟨hv0, -⟩ | ⟨i, hi, -, hv0, -⟩
          · exact absurd (show crRrow A.1.2.2.1 x (nI j) = -1 from hv0) (hr j (by omega))
          · have hri : crRrow A.1.2.2.1 x (nI j) = nI i := hv0
            have hout1 : outRid b A.1.2.2.1 x (j + 1) = (((outRid b A.1.2.2.1 x j ++ [32]) ++ dI (rAt A.1.2.2.1 i).1) ++ [62]) ++ dI (rAt A.1.2.2.1 i).2.2.2.1 := by
              rw [outRid, hri, nI_clamp (by omega)]
            have ha1 := dI_len (rAt A.1.2.2.1 i).1
            have ha2 := dI_len (rAt A.1.2.2.1 i).2.2.2.1
            rw [hri]
            repeat (first | (refine J_step rfl rfl ?_) | (refine J_getf rfl rfl rfl (by assumption) rfl ?_))
            refine J_callV rfl rfl rfl rfl rfl g0 rfl rfl rfl rfl (m_puts (d := 0) O7 (by omega)) (Nat.zero_le _) (Nat.zero_le _) (fun E h9 q => by cases q.1) (fun v9 h8 q => ?_)
            obtain ⟨q1, O8⟩ := q
            cases q1
            have l8 : (outRid b A.1.2.2.1 x j ++ [32]).length = (outRid b A.1.2.2.1 x j).length + 1 := by rw [List.length_append]; rfl
            clear g0
            have g0 := O8.obj
            obtain ⟨g8, M8⟩ := O8.md
            have SM8 : SI ((aset R 4 g8) 0) A.1 := by rw [aset_ne (by decide)]; exact S
            repeat (first | (refine J_step rfl rfl ?_) | (refine J_getf rfl rfl rfl (by assumption) rfl ?_))
            refine J_cV rfl rfl rfl rfl rfl (by assumption) rfl rfl rfl rfl rfl rfl (m_of (d := 0) (w := 0) M8 SM8 hi (by decide)) ?_
            refine J_callV rfl rfl rfl rfl rfl g0 rfl rfl rfl rfl (m_numN O8 (hn i hi) (by omega)) (Nat.zero_le _) (Nat.zero_le _) (fun E h9 q => by cases q.1) (fun v9 h10 q => ?_)
            obtain ⟨q1, O9⟩ := q
            cases q1
            change OP h (fset v 1 0) R ((outRid b A.1.2.2.1 x j ++ [32]) ++ dI (rAt A.1.2.2.1 i).1) h10 at O9
            have l9 : ((outRid b A.1.2.2.1 x j ++ [32]) ++ dI (rAt A.1.2.2.1 i).1).length ≤ (outRid b A.1.2.2.1 x j).length + 4 := by rw [List.length_append]; omega
            clear g0
            have g0 := O9.obj
            repeat (first | (refine J_step rfl rfl ?_) | (refine J_getf rfl rfl rfl (by assumption) rfl ?_))
            refine J_callV rfl rfl rfl rfl rfl g0 rfl rfl rfl rfl (m_puts (d := 0) O9 (by omega)) (Nat.zero_le _) (Nat.zero_le _) (fun E h9 q => by cases q.1) (fun v9 h11 q => ?_)
            obtain ⟨q1, O10⟩ := q
            cases q1
            have l10 : (((outRid b A.1.2.2.1 x j ++ [32]) ++ dI (rAt A.1.2.2.1 i).1) ++ [62]).length ≤ (outRid b A.1.2.2.1 x j).length + 5 := by rw [List.length_append]; show _ + 1 ≤ _; omega
            clear g0
            have g0 := O10.obj
            obtain ⟨g10, M10⟩ := O10.md
            have SM10 : SI ((aset R 4 g10) 0) A.1 := by rw [aset_ne (by decide)]; exact S
            repeat (first | (refine J_step rfl rfl ?_) | (refine J_getf rfl rfl rfl (by assumption) rfl ?_))
            refine J_cV rfl rfl rfl rfl rfl (by assumption) rfl rfl rfl rfl rfl rfl (m_of (d := 0) (w := 3) M10 SM10 hi (by decide)) ?_
            refine J_callV rfl rfl rfl rfl rfl g0 rfl rfl rfl rfl (m_numN O10 (hd i hi) (by omega)) (Nat.zero_le _) (Nat.zero_le _) (fun E h9 q => by cases q.1) (fun v9 h12 q => ?_)
            obtain ⟨q1, O11⟩ := q
            cases q1
            change OP h (fset v 1 0) R ((((outRid b A.1.2.2.1 x j ++ [32]) ++ dI (rAt A.1.2.2.1 i).1) ++ [62]) ++ dI (rAt A.1.2.2.1 i).2.2.2.1) h12 at O11
            rw [← hout1] at O11
            have hs := fun z3 => ih (j + 1) h12 (by omega) O11 z3
            rw [nI_succ] at hs
            iterate 2 (first | (refine J_step rfl rfl ?_) | (refine J_getf rfl rfl rfl (by assumption) rfl ?_))
            exact hs _
      iterate 2 (first | (refine J_step rfl rfl ?_) | (refine J_getf rfl rfl rfl (by assumption) rfl ?_))
      exact loop (crRid A.1.2.2.1 x) 0 h6' rfl O6 _
    refine J_if (y := 0) rfl (fun hq => ?_) (fun hq => ?_)
    · have hb := bI_f hq
      iterate 1 (refine J_step rfl rfl ?_)
      exact go 45 (by rw [hb]; rfl)
    · have hb := bI_t hq
      iterate 2 (refine J_step rfl rfl ?_)
      exact go 43 (by rw [hb]; rfl)
  · simp only [if_neg hv]
    rw [decide_eq_false hv]
    refine J_if (y := 0) rfl (fun hq => absurd rfl hq) (fun _ => ?_)
    repeat (first | (refine J_step rfl rfl ?_) | (refine J_getf rfl rfl rfl (by assumption) rfl ?_))
    refine J_callV rfl rfl rfl rfl rfl e0 rfl rfl rfl rfl (m_thrT (d := 0) (MdP.rf H)) (Nat.zero_le _) (Nat.zero_le _) (fun E h9 q => by cases q.1) (fun v9 h1 q => ?_)
    obtain ⟨q1, H1⟩ := q
    cases q1
    refine J_if (y := 0) rfl (fun hq => absurd hq (show ¬ (1 : Int32) = 0 by decide)) (fun _ => ?_)
    repeat (first | (refine J_step rfl rfl ?_) | (refine J_getf rfl rfl rfl (by assumption) rfl ?_))
    exact J_iret rfl rfl rfl rfl ⟨rfl, RP_q HS H1⟩
theorem cOk_nar {c : Int32} (h : cOk c) : narrow .char (.int c) = .int c := by
  have h2 : vp_nar .char c = c := h
  unfold vp_nar at h2
  cases hn : narrow .char (.int c) with
  | int y => rw [hn] at h2; rw [show y = c from h2]
  | _ => exact absurd hn (by unfold narrow; simp)
theorem i2c_ok {c : Int32} (h : cOk c) : (c.toUInt32 % 65536).toInt32 = c := by
  have h2 : vp_nar .char c = c := h
  rw [vp_nar_char] at h2
  rw [← UInt32.toUInt32_toUInt16]
  exact h2
theorem le_sub1 {x : Int32} {n : Nat} (hn : n ≤ 100) : x ≤ nI n - 1 ↔ x < nI n := by
  rw [Int32.le_iff_toInt_le, Int32.lt_iff_toInt_lt]
  have : (nI n - 1).toInt = (n : Int) - 1 := by
    have : ∀ n, n ≤ 100 → (nI n - 1).toInt = (n : Int) - 1 := by decide +kernel
    exact this n hn
  rw [this, nI_toInt (by omega)]
  omega
set_option maxRecDepth 100000 in
set_option maxHeartbeats 2000000 in
theorem m_charAt {h : AHp} {v : Nat → Int32} {R : Nat → Nat → Int32} {A : AS} {i : Int32} (H : MdAt h v R) (HS : RS v R A) (hw : ∀ p, cOk (sg A.2.2.2.1 p)) : JM mi_X6_charAt 2 0 0 [.ref 121, .int i] h (fun r h' => r = .inl (some (.int (if 0 ≤ i ∧ i < nI A.2.2.2.1.length then sg A.2.2.2.1 i.toNatClampNeg else 0))) ∧ RP h A (if 0 ≤ i ∧ i < nI A.2.2.2.1.length then 0 else 1) h') := by
  have e0 := H.1
  obtain ⟨S, -, -, ⟨w6, w6l, w6x⟩, -⟩ := id HS
  refine JM_of gd_X6_charAt rfl (by decide +kernel) (Nat.le_of_ble_eq_true rfl) (oj_cats rfl) (by decide) ?_
  repeat (first | (refine J_step rfl rfl ?_) | (refine J_getf rfl rfl rfl (by assumption) rfl ?_))
  rw [w6]
  refine J_cS rfl rfl rfl rfl rfl rfl rfl rfl rfl rfl rfl (m_isIn (d := 0)) ?_
  by_cases hv : 0 ≤ i ∧ i < nI A.2.2.2.1.length
  · have hv2 : 0 ≤ i ∧ i ≤ nI A.2.2.2.1.length - 1 := ⟨hv.1, (le_sub1 (by omega)).mpr hv.2⟩
    simp only [if_pos hv]
    rw [decide_eq_true hv2]
    refine J_if (y := 0) rfl (fun _ => ?_) (fun hq => absurd (show ¬ bI true = 0 by decide) hq)
    repeat (first | (refine J_step rfl rfl ?_) | (refine J_getf rfl rfl rfl (by assumption) rfl ?_))
    refine J_callV rfl rfl rfl rfl rfl e0 rfl rfl rfl rfl (m_thrF (d := 0) (MdP.rf H)) (Nat.zero_le _) (Nat.zero_le _) (fun E h9 q => by cases q.1) (fun v9 h1 q => ?_)
    obtain ⟨q1, H1⟩ := q
    cases q1
    clear e0
    have e0 := H1.1.1
    have e5 := H1.1.2.2.2.2.2.1
    have hn := i32_clamp hv.1
    have hk : i.toNatClampNeg < A.2.2.2.1.length := by
      have h2 := hv.2
      rw [← hn] at h2
      refine (nI_ltI ?_ (by omega)).mp h2
      have := Int32.toInt_lt i
      unfold Int32.toNatClampNeg
      omega
    refine J_if (y := 0) rfl (fun _ => ?_) (fun hq => absurd rfl hq)
    repeat (first | (refine J_step rfl rfl ?_) | (refine J_getf rfl rfl rfl (by assumption) rfl ?_))
    refine J_rs i.toNatClampNeg rfl e5 hn.symm (by omega) (by decide) (w6x _ _ (sg_at hk)) ?_
    repeat (first | (refine J_step rfl rfl ?_) | (refine J_getf rfl rfl rfl (by assumption) rfl ?_))
    rw [i2c_ok (hw _)]
    exact J_ret (v := some (.int _)) rfl (by show decide (narrow .char (.int (sg A.2.2.2.1 i.toNatClampNeg)) = .int (sg A.2.2.2.1 i.toNatClampNeg)) = true; exact decide_eq_true (cOk_nar (hw _))) (Nat.zero_le _) (Nat.zero_le _) ⟨rfl, RP_q HS H1⟩ rfl
  · have hv2 : ¬ (0 ≤ i ∧ i ≤ nI A.2.2.2.1.length - 1) := fun z => hv ⟨z.1, (le_sub1 (by omega)).mp z.2⟩
    simp only [if_neg hv]
    rw [decide_eq_false hv2]
    refine J_if (y := 0) rfl (fun hq => absurd rfl hq) (fun _ => ?_)
    repeat (first | (refine J_step rfl rfl ?_) | (refine J_getf rfl rfl rfl (by assumption) rfl ?_))
    refine J_callV rfl rfl rfl rfl rfl e0 rfl rfl rfl rfl (m_thrT (d := 0) (MdP.rf H)) (Nat.zero_le _) (Nat.zero_le _) (fun E h9 q => by cases q.1) (fun v9 h1 q => ?_)
    obtain ⟨q1, H1⟩ := q
    cases q1
    refine J_if (y := 0) rfl (fun hq => absurd hq (show ¬ (1 : Int32) = 0 by decide)) (fun _ => ?_)
    repeat (first | (refine J_step rfl rfl ?_) | (refine J_getf rfl rfl rfl (by assumption) rfl ?_))
    exact J_ret (v := some (.int 0)) rfl (by show decide (narrow .char (.int 0) = .int 0) = true; decide +kernel) (Nat.zero_le _) (Nat.zero_le _) ⟨rfl, RP_q HS H1⟩ rfl
set_option maxRecDepth 100000 in
set_option maxHeartbeats 2000000 in
theorem m_type {h : AHp} {v : Nat → Int32} {R : Nat → Nat → Int32} {A : AS} {c : Int32} (H : MdAt h v R) (HS : RS v R A) : JM mi_X6_type 2 0 0 [.ref 121, .int c] h (fun r h' => r = .inl (some (.int (if 60 ≤ A.2.2.2.2.1.length then 0 else nI (A.2.2.2.2.1.length + 1)))) ∧ RP h (asType A c).2 (if 60 ≤ A.2.2.2.2.1.length then 1 else 0) h') := by
  have e0 := H.1
  obtain ⟨S, w0, w5, w6, ⟨w7, w7l, w7x⟩, w2, w3⟩ := id HS
  refine JM_of gd_X6_type rfl (by decide +kernel) (Nat.le_of_ble_eq_true rfl) (oj_cats rfl) (by decide) ?_
  repeat (first | (refine J_step rfl rfl ?_) | (refine J_getf rfl rfl rfl (by assumption) rfl ?_))
  rw [w7]
  by_cases hv : 60 ≤ A.2.2.2.2.1.length
  · have hA : (asType A c).2 = A := by unfold asType; rw [if_pos hv]
    simp only [if_pos hv]
    refine J_ic rfl (fun hq => absurd (show nI A.2.2.2.2.1.length = 60 by rw [show A.2.2.2.2.1.length = 60 by omega]; rfl) hq) (fun _ => ?_)
    repeat (first | (refine J_step rfl rfl ?_) | (refine J_getf rfl rfl rfl (by assumption) rfl ?_))
    refine J_callV rfl rfl rfl rfl rfl e0 rfl rfl rfl rfl (m_thrT (d := 0) (MdP.rf H)) (Nat.zero_le _) (Nat.zero_le _) (fun E h9 q => by cases q.1) (fun v9 h1 q => ?_)
    obtain ⟨q1, H1⟩ := q
    cases q1
    refine J_if (y := 0) rfl (fun hq => absurd hq (show ¬ (1 : Int32) = 0 by decide)) (fun _ => ?_)
    repeat (first | (refine J_step rfl rfl ?_) | (refine J_getf rfl rfl rfl (by assumption) rfl ?_))
    exact J_iret rfl rfl rfl rfl ⟨rfl, by rw [hA]; exact RP_q HS H1⟩
  · have hA : (asType A c).2 = (A.1, A.2.1, A.2.2.1, A.2.2.2.1, A.2.2.2.2.1 ++ [c], A.2.2.2.2.2) := by unfold asType; rw [if_neg hv]
    simp only [if_neg hv]
    refine J_ic rfl (fun _ => ?_) (fun hq => absurd ((nI_eq (b := 60) (by omega) (by decide)).mp (show nI A.2.2.2.2.1.length = nI 60 from Classical.not_not.mp hq)) (by omega))
    repeat (first | (refine J_step rfl rfl ?_) | (refine J_getf rfl rfl rfl (by assumption) rfl ?_))
    refine J_callV rfl rfl rfl rfl rfl e0 rfl rfl rfl rfl (m_thrF (d := 0) (MdP.rf H)) (Nat.zero_le _) (Nat.zero_le _) (fun E h9 q => by cases q.1) (fun v9 h1 q => ?_)
    obtain ⟨q1, H1⟩ := q
    cases q1
    clear e0
    have e0 := H1.1.1
    have e6 := H1.1.2.2.2.2.2.2.1
    have hv7 : fset v 1 0 7 = nI A.2.2.2.2.1.length := w7
    have hlen : (A.2.2.2.2.1 ++ [c]).length = A.2.2.2.2.1.length + 1 := by rw [List.length_append]; rfl
    refine J_if (y := 0) rfl (fun _ => ?_) (fun hq => absurd rfl hq)
    repeat (first | (refine J_step rfl rfl ?_) | (refine J_getf rfl rfl rfl (by assumption) rfl ?_))
    rw [hv7]
    refine J_ws A.2.2.2.2.1.length rfl e6 rfl (by omega) (by decide) ?_
    have K1 := H1.trans (H1.1.arr (i := 5) (by decide) (f := upd (R 5) A.2.2.2.2.1.length c))
    refine J_heap (h2 := oj_up h1 (122 + 5) (.inl (0, aN 5, .inl (upd (R 5) A.2.2.2.2.1.length c)))) rfl ?_
    generalize oj_up h1 (122 + 5) (.inl (0, aN 5, .inl (upd (R 5) A.2.2.2.2.1.length c))) = k1 at K1 ⊢
    clear e0
    have e0 := K1.1.1
    repeat (first | (refine J_step rfl rfl ?_) | (refine J_getf rfl rfl rfl (by assumption) rfl ?_))
    rw [hv7]
    refine J_putf rfl rfl rfl e0 rfl rfl (fun _ => rfl) rfl rfl ?_
    have K2 := K1.trans (K1.1.fld (v' := fset (fset v 1 0) 7 (nI A.2.2.2.2.1.length + 1)))
    refine J_heap (h2 := oj_up k1 121 (rO (fset (fset v 1 0) 7 (nI A.2.2.2.2.1.length + 1)))) rfl ?_
    generalize oj_up k1 121 (rO (fset (fset v 1 0) 7 (nI A.2.2.2.2.1.length + 1))) = k2 at K2 ⊢
    clear e0
    have e0 := K2.1.1
    have hv72 : fset (fset v 1 0) 7 (nI A.2.2.2.2.1.length + 1) 7 = nI (A.2.2.2.2.1.length + 1) := by rw [fset_at, nI_succ]
    repeat (first | (refine J_step rfl rfl ?_) | (refine J_getf rfl rfl rfl (by assumption) rfl ?_))
    rw [hv72]
    refine J_iret rfl rfl rfl rfl ⟨rfl, ?_⟩
    rw [hA]
    refine ⟨_, _, K2, ⟨S, w0, w5, w6, ⟨?_, ?_, fun j x hx => ?_⟩, w2, w3⟩, rfl⟩
    · show fset (fset v 1 0) 7 (nI A.2.2.2.2.1.length + 1) 7 = nI (A.2.2.2.2.1 ++ [c]).length
      rw [hlen]
      exact hv72
    · show (A.2.2.2.2.1 ++ [c]).length ≤ 60
      omega
    · rw [aset_at]
      exact app_at w7x hx
set_option maxRecDepth 100000 in
set_option maxHeartbeats 2000000 in
theorem m_errorPosition {h : AHp} {v : Nat → Int32} {R : Nat → Nat → Int32} {A : AS} (H : MdAt h v R) (HS : RS v R A) (hp : A.2.2.2.2.2.1 = -1 ∨ 0 ≤ A.2.2.2.2.2.1) : JM mi_X6_errorPosition 2 0 0 [.ref 121] h (fun r h' => r = .inl (some (.int (if A.2.2.2.2.2.1 = -1 then 0 else A.2.2.2.2.2.1))) ∧ RP h A (if A.2.2.2.2.2.1 = -1 then 1 else 0) h') := by
  have e0 := H.1
  obtain ⟨S, w0, w5, w6, w7, w2, w3⟩ := id HS
  refine JM_of gd_X6_errorPosition rfl (by decide +kernel) (Nat.le_of_ble_eq_true rfl) (oj_cats rfl) (by decide) ?_
  repeat (first | (refine J_step rfl rfl ?_) | (refine J_getf rfl rfl rfl (by assumption) rfl ?_))
  rw [w2]
  by_cases hv : A.2.2.2.2.2.1 = -1
  · simp only [if_pos hv]
    rw [hv]
    refine J_if (y := 0) rfl (fun hq => absurd hq (show ¬ (0 : Int32) ≤ -1 by decide)) (fun _ => ?_)
    repeat (first | (refine J_step rfl rfl ?_) | (refine J_getf rfl rfl rfl (by assumption) rfl ?_))
    refine J_callV rfl rfl rfl rfl rfl e0 rfl rfl rfl rfl (m_thrT (d := 0) (MdP.rf H)) (Nat.zero_le _) (Nat.zero_le _) (fun E h9 q => by cases q.1) (fun v9 h1 q => ?_)
    obtain ⟨q1, H1⟩ := q
    cases q1
    refine J_if (y := 0) rfl (fun hq => absurd hq (show ¬ (1 : Int32) = 0 by decide)) (fun _ => ?_)
    repeat (first | (refine J_step rfl rfl ?_) | (refine J_getf rfl rfl rfl (by assumption) rfl ?_))
    exact J_iret rfl rfl rfl rfl ⟨rfl, RP_q HS H1⟩
  · simp only [if_neg hv]
    refine J_if (y := 0) rfl (fun _ => ?_) (fun hq => absurd (hp.resolve_left hv) hq)
    repeat (first | (refine J_step rfl rfl ?_) | (refine J_getf rfl rfl rfl (by assumption) rfl ?_))
    refine J_callV rfl rfl rfl rfl rfl e0 rfl rfl rfl rfl (m_thrF (d := 0) (MdP.rf H)) (Nat.zero_le _) (Nat.zero_le _) (fun E h9 q => by cases q.1) (fun v9 h1 q => ?_)
    obtain ⟨q1, H1⟩ := q
    cases q1
    clear e0
    have e0 := H1.1.1
    refine J_if (y := 0) rfl (fun _ => ?_) (fun hq => absurd rfl hq)
    repeat (first | (refine J_step rfl rfl ?_) | (refine J_getf rfl rfl rfl (by assumption) rfl ?_))
    exact J_iret rfl rfl rfl rfl ⟨ri w2, RP_q HS H1⟩
set_option maxRecDepth 100000 in
set_option maxHeartbeats 2000000 in
theorem m_failedCommand {h : AHp} {v : Nat → Int32} {R : Nat → Nat → Int32} {A : AS} (H : MdAt h v R) (HS : RS v R A) (hp : A.2.2.2.2.2.2 = -1 ∨ 0 ≤ A.2.2.2.2.2.2) : JM mi_X6_failedCommand 2 0 0 [.ref 121] h (fun r h' => r = .inl (some (.int (if A.2.2.2.2.2.2 = -1 then 0 else A.2.2.2.2.2.2))) ∧ RP h A (if A.2.2.2.2.2.2 = -1 then 1 else 0) h') := by
  have e0 := H.1
  obtain ⟨S, w0, w5, w6, w7, w2, w3⟩ := id HS
  refine JM_of gd_X6_failedCommand rfl (by decide +kernel) (Nat.le_of_ble_eq_true rfl) (oj_cats rfl) (by decide) ?_
  repeat (first | (refine J_step rfl rfl ?_) | (refine J_getf rfl rfl rfl (by assumption) rfl ?_))
  rw [w3]
  by_cases hv : A.2.2.2.2.2.2 = -1
  · simp only [if_pos hv]
    rw [hv]
    refine J_if (y := 0) rfl (fun hq => absurd hq (show ¬ (0 : Int32) ≤ -1 by decide)) (fun _ => ?_)
    repeat (first | (refine J_step rfl rfl ?_) | (refine J_getf rfl rfl rfl (by assumption) rfl ?_))
    refine J_callV rfl rfl rfl rfl rfl e0 rfl rfl rfl rfl (m_thrT (d := 0) (MdP.rf H)) (Nat.zero_le _) (Nat.zero_le _) (fun E h9 q => by cases q.1) (fun v9 h1 q => ?_)
    obtain ⟨q1, H1⟩ := q
    cases q1
    refine J_if (y := 0) rfl (fun hq => absurd hq (show ¬ (1 : Int32) = 0 by decide)) (fun _ => ?_)
    repeat (first | (refine J_step rfl rfl ?_) | (refine J_getf rfl rfl rfl (by assumption) rfl ?_))
    exact J_iret rfl rfl rfl rfl ⟨rfl, RP_q HS H1⟩
  · simp only [if_neg hv]
    refine J_if (y := 0) rfl (fun _ => ?_) (fun hq => absurd (hp.resolve_left hv) hq)
    repeat (first | (refine J_step rfl rfl ?_) | (refine J_getf rfl rfl rfl (by assumption) rfl ?_))
    refine J_callV rfl rfl rfl rfl rfl e0 rfl rfl rfl rfl (m_thrF (d := 0) (MdP.rf H)) (Nat.zero_le _) (Nat.zero_le _) (fun E h9 q => by cases q.1) (fun v9 h1 q => ?_)
    obtain ⟨q1, H1⟩ := q
    cases q1
    clear e0
    have e0 := H1.1.1
    refine J_if (y := 0) rfl (fun _ => ?_) (fun hq => absurd rfl hq)
    repeat (first | (refine J_step rfl rfl ?_) | (refine J_getf rfl rfl rfl (by assumption) rfl ?_))
    exact J_iret rfl rfl rfl rfl ⟨ri w3, RP_q HS H1⟩
