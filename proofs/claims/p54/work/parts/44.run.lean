theorem nc_cases {k : Nat} {x y z x' y' z' : Int32} (h : nc k x y z = nc k x' y' z') : k = 3 ∨ (x = x' ∧ ((k = 0 ∧ y = y' ∧ z = z') ∨ (k = 2 ∧ y = y') ∨ (k ≠ 0 ∧ k ≠ 2 ∧ k ≠ 3))) := by
  rcases k with _ | _ | _ | _ | k
  · simp only [nc, Prod.mk.injEq] at h; exact Or.inr ⟨h.1, Or.inl ⟨rfl, h.2⟩⟩
  · simp only [nc, Prod.mk.injEq] at h; exact Or.inr ⟨h.1, Or.inr (Or.inr ⟨by decide, by decide, by decide⟩)⟩
  · simp only [nc, Prod.mk.injEq] at h; exact Or.inr ⟨h.1, Or.inr (Or.inl ⟨rfl, h.2.1⟩)⟩
  · exact Or.inl rfl
  · simp only [nc, Prod.mk.injEq] at h; exact Or.inr ⟨h.1, Or.inr (Or.inr ⟨by omega, by omega, by omega⟩)⟩
theorem sF_k3 {F : Nat → Int32} {l : List Row} {x y z : Int32} : sFault F l 3 x y z = fTrn F := by simp only [sFault]
theorem sF_k2 {F : Nat → Int32} {l : List Row} {x y z : Int32} : sFault F l 2 x y z = fSlp x y := by simp only [sFault]
theorem sF_ko {F : Nat → Int32} {l : List Row} {k : Nat} {x y z y' z' : Int32} (h : k ≠ 0 ∧ k ≠ 2 ∧ k ≠ 3) : sFault F l k x y z = sFault F l k x y' z' := by
  rcases k with _ | _ | _ | _ | _ | k
  · exact absurd rfl h.1
  · simp only [sFault]
  · exact absurd rfl h.2.1
  · exact absurd rfl h.2.2
  · simp only [sFault]
  · simp only [sFault]
theorem sF_nc {F : Nat → Int32} {l : List Row} {k : Nat} {x y z x' y' z' : Int32} (h : nc k x y z = nc k x' y' z') : sFault F l k x y z = sFault F l k x' y' z' := by
  rcases nc_cases h with e | ⟨e, ⟨e2, e3, e4⟩ | ⟨e2, e3⟩ | e2⟩
  · rw [e, sF_k3, sF_k3]
  · rw [e, e3, e4]
  · rw [e2, e, e3, sF_k2, sF_k2]
  · rw [e]; exact sF_ko e2
theorem aD_k3 {q : LQ} {x y z x' y' z' : Int32} : apD q 3 x y z = apD q 3 x' y' z' := by simp only [apD]
theorem aD_k2 {q : LQ} {x y z z' : Int32} : apD q 2 x y z = apD q 2 x y z' := by simp only [apD]
theorem aD_ko {q : LQ} {k : Nat} {x y z y' z' : Int32} (h : k ≠ 0 ∧ k ≠ 2 ∧ k ≠ 3) : apD q k x y z = apD q k x y' z' := by
  rcases k with _ | _ | _ | _ | _ | k
  · exact absurd rfl h.1
  · simp only [apD]
  · exact absurd rfl h.2.1
  · exact absurd rfl h.2.2
  · simp only [apD]
  · simp only [apD]
theorem apD_nc {q : LQ} {k : Nat} {x y z x' y' z' : Int32} (h : nc k x y z = nc k x' y' z') : apD q k x y z = apD q k x' y' z' := by
  rcases nc_cases h with e | ⟨e, ⟨e2, e3, e4⟩ | ⟨e2, e3⟩ | e2⟩
  · rw [e]; exact aD_k3
  · rw [e, e3, e4]
  · rw [e2, e, e3]; exact aD_k2
  · rw [e]; exact aD_ko e2
/-- the commands one after the other: which one fails (-1: none), the line behind them -/
def ffL : List CMD → LQ → Nat → Int32 × LQ
  | [], q, _ => (-1, q)
  | c :: cs, q, i => if sFault q.2.1 q.2.2.1 c.1 c.2.1 c.2.2.1 c.2.2.2 = 0 then ffL cs (apD q c.1 c.2.1 c.2.2.1 c.2.2.2).2 (i + 1) else (nI i, q)
theorem LnP.trans {h h1 h2 : AHp} {a : Nat} {q q2 : LQ} (H : LnP h a q h1) (H2 : LnP h1 a q2 h2) : LnP h a q2 h2 := ⟨H2.1, fun x z => (H2.2 x z).trans (H.2 x z)⟩
set_option maxRecDepth 100000 in
set_option maxHeartbeats 2000000 in
theorem c_firstFailure {h : AHp} {q : LQ} {sv : Bool} {ep ec : Int32} {w : List Int32} {T : Nat → Nat → Int32} {p : Nat} {cs : List CMD} (e : h 0 = .inr (5, [.ref 1, .ref 11, .ref 21, .int (bI sv), .ref 31, .ref 113, .ref 115, .int ep, .int ec])) (hL : LnR h 1 q) (hu : gU q.2.1) (hP : PgAt h 115 w T p cs.length) (hT : CmAt T cs) (h16 : cs.length < 16) : JM mi_X5_firstFailure 5 0 0 [.ref 0] h (fun r h' => r = .inl (some (.int (ffL cs q 0).1)) ∧ LnP h 1 (ffL cs q 0).2 h') := by
  refine JM_of gd_X5_firstFailure rfl (by decide +kernel) (Nat.le_of_ble_eq_true rfl) (oj_cats rfl) (by decide) ?_
  have loop : ∀ cs' j q' h2, cs.drop j = cs' → j ≤ cs.length → LnP h 1 q' h2 → gU q'.2.1 → ∀ r, ffL cs' q' j = r → ∀ o2 o3 o4 o5, J mi_X5_firstFailure 5 0 0 (fun r' h' => r' = .inl (some (.int r.1)) ∧ LnP h 1 r.2 h') 0 0 2 [some (.ref 0), some (.int (nI j)), o2, o3, o4, o5] [] h2 := by
    intro cs'
    induction cs' with
    | nil =>
      intro j q' h2 hd hj H hu r hr o2 o3 o4 o5
      have hj2 : j = cs.length := by
        have := List.drop_eq_nil_iff.mp hd
        omega
      subst hj2
      obtain ⟨p0, -⟩ := PgAt_mv (h' := h2) (fun x z1 z2 => H.2 x (by omega)) hP
      have e0 := (H.2 0 (by omega)).trans e
      repeat (first | (refine J_step rfl rfl ?_) | (refine J_getf rfl rfl rfl (by assumption) rfl ?_))
      refine J_ic rfl (fun hq => ?_) (fun hq => absurd (Int32.le_refl _) hq)
      repeat (first | (refine J_step rfl rfl ?_) | (refine J_getf rfl rfl rfl (by assumption) rfl ?_))
      subst hr
      exact J_iret rfl rfl rfl rfl ⟨rfl, H⟩
    | cons c cs' ih =>
      intro j q' h2 hd hj H hu r hr o2 o3 o4 o5
      have hlt : j < cs.length := by
        rcases Nat.lt_or_ge j cs.length with z | z
        · exact z
        · rw [List.drop_eq_nil_of_le z] at hd; cases hd
      have hc : cs[j]? = some c := by
        rw [List.drop_eq_getElem_cons hlt] at hd
        rw [List.getElem?_eq_getElem hlt]
        cases hd
        rfl
      have hd2 : cs.drop (j + 1) = cs' := by
        rw [List.drop_eq_getElem_cons hlt] at hd
        cases hd
        rfl
      obtain ⟨k1, k2, k3⟩ := hT j c hc
      obtain ⟨p0, -, p2, p3, p4, p5, -⟩ := PgAt_mv (h' := h2) (fun x z1 z2 => H.2 x (by omega)) hP
      have e0 := (H.2 0 (by omega)).trans e
      obtain ⟨sl, hsl, hLn⟩ := id H.1
      have e1 := hLn.1
      rw [ffL, ← sF_nc k2, ← apD_nc k2] at hr
      repeat (first | (refine J_step rfl rfl ?_) | (refine J_getf rfl rfl rfl (by assumption) rfl ?_))
      refine J_ic rfl (fun hq => absurd hq (nI_ge hlt (by omega))) (fun hq => ?_)
      repeat (first | (refine J_step rfl rfl ?_) | (refine J_getf rfl rfl rfl (by assumption) rfl ?_))
      refine J_iald rfl p2 (vp_in_nI (by omega) (by omega)) ?_
      rw [nI_clamp (by omega), k1]
      repeat (first | (refine J_step rfl rfl ?_) | (refine J_getf rfl rfl rfl (by assumption) rfl ?_))
      refine J_iald rfl p3 (vp_in_nI (by omega) (by omega)) ?_
      rw [nI_clamp (by omega)]
      repeat (first | (refine J_step rfl rfl ?_) | (refine J_getf rfl rfl rfl (by assumption) rfl ?_))
      refine J_iald rfl p4 (vp_in_nI (by omega) (by omega)) ?_
      rw [nI_clamp (by omega)]
      repeat (first | (refine J_step rfl rfl ?_) | (refine J_getf rfl rfl rfl (by assumption) rfl ?_))
      refine J_iald rfl p5 (vp_in_nI (by omega) (by omega)) ?_
      rw [nI_clamp (by omega)]
      repeat (first | (refine J_step rfl rfl ?_) | (refine J_getf rfl rfl rfl (by assumption) rfl ?_))
      refine J_cV rfl rfl rfl rfl rfl (by assumption) rfl rfl rfl rfl rfl rfl (c_faultOf hLn k3) ?_
      refine J_if (y := 0) rfl (fun hq => ?_) (fun hq => ?_)
      · have hf : sFault q'.2.1 q'.2.2.1 c.1 (T 1 j) (T 2 j) (T 3 j) = 0 := hq
        rw [if_pos hf] at hr
        repeat (first | (refine J_step rfl rfl ?_) | (refine J_getf rfl rfl rfl (by assumption) rfl ?_))
        refine J_callV rfl rfl rfl rfl rfl e1 rfl rfl rfl rfl (c_applyR H.1 hu k3 hf) (Nat.zero_le _) (Nat.zero_le _) (fun E h9 q => by cases q.1) (fun v h9 q => ?_)
        obtain ⟨q1, q2⟩ := q
        cases q1
        have hs := ih (j + 1) _ h9 hd2 (by omega) (H.trans q2) (apD_gU hu) r hr
        rw [nI_succ] at hs
        iterate 3 (first | (refine J_step rfl rfl ?_) | (refine J_getf rfl rfl rfl (by assumption) rfl ?_))
        exact hs _ _ _ _
      · have hf : ¬ sFault q'.2.1 q'.2.2.1 c.1 (T 1 j) (T 2 j) (T 3 j) = 0 := hq
        rw [if_neg hf] at hr
        repeat (first | (refine J_step rfl rfl ?_) | (refine J_getf rfl rfl rfl (by assumption) rfl ?_))
        subst hr
        exact J_iret rfl rfl rfl rfl ⟨rfl, H⟩
  iterate 2 (first | (refine J_step rfl rfl ?_) | (refine J_getf rfl rfl rfl (by assumption) rfl ?_))
  exact loop cs 0 q h rfl (by omega) ⟨hL, fun _ _ => rfl⟩ hu _ rfl _ _ _ _
def asRun (A : AS) : (Option Value ⊕ String) × AS :=
  if (rdP A.2.2.2.2.1).1 = true then
    (if (ffL (rdP A.2.2.2.2.1).2.2 A.1 0).1 = -1 then (.inl (some (.int (nI (rdP A.2.2.2.2.1).2.2.length))), ((ffL (rdP A.2.2.2.2.1).2.2 A.1 0).2, A.2.1, (A.1 :: A.2.2.1).take 8, A.2.2.2.1, [], A.2.2.2.2.2))
    else (.inr "java/lang/UnsupportedOperationException", (A.1, A.2.1, A.2.2.1, A.2.2.2.1, [], A.2.2.2.2.2.1, (ffL (rdP A.2.2.2.2.1).2.2 A.1 0).1)))
  else (.inr "java/lang/IllegalArgumentException", (A.1, A.2.1, A.2.2.1, A.2.2.2.1, [], nI (rdP A.2.2.2.2.1).2.1, A.2.2.2.2.2.2))
/-- what is read of 60 signs are 12 commands at most -/
theorem rdL_len {w : List Int32} (hw : w.length ≤ 60) : ∀ n ok p cs, p ≤ w.length → (ok = true → 5 * cs.length ≤ p + 1) → cs.length ≤ 12 → (rdL w n ok p cs).2.2.length ≤ 12
  | 0, _, _, _, _, _, h => h
  | n + 1, ok, p, cs, hp, h5, h => by
    unfold rdL
    split
    · rename_i z
      split
      · have hadv := rdC_adv (w := w) (p := p + 1) z.2
        have := h5 z.1
        refine rdL_len hw n _ _ _ hadv.2.1 (fun q => ?_) ?_
        · have := hadv.2.2.2 q
          rw [cadd, if_pos q, List.length_append]
          show 5 * (cs.length + 1) ≤ _
          omega
        · unfold cadd
          split
          · rename_i q
            have := hadv.2.2.2 q
            rw [List.length_append]
            show cs.length + 1 ≤ _
            omega
          · exact h
      · exact h
    · exact h
theorem rdP_len {w : List Int32} (hw : w.length ≤ 60) : (rdP w).2.2.length ≤ 12 := by
  have hadv := rdC_adv (w := w) (p := 0) (Nat.zero_le _)
  refine rdL_len hw 60 _ _ _ hadv.2.1 (fun q => ?_) ?_
  · have := hadv.2.2.2 q
    rw [cadd, if_pos q]
    show 5 * 1 ≤ _
    omega
  · unfold cadd
    split
    · exact (by decide : 1 ≤ 12)
    · exact Nat.zero_le _
set_option maxRecDepth 100000 in
set_option maxHeartbeats 2000000 in
theorem t_run {h : AHp} {A : AS} (H : CRep h A) (hu : gU A.1.2.1) (hb : gB A.1.2.1) (hw : wOk A.2.2.2.2.1) : JM mi_X5_run 9 1 6 [.ref 0] h (fun r h' => r = (asRun A).1 ∧ CStep h (asRun A).2 h') := by
  obtain ⟨e, hL, hcp, hsv, hsv2, hH, hO, T, p, m, hP⟩ := id H
  have p0 := hP.1
  have hw60 := hP.2.2.2.2.2.2
  refine JM_of gd_X5_run rfl (by decide +kernel) (Nat.le_of_ble_eq_true rfl) (oj_cats rfl) (by decide) ?_
  repeat (first | (refine J_step rfl rfl ?_) | (refine J_getf rfl rfl rfl (by assumption) rfl ?_))
  refine J_callV rfl rfl rfl rfl rfl p0 rfl rfl rfl rfl (c_parse (PgP.rf hP) hw) (Nat.zero_le _) (Nat.zero_le _) (fun E h9 q => by cases q.1) (fun v h1 q => ?_)
  obtain ⟨q1, T1, m1, H1, hok⟩ := q
  cases q1
  have e1 := (H1.2 0 (by omega)).trans e
  have p1 := H1.1.1
  repeat (first | (refine J_step rfl rfl ?_) | (refine J_getf rfl rfl rfl (by assumption) rfl ?_))
  refine J_callV rfl rfl rfl rfl rfl p1 rfl rfl rfl rfl (c_pgClear (d := 0) (PgP.rf H1.1)) (Nat.zero_le _) (Nat.zero_le _) (fun E h9 q => by cases q.1) (fun v h2 q => ?_)
  obtain ⟨q1, H2⟩ := q
  cases q1
  have kp : ∀ x, x < 115 ∨ 120 < x → h2 x = h x := fun x z => (H2.2 x (by omega)).trans (H1.2 x (by omega))
  have e2 := (kp 0 (by omega)).trans e
  have p2 := H2.1.1
  have hH2 := HsAt_mv (h' := h2) (fun x z1 z2 => kp x (by omega)) hH
  have hO2 := OutAt_mv (h' := h2) (fun x z1 z2 => kp x (by omega)) hO
  have hL2 : LnR h2 1 A.1 := LnR_mv (fun x z1 z2 => kp x (by omega)) hL
  have hc2 : ∃ q, LnR h2 11 q := by obtain ⟨q, w⟩ := hcp; exact ⟨q, LnR_mv (fun x z1 z2 => kp x (by omega)) w⟩
  have hs2 : ∃ q, LnR h2 21 q := by obtain ⟨q, w⟩ := hsv; exact ⟨q, LnR_mv (fun x z1 z2 => kp x (by omega)) w⟩
  have hv2 : ∀ q, A.2.1 = some q → LnR h2 21 q := fun q w => LnR_mv (fun x z1 z2 => kp x (by omega)) (hsv2 q w)
  clear e1 p1
  repeat (first | (refine J_step rfl rfl ?_) | (refine J_getf rfl rfl rfl (by assumption) rfl ?_))
  refine J_if (y := 0) rfl (fun hq => ?_) (fun hq => ?_)
  · have hT : (rdP A.2.2.2.2.1).1 = true := bI_t hq
    obtain ⟨m1e, hC1⟩ := hok hT
    have h12 := rdP_len hw60
    obtain ⟨qc, hqc⟩ := hc2
    obtain ⟨slc, -, hcl⟩ := id hqc
    have ec := hcl.1
    repeat (first | (refine J_step rfl rfl ?_) | (refine J_getf rfl rfl rfl (by assumption) rfl ?_))
    refine J_callV rfl rfl rfl rfl rfl ec rfl rfl rfl rfl (c_lnCopy hqc hL2 (Or.inl (by omega)) hu hb) (Nat.zero_le _) (Nat.zero_le _) (fun E h9 q => by cases q.1) (fun v h3 q => ?_)
    obtain ⟨q1, H3⟩ := q
    cases q1
    have e3 := (H3.2 0 (by omega)).trans e2
    have hP3 := PgAt_mv (h' := h3) (fun x z1 z2 => H3.2 x (by omega)) H2.1
    have hL3 : LnR h3 1 A.1 := LnR_mv (fun x z1 z2 => H3.2 x (by omega)) hL2
    rw [m1e] at hP3
    clear ec
    repeat (first | (refine J_step rfl rfl ?_) | (refine J_getf rfl rfl rfl (by assumption) rfl ?_))
    refine J_callV rfl rfl rfl rfl rfl e3 rfl rfl rfl rfl (c_firstFailure e3 hL3 hu hP3 hC1 (by omega)) (Nat.zero_le _) (Nat.zero_le _) (fun E h9 q => by cases q.1) (fun v h4 q => ?_)
    obtain ⟨q1, H4⟩ := q
    cases q1
    have kp4 : ∀ x, 20 < x → h4 x = h2 x := fun x z => (H4.2 x (by omega)).trans (H3.2 x (by omega))
    have e4 := (H4.2 0 (by omega)).trans e3
    have hP4 := PgAt_mv (h' := h4) (fun x z1 z2 => H4.2 x (by omega)) hP3
    have hcp4 : LnR h4 11 A.1 := LnR_mv (fun x z1 z2 => H4.2 x (by omega)) H3.1
    have hH4 := HsAt_mv (h' := h4) (fun x z1 z2 => kp4 x (by omega)) hH2
    have hO4 := OutAt_mv (h' := h4) (fun x z1 z2 => kp4 x (by omega)) hO2
    have hs4 : ∃ q, LnR h4 21 q := by obtain ⟨q, w⟩ := hs2; exact ⟨q, LnR_mv (fun x z1 z2 => kp4 x (by omega)) w⟩
    have hv4 : ∀ q, A.2.1 = some q → LnR h4 21 q := fun q w => LnR_mv (fun x z1 z2 => kp4 x (by omega)) (hv2 q w)
    clear e3 e2
    repeat (first | (refine J_step rfl rfl ?_) | (refine J_getf rfl rfl rfl (by assumption) rfl ?_))
    refine J_ic rfl (fun hq => ?_) (fun hq => ?_)
    · have hf : (ffL (rdP A.2.2.2.2.1).2.2 A.1 0).1 = -1 := hq
      obtain ⟨f, g, hB, hff, h31, h32, hl, hqq, hv⟩ := hH4
      have b7 := hB.1 7 (by omega)
      obtain ⟨q7, hq7⟩ := hqq 7 (by omega)
      repeat (first | (refine J_step rfl rfl ?_) | (refine J_getf rfl rfl rfl (by assumption) rfl ?_))
      refine J_callV rfl rfl rfl rfl rfl h31 rfl rfl rfl rfl (c_remember (H := 31) (b := 11) h31 h32 hff hl (fun i hi => by
        have := hB.1 i hi
        obtain ⟨q, sl, -, w⟩ := hqq i hi
        exact ⟨by omega, _, w.1⟩) hq7 hcp4 (by omega) (by omega) hu hb) (Nat.zero_le _) (Nat.zero_le _) (fun E h9 q => by cases q.1) (fun v h9 q => ?_)
      obtain ⟨q1, k1, k2, k3, k4⟩ := q
      cases q1
      have hH9 := HsAt_rem (f := f) hB hl hqq hv ⟨k1, k2, k3, k4⟩
      have kp9 : ∀ x, x < 31 ∨ 112 < x → h9 x = h4 x := fun x z => k4 x (by omega) (by omega) (by omega)
      have e9 := (kp9 0 (by omega)).trans e4
      have hP9 := PgAt_mv (h' := h9) (fun x z1 z2 => kp9 x (by omega)) hP4
      have p9 := hP9.1
      repeat (first | (refine J_step rfl rfl ?_) | (refine J_getf rfl rfl rfl (by assumption) rfl ?_))
      refine J_iret rfl rfl rfl rfl ?_
      unfold asRun
      rw [if_pos hT, if_pos hf]
      refine ⟨rfl, ⟨e9, LnR_mv (fun x z1 z2 => kp9 x (by omega)) H4.1, ⟨_, LnR_mv (fun x z1 z2 => kp9 x (by omega)) hcp4⟩, ?_, fun q w => LnR_mv (fun x z1 z2 => kp9 x (by omega)) (hv4 q w), hH9, OutAt_mv (fun x z1 z2 => kp9 x (by omega)) hO4, _, _, _, hP9⟩, fun x z => ((kp9 x (by omega)).trans (kp4 x (by omega))).trans (kp x (by omega))⟩
      obtain ⟨q, w⟩ := hs4
      exact ⟨q, LnR_mv (fun x z1 z2 => kp9 x (by omega)) w⟩
    · have hf : ¬ (ffL (rdP A.2.2.2.2.1).2.2 A.1 0).1 = -1 := hq
      obtain ⟨sll, -, hll⟩ := id H4.1
      have el := hll.1
      repeat (first | (refine J_step rfl rfl ?_) | (refine J_getf rfl rfl rfl (by assumption) rfl ?_))
      refine J_callV rfl rfl rfl rfl rfl el rfl rfl rfl rfl (c_lnCopy H4.1 hcp4 (Or.inr (by omega)) hu hb) (Nat.zero_le _) (Nat.zero_le _) (fun E h9 q => by cases q.1) (fun v h5 q => ?_)
      obtain ⟨q1, H5⟩ := q
      cases q1
      have e5 := (H5.2 0 (by omega)).trans e4
      clear el
      repeat (first | (refine J_step rfl rfl ?_) | (refine J_getf rfl rfl rfl (by assumption) rfl ?_))
      refine J_putf rfl rfl rfl e5 rfl rfl (fun _ => rfl) rfl rfl ?_
      first | (refine J_throwW (E := "java/lang/IllegalArgumentException") (text := "the text is not a program") (sn := 24) rfl rfl rfl rfl rfl rfl (by decide +kernel) (by decide +kernel) rfl rfl rfl rfl (Nat.le_of_ble_eq_true rfl) (Nat.le_of_ble_eq_true rfl) ?_) | (refine J_throwW (E := "java/lang/UnsupportedOperationException") (text := "a command of the program failed") (sn := 25) rfl rfl rfl rfl rfl rfl (by decide +kernel) (by decide +kernel) rfl rfl rfl rfl (Nat.le_of_ble_eq_true rfl) (Nat.le_of_ble_eq_true rfl) ?_)
      unfold asRun
      rw [if_pos hT, if_neg hf]
      have kp6 : ∀ v x, 0 < x → oj_up h5 0 v x = h5 x := fun v x z => if_neg (by omega)
      have kp5 : ∀ x, 10 < x → h5 x = h4 x := fun x z => H5.2 x (by omega)
      refine ⟨rfl, ⟨if_pos rfl, LnR_mv (fun x z1 z2 => kp6 _ x (by omega)) H5.1, ⟨_, LnR_mv (fun x z1 z2 => (kp6 _ x (by omega)).trans (kp5 x (by omega))) hcp4⟩, ?_, fun q w => LnR_mv (fun x z1 z2 => (kp6 _ x (by omega)).trans (kp5 x (by omega))) (hv4 q w), HsAt_mv (fun x z1 z2 => (kp6 _ x (by omega)).trans (kp5 x (by omega))) hH4, OutAt_mv (fun x z1 z2 => (kp6 _ x (by omega)).trans (kp5 x (by omega))) hO4, _, _, _, PgAt_mv (fun x z1 z2 => (kp6 _ x (by omega)).trans (kp5 x (by omega))) hP4⟩, fun x z => (kp6 _ x (by omega)).trans ((kp5 x (by omega)).trans ((kp4 x (by omega)).trans (kp x (by omega))))⟩
      obtain ⟨q, w⟩ := hs4
      exact ⟨q, LnR_mv (fun x z1 z2 => (kp6 _ x (by omega)).trans (kp5 x (by omega))) w⟩
  · have hT : ¬ (rdP A.2.2.2.2.1).1 = true := fun z => by rw [z] at hq; exact hq (show ¬ bI true = 0 by decide)
    repeat (first | (refine J_step rfl rfl ?_) | (refine J_getf rfl rfl rfl (by assumption) rfl ?_))
    refine J_putf rfl rfl rfl e2 rfl rfl (fun _ => rfl) rfl rfl ?_
    first | (refine J_throwW (E := "java/lang/IllegalArgumentException") (text := "the text is not a program") (sn := 24) rfl rfl rfl rfl rfl rfl (by decide +kernel) (by decide +kernel) rfl rfl rfl rfl (Nat.le_of_ble_eq_true rfl) (Nat.le_of_ble_eq_true rfl) ?_) | (refine J_throwW (E := "java/lang/UnsupportedOperationException") (text := "a command of the program failed") (sn := 25) rfl rfl rfl rfl rfl rfl (by decide +kernel) (by decide +kernel) rfl rfl rfl rfl (Nat.le_of_ble_eq_true rfl) (Nat.le_of_ble_eq_true rfl) ?_)
    unfold asRun
    rw [if_neg hT]
    have kp6 : ∀ v x, 0 < x → oj_up h2 0 v x = h2 x := fun v x z => if_neg (by omega)
    refine ⟨rfl, ⟨if_pos rfl, LnR_mv (fun x z1 z2 => kp6 _ x (by omega)) hL2, ?_, ?_, fun q w => LnR_mv (fun x z1 z2 => kp6 _ x (by omega)) (hv2 q w), HsAt_mv (fun x z1 z2 => kp6 _ x (by omega)) hH2, OutAt_mv (fun x z1 z2 => kp6 _ x (by omega)) hO2, _, _, _, PgAt_mv (fun x z1 z2 => kp6 _ x (by omega)) H2.1⟩, fun x z => (kp6 _ x (by omega)).trans (kp x (by omega))⟩
    · obtain ⟨q, w⟩ := hc2
      exact ⟨q, LnR_mv (fun x z1 z2 => kp6 _ x (by omega)) w⟩
    · obtain ⟨q, w⟩ := hs2
      exact ⟨q, LnR_mv (fun x z1 z2 => kp6 _ x (by omega)) w⟩
