theorem crUn_mem {x s : Int32} {l : List Row} {r : Row} (h : r ∈ crUn x s l) : r ∈ l := (List.mem_filter.mp h).1
theorem LI_stop {q : LQ} {T κ : Nat} (H : LM q T κ) : LI (q.1, sp_stop q.2) T κ := by
  obtain ⟨t, c, ht, p, cm, ar, gn, mt, nb, en, jo, b, u, ⟨⟨v0, v1, v2, v3, v4, v5⟩, ⟨v6, v7, v8, v9⟩, v10, v11, v12, vE, vJ⟩, ⟨⟨a1, a2, a3, a4⟩, hc, hb, -, hcm, hmt, hen, hjo, hnb, r0, r1, h20⟩, ⟨hS, hR, hP⟩, hp, hp0, hp24⟩ := H
  obtain ⟨sl, F, l, E, Jn⟩ := q
  have hcm : cm = l.length + ar + gn := hcm
  have hnb : nb + cW l ≤ cm := hnb
  have r0 : crRid l 0 ≤ c := r0
  have r1 : crRid l 1 ≤ c := r1
  have h20 : l.length ≤ 20 := h20
  have hu : uB F = u := uB_of v5
  have hE : sAtE F = (p == 0 || p == 24) := by
    show (F 4 == 0 || F 4 == 24) = _
    rw [show F 4 = nI p from v4]
    exact p_en p hp
  -- the direction behind the turn
  have hU : ∃ u1 : Bool, spU F u = u1 ∧ spF F u 5 = bI u1 ∧ (p = 0 → u1 = true) ∧ (p = 24 → u1 = false) := by
    unfold spU spF
    rw [hE]
    by_cases z : (p == 0 || p == 24) = true
    · rw [if_pos z, if_pos z]
      exact ⟨!u, rfl, rfl, fun w => by rw [hp0 w]; rfl, fun w => by rw [hp24 w]; rfl⟩
    · rw [if_neg z, if_neg z]
      simp only [Bool.or_eq_true, beq_iff_eq, not_or] at z
      exact ⟨u, rfl, v5, fun w => absurd w z.1, fun w => absurd w z.2⟩
  obtain ⟨u1, hu1, h5, hq0, hq24⟩ := hU
  have eF : ∀ i, i ≠ 5 → spF F u i = F i := fun i z => by
    unfold spF
    split
    · rw [fset_ne z]
    · rfl
  show LI (sl, fset (fset (spA (spF F (uB F)) l) 11 (F 11 + sp_j (spF F (uB F)) l)) 12 (sp_p1 (spF F (uB F)) (spU F (uB F)) l (F 12)).2, (sp_p1 (spF F (uB F)) (spU F (uB F)) l (F 12)).1, E, spJ (spF F (uB F)) l Jn) T κ
  rw [hu, hu1]
  have f0 := (eF 0 (by decide)).trans v0
  have f1 := (eF 1 (by decide)).trans v1
  have f2 := (eF 2 (by decide)).trans v2
  have f3 := (eF 3 (by decide)).trans v3
  have f4 := (eF 4 (by decide)).trans v4
  have f6 := (eF 6 (by decide)).trans v6
  have f7 := (eF 7 (by decide)).trans v7
  have f8 := (eF 8 (by decide)).trans v8
  have f9 := (eF 9 (by decide)).trans v9
  have f10 := (eF 10 (by decide)).trans v10
  generalize hG : spF F u = G at h5 f0 f1 f2 f3 f4 f6 f7 f8 f9 f10
  rw [show F 11 = nI jo from v11, show F 12 = nI nb from v12]
  unfold sp_p1 sp_p0 sp_j spJ spA spLd
  rw [f0, f1]
  -- who leaves
  have hR0 : ∀ r ∈ crUn 0 (sPl G 0 / 4) l, RowOk cm t nb r := fun r hr => hR r (crUn_mem hr)
  obtain ⟨m0, em0, hm0⟩ := un_min (x := 0) (s := sPl G 0 / 4) (show t ≤ 123000 by omega) l hR
  obtain ⟨m1, em1, hm1⟩ := un_min (x := 1) (s := sPl G 1 / 4) (show t ≤ 123000 by omega) (crUn 0 (sPl G 0 / 4) l) hR0
  have hW : cW (spL G l) = cW l := (un_W (Or.inr rfl) _).trans (un_W (Or.inl rfl) _)
  have hrid : ∀ y, crRid (spL G l) y ≤ crRid l y := fun y => Nat.le_trans (un_rid _) (un_rid _)
  have hl0 := un_len (x := 0) (s := sPl G 0 / 4) l
  have hl1 := un_len (x := 1) (s := sPl G 1 / 4) (crUn 0 (sPl G 0 / 4) l)
  have hR1 : ∀ r ∈ spL G l, RowOk cm t nb r := fun r hr => hR0 r (crUn_mem hr)
  have hP1 : (spL G l).Pairwise PW := (hP.sublist List.filter_sublist).sublist List.filter_sublist
  have hlen1 : (spL G l).length = (crUn 1 (sPl G 1 / 4) (crUn 0 (sPl G 0 / 4) l)).length := rfl
  rw [em0, em1]
  generalize hL0 : (crUn 0 (sPl G 0 / 4) l).length = n0 at hl0 hl1 hm0 hm1
  rw [← hlen1] at hl1 hm1
  generalize spL G l = l1 at hW hrid hR1 hP1 hl1 hm1 ⊢
  have hr10 := hrid 0
  have hr11 := hrid 1
  -- who boards
  have hc6 := hc.2
  obtain ⟨k0, b1, b2, b3, b4, b5, b6, b7, -, b9⟩ := ld_facts (x := 0) (s := sPl G 0 / 4) (up := sUp u1 0) (c := c) (cm := cm) (t := t) (Or.inl rfl) (by omega) l1 (crRid l1 0) nb (by omega) (by omega) hR1 hP1
  have len2 := crLd_len 0 (sPl G 0 / 4) (nI c) (sUp u1 0) l1 (crRid l1 0) (nI nb)
  generalize crLd 0 (sPl G 0 / 4) (nI c) (sUp u1 0) (crRid l1 0) (nI nb) l1 = L2 at b1 b2 b4 b5 b6 b7 len2 ⊢
  have c5 := b5 1 (by decide) (by decide)
  rw [b1]
  obtain ⟨k1, d1, d2, d3, d4, d5, d6, d7, -, d9⟩ := ld_facts (x := 1) (s := sPl G 1 / 4) (up := sUp u1 1) (c := c) (cm := cm) (t := t) (Or.inr rfl) (by omega) L2.1 (crRid L2.1 1) (nb + k0) (by omega) (by omega) b6 b7
  have len3 := crLd_len 1 (sPl G 1 / 4) (nI c) (sUp u1 1) L2.1 (crRid L2.1 1) (nI (nb + k0))
  generalize crLd 1 (sPl G 1 / 4) (nI c) (sUp u1 1) (crRid L2.1 1) (nI (nb + k0)) L2.1 = L3 at d1 d2 d4 d5 d6 d7 len3 ⊢
  have e5 := d5 0 (by decide) (by decide)
  have hb3 := b3 (by omega)
  have hd3 := d3 (by omega)
  refine ⟨t, c, ht, p, cm, ar + (l.length - l1.length), gn, mt, nb + k0 + k1, en, jo + (m0 + m1), b, u1, ⟨⟨f0, f1, f2, f3, f4, h5⟩, ⟨f6, ?_, f8, f9⟩, f10, ?_, d1, vE, ?_⟩, ⟨⟨a1, a2, a3, a4⟩, hc, hb, ⟨hp, hq0, hq24⟩, ?_, hmt, hen, ?_, ?_, ?_, ?_, ?_⟩, hS, d6, d7⟩
  · show G 7 + (nI l.length - nI l1.length) = _
    rw [f7, nI_sub (by omega), nI_add]
  · show nI jo + (nI m0 + nI m1) = _
    rw [nI_add, nI_add]
  · show Jn + (nI m0).toInt64 + (nI m1).toInt64 = _
    rw [show Jn = lN jo from vJ, lN_toI64 (by omega), lN_toI64 (by omega), lN_add, lN_add, Nat.add_assoc]
  · show cm = L3.1.length + (ar + (l.length - l1.length)) + gn
    have hcm : cm = l.length + ar + gn := hcm
    omega
  · show jo + (m0 + m1) ≤ (ar + (l.length - l1.length)) * 123000
    omega
  · show nb + k0 + k1 + cW L3.1 ≤ cm
    have hnb : nb + cW l ≤ cm := hnb
    omega
  · show crRid L3.1 0 ≤ c
    omega
  · show crRid L3.1 1 ≤ c
    omega
  · show L3.1.length ≤ 20
    have h20 : l.length ≤ 20 := h20
    omega
theorem LI_stop' {sl : Nat → Int32} {s : MS} {T κ : Nat} (H : LM (sl, s) T κ) : LI (sl, sp_stop s) T κ := LI_stop (q := (sl, s)) H
theorem LM_of' {sl : Nat → Int32} {s : MS} {T κ : Nat} (H : LI (sl, s) T κ) (hb : s.1 3 = 0) (hT : T + 1 ≤ 123000) : LM (sl, sp_mv sl (fset s.1 0 (s.1 0 + 1)) s.2.1, s.2.1, mvE s.2.2.1 (sp_x sl (fset s.1 0 (s.1 0 + 1)) s.2.1), s.2.2.2) (T + 1) κ := LM_of (q := (sl, s)) H hb hT
theorem LM_go {sl F : Nat → Int32} {l : List Row} {E Jn : Int64} {T κ : Nat} (HM : LM (sl, F, l, E, Jn) T κ) (hs : ¬ sAtS F = true) : LI (sl, F, l, E, Jn) T κ := by
  obtain ⟨t, c, ht, p, cm, ar, gn, mt, nb, en, jo, b, u, hV, ⟨hA, hc, hb, -, hB⟩, hR, hp, hp0, hp24⟩ := HM
  have e4 : F 4 = nI p := hV.1.2.2.2.2.1
  have hn : ¬ (p % 4 == 0) = true := by
    rw [← p_st p hp, ← e4]
    exact hs
  exact ⟨t, c, ht, p, cm, ar, gn, mt, nb, en, jo, b, u, hV, ⟨hA, hc, hb, ⟨hp, fun z => absurd (by rw [z]; rfl) hn, fun z => absurd (by rw [z]; rfl) hn⟩, hB⟩, hR⟩
theorem LI_min0 {sl : Nat → Int32} {s : MS} {T κ : Nat} (H : LI (sl, s) T κ) (h3 : s.1 3 = 0) (hT : T + 1 ≤ 123000) : LI (sl, sp_min sl s) (T + 1) κ := by
  have HM := LM_of' H h3 hT
  unfold sp_min
  rw [if_pos h3]
  generalize sp_mv sl (fset s.1 0 (s.1 0 + 1)) s.2.1 = F2 at HM ⊢
  generalize mvE s.2.2.1 (sp_x sl (fset s.1 0 (s.1 0 + 1)) s.2.1) = E2 at HM ⊢
  by_cases hs : sAtS F2 = true
  · rw [if_pos hs]
    exact LI_stop' HM
  · rw [if_neg hs]
    exact LM_go HM hs
theorem LI_min {q : LQ} {T κ : Nat} (H : LI q T κ) (hT : T + 1 ≤ 123000) : LI (q.1, sp_min q.1 q.2) (T + 1) κ := by
  by_cases h3 : q.2.1 3 = 0
  · exact LI_min0 (sl := q.1) (s := q.2) H h3 hT
  · unfold sp_min
    rw [if_neg h3]
    obtain ⟨t, c, ht, p, cm, ar, gn, mt, nb, en, jo, b, u, ⟨⟨v0, v1, v2, v3, v4, v5⟩, ⟨v6, v7, v8, v9⟩, v10, v11, v12, vE, vJ⟩, ⟨⟨a1, a2, a3, a4⟩, hc, ⟨hb1, hb2⟩, hpp, hcm, hmt, hen, hjo, hnb, r0, r1, h20⟩, hR⟩ := H
    obtain ⟨sl, F, l, E, Jn⟩ := q
    have hcm : cm = l.length + ar + gn := hcm
    have hnb : nb + cW l ≤ cm := hnb
    have r0 : crRid l 0 ≤ c := r0
    have r1 : crRid l 1 ≤ c := r1
    have h20 : l.length ≤ 20 := h20
    have hbt : b = true := by
      cases b with
      | true => rfl
      | false => exact absurd v3 h3
    obtain ⟨x1, x2⟩ := ht_5 ht (hb1 hbt).2
    have hR2 : LR sl l cm (t + 1) nb := ⟨hR.1, fun r hr => (hR.2.1 r hr).mono (Nat.le_refl _) (by omega) (Nat.le_refl _), hR.2.2⟩
    have e2 : (if 0 < fset F 0 (F 0 + 1) 2 - 5 then fset F 0 (F 0 + 1) 2 - 5 else 0) = nI (ht - 5) := by
      show (if 0 < F 2 - 5 then F 2 - 5 else 0) = _
      rw [show F 2 = nI ht from v2]
      exact x1
    have e0 : F 0 + 1 = nI (t + 1) := by rw [show F 0 = nI t from v0, nI_succ]
    show LI (sl, coolF (fset F 0 (F 0 + 1)), l, E, Jn) (T + 1) κ
    unfold coolF
    rw [e2]
    by_cases z : nI (ht - 5) ≤ 50
    · rw [if_pos z]
      have z2 := x2.mp z
      exact ⟨t + 1, c, ht - 5, p, cm, ar, gn, mt, nb, en, jo, false, u, ⟨⟨e0, v1, rfl, rfl, v4, v5⟩, ⟨v6, v7, v8, v9⟩, v10, v11, v12, vE, vJ⟩, ⟨⟨by omega, hT, a3, a4⟩, hc, ⟨fun w => (by cases w), fun _ => by omega⟩, hpp, hcm, by omega, by omega, hjo, hnb, r0, r1, h20⟩, hR2⟩
    · rw [if_neg z]
      have z2 : ¬ ht - 5 ≤ 50 := fun w => z (x2.mpr w)
      have := (hb1 hbt).2
      exact ⟨t + 1, c, ht - 5, p, cm, ar, gn, mt, nb, en, jo, b, u, ⟨⟨e0, v1, rfl, v3, v4, v5⟩, ⟨v6, v7, v8, v9⟩, v10, v11, v12, vE, vJ⟩, ⟨⟨by omega, hT, a3, a4⟩, hc, ⟨fun _ => by omega, fun w => absurd (hbt.symm.trans w) (by decide)⟩, hpp, hcm, by omega, by omega, hjo, hnb, r0, r1, h20⟩, hR2⟩
theorem LI_pass : ∀ (n : Nat) {q : LQ} {T κ : Nat}, LI q T κ → T + n ≤ 123000 → LI (q.1, sp_pass q.1 n q.2) (T + n) κ
  | 0, q, T, κ, H, _ => H
  | n + 1, q, T, κ, H, hT => by
    have h1 := LI_min H (by omega)
    have h2 := LI_pass n h1 (by omega)
    rw [show T + (n + 1) = T + 1 + n by omega]
    exact h2
theorem i32_nat {x : Int32} {a b : Nat} (h1 : nI a ≤ x) (h2 : x ≤ nI b) (ha : a < 2 ^ 31) (hb : b < 2 ^ 31) : ∃ m, x = nI m ∧ a ≤ m ∧ m ≤ b := by
  have h0 : (0 : Int32) ≤ x := Int32.le_trans (nI_pos' ha) h1
  refine ⟨x.toNatClampNeg, (i32_clamp h0).symm, ?_, ?_⟩
  · have := i32_clamp h0
    rw [← this] at h1
    refine (nI_leI ha ?_).mp h1
    have := Int32.toInt_lt x
    unfold Int32.toNatClampNeg
    omega
  · have := i32_clamp h0
    rw [← this] at h2
    refine (nI_leI ?_ hb).mp h2
    have := Int32.toInt_lt x
    unfold Int32.toNatClampNeg
    omega
theorem LI_apD {q : LQ} {k T κ : Nat} {x y z : Int32} (H : LI q T κ) (hf : sFault q.2.1 q.2.2.1 k x y z = 0) (hk : k ≤ 5) (hT : T + 240 ≤ 123000) (hκ : κ + 1 ≤ 600) : LI (apD q k x y z).2 (T + 240) (κ + 1) := by
  have H0 := H
  obtain ⟨t, c, ht, p, cm, ar, gn, mt, nb, en, jo, b, u, ⟨⟨v0, v1, v2, v3, v4, v5⟩, ⟨v6, v7, v8, v9⟩, v10, v11, v12, vE, vJ⟩, ⟨⟨a1, a2, a3, a4⟩, hc, hb, hpp, hcm, hmt, hen, hjo, hnb, r0, r1, h20⟩, ⟨hS, hR, hP⟩⟩ := H
  obtain ⟨sl, F, l, E, Jn⟩ := q
  have hcm : cm = l.length + ar + gn := hcm
  have hnb : nb + cW l ≤ cm := hnb
  have r0 : crRid l 0 ≤ c := r0
  have r1 : crRid l 1 ≤ c := r1
  have h20 : l.length ≤ 20 := h20
  match k, hk with
  | 0, _ =>
    have hf : fAdd l x y z = 0 := hf
    unfold fAdd at hf
    by_cases h1 : ¬ (0 ≤ y ∧ y < 7) ∨ ¬ (0 ≤ z ∧ z < 7)
    · rw [if_pos h1] at hf; exact absurd hf (by decide)
    rw [if_neg h1] at hf
    by_cases h2 : x < 40 ∨ 120 < x ∨ y = z
    · rw [if_pos h2] at hf; exact absurd hf (by decide)
    rw [if_neg h2] at hf
    by_cases h3 : nI l.length < 20
    · have hl : l.length < 20 := (nI_ltI (b := 20) (by omega) (by omega)).mp h3
      simp only [not_or, Classical.not_not] at h1 h2
      obtain ⟨ny, ey, -, hy⟩ := i32_nat (a := 0) (b := 6) h1.1.1 (st7.mpr h1.1).2 (by omega) (by omega)
      obtain ⟨nz, ez, -, hz⟩ := i32_nat (a := 0) (b := 6) h1.2.1 (st7.mpr h1.2).2 (by omega) (by omega)
      obtain ⟨nx, ex, hx1, hx2⟩ := i32_nat (a := 40) (b := 120) (Int32.not_lt.mp h2.1) (Int32.not_lt.mp h2.2.1) (by omega) (by omega)
      have hyz : ny ≠ nz := fun w => h2.2.2 (by rw [ey, ez, w])
      have hlen : (l ++ [(F 6, x, y, z, F 0, -1, 0)]).length = l.length + 1 := by rw [List.length_append]; rfl
      refine ⟨t, c, ht, p, cm + 1, ar, gn, mt, nb, en, jo, b, u, ⟨⟨v0, v1, v2, v3, v4, v5⟩, ⟨?_, v7, v8, v9⟩, v10, v11, v12, vE, vJ⟩, ⟨⟨by omega, hT, by omega, hκ⟩, hc, hb, hpp, ?_, hmt, hen, hjo, ?_, ?_, ?_, ?_⟩, hS, ?_, ?_⟩
      · show F 6 + 1 = nI (cm + 1)
        rw [show F 6 = nI cm from v6, nI_succ]
      · show cm + 1 = (l ++ [(F 6, x, y, z, F 0, -1, 0)]).length + ar + gn
        omega
      · show nb + cW (l ++ [(F 6, x, y, z, F 0, -1, 0)]) ≤ cm + 1
        have : cW (l ++ [(F 6, x, y, z, F 0, -1, 0)]) = cW l + 1 := by unfold cW; rw [List.countP_append]; rfl
        omega
      · show crRid (l ++ [(F 6, x, y, z, F 0, -1, 0)]) 0 ≤ c
        have : crRid (l ++ [(F 6, x, y, z, F 0, -1, 0)]) 0 = crRid l 0 := by unfold crRid; rw [List.countP_append]; rfl
        rw [this]; exact r0
      · show crRid (l ++ [(F 6, x, y, z, F 0, -1, 0)]) 1 ≤ c
        have : crRid (l ++ [(F 6, x, y, z, F 0, -1, 0)]) 1 = crRid l 1 := by unfold crRid; rw [List.countP_append]; rfl
        rw [this]; exact r1
      · show (l ++ [(F 6, x, y, z, F 0, -1, 0)]).length ≤ 20
        omega
      · intro r hr
        rcases List.mem_append.mp hr with w | w
        · exact (hR r w).mono (by omega) (Nat.le_refl _) (Nat.le_refl _)
        · rw [List.mem_singleton.mp w]
          exact ⟨cm, nx, ny, nz, t, ⟨v6, by omega⟩, ⟨ex, hx1, hx2⟩, ⟨ey, hy⟩, ⟨ez, hz⟩, hyz, ⟨v0, Nat.le_refl _⟩, Or.inl rfl⟩
      · refine List.pairwise_append.mpr ⟨hP, List.pairwise_singleton _ _, fun r hr r' hr' => ?_⟩
        rw [List.mem_singleton.mp hr']
        obtain ⟨n, w, a, b, ca, ⟨e1, l1⟩, -⟩ := hR r hr
        refine ⟨?_, fun _ w => absurd rfl w⟩
        show r.1 < F 6
        rw [e1, show F 6 = nI cm from v6]
        exact nI_lt l1 (by omega)
    · rw [if_neg h3] at hf; exact absurd hf (by decide)
  | 1, _ =>
    have hf : fRem l x = 0 := hf
    rcases fstI_cases (fun j => (rAt l j).1 == x) l.length with ⟨hv, -⟩ | ⟨i, hi, -, hv, -⟩
    · have hv : lnRow l x = -1 := hv
      rw [fRem, if_pos hv] at hf
      exact absurd hf (by decide)
    · have hv : lnRow l x = nI i := hv
      show LI (sl, fset F 8 (F 8 + 1), l.eraseIdx (lnRow l x).toNatClampNeg, E, Jn) (T + 240) (κ + 1)
      rw [hv, nI_clamp (by omega)]
      have hsub : (l.eraseIdx i).Sublist l := List.eraseIdx_sublist _ _
      have hlen : (l.eraseIdx i).length = l.length - 1 := by rw [List.length_eraseIdx, if_pos hi]
      have hw : cW (l.eraseIdx i) ≤ cW l := hsub.countP_le
      have q0 : crRid (l.eraseIdx i) 0 ≤ crRid l 0 := hsub.countP_le
      have q1 : crRid (l.eraseIdx i) 1 ≤ crRid l 1 := hsub.countP_le
      have r0 : crRid l 0 ≤ c := r0
      have r1 : crRid l 1 ≤ c := r1
      refine ⟨t, c, ht, p, cm, ar, gn + 1, mt, nb, en, jo, b, u, ⟨⟨v0, v1, v2, v3, v4, v5⟩, ⟨v6, v7, ?_, v9⟩, v10, v11, v12, vE, vJ⟩, ⟨⟨by omega, hT, by omega, hκ⟩, hc, hb, hpp, ?_, hmt, hen, hjo, ?_, ?_, ?_, ?_⟩, hS, fun r hr => hR r (hsub.mem hr), hP.sublist hsub⟩
      · show F 8 + 1 = nI (gn + 1)
        rw [show F 8 = nI gn from v8, nI_succ]
      · show cm = (l.eraseIdx i).length + ar + (gn + 1)
        omega
      · show nb + cW (l.eraseIdx i) ≤ cm
        omega
      · show crRid (l.eraseIdx i) 0 ≤ c
        omega
      · show crRid (l.eraseIdx i) 1 ≤ c
        omega
      · show (l.eraseIdx i).length ≤ 20
        omega
  | 2, _ =>
    have hf : fSlp x y = 0 := hf
    unfold fSlp at hf
    by_cases h1 : ¬ (0 ≤ x ∧ x < 6)
    · rw [if_pos h1] at hf; exact absurd hf (by decide)
    rw [if_neg h1] at hf
    by_cases h2 : y < 0 ∨ 9 < y
    · rw [if_pos h2] at hf; exact absurd hf (by decide)
    simp only [not_or] at h2
    obtain ⟨ny, ey, -, hy⟩ := i32_nat (a := 0) (b := 9) (Int32.not_lt.mp h2.1) (Int32.not_lt.mp h2.2) (by omega) (by omega)
    refine ⟨t, c, ht, p, cm, ar, gn, mt, nb, en, jo, b, u, ⟨⟨v0, v1, v2, v3, v4, v5⟩, ⟨v6, v7, v8, v9⟩, v10, v11, v12, vE, vJ⟩, ⟨⟨by omega, hT, by omega, hκ⟩, hc, hb, hpp, hcm, hmt, hen, hjo, hnb, r0, r1, h20⟩, fun g hg => ?_, hR, hP⟩
    show ∃ k, k ≤ 9 ∧ upd sl x.toNatClampNeg y g = nI k
    unfold upd
    split
    · exact ⟨ny, hy, ey⟩
    · exact hS g hg
  | 3, _ =>
    have hf : fTrn F = 0 := hf
    unfold fTrn at hf
    by_cases h1 : sAtS F = false
    · rw [if_pos h1] at hf; exact absurd hf (by decide)
    rw [if_neg h1] at hf
    by_cases h2 : sAtE F = true
    · rw [if_pos h2] at hf; exact absurd hf (by decide)
    have hE : sAtE F = (p == 0 || p == 24) := by
      show (F 4 == 0 || F 4 == 24) = _
      rw [show F 4 = nI p from v4]
      exact p_en p hpp.1
    rw [hE] at h2
    simp only [Bool.or_eq_true, beq_iff_eq, not_or] at h2
    exact ⟨t, c, ht, p, cm, ar, gn, mt, nb, en, jo, b, !u, ⟨⟨v0, v1, v2, v3, v4, by show bI (!uB F) = bI (!u); rw [uB_of v5]⟩, ⟨v6, v7, v8, v9⟩, v10, v11, v12, vE, vJ⟩, ⟨⟨by omega, hT, by omega, hκ⟩, hc, hb, ⟨hpp.1, fun w => absurd w h2.1, fun w => absurd w h2.2⟩, hcm, hmt, hen, hjo, hnb, r0, r1, h20⟩, hS, hR, hP⟩
  | 4, _ =>
    have hf : fCap l x = 0 := hf
    unfold fCap at hf
    by_cases h1 : x < 1 ∨ 6 < x
    · rw [if_pos h1] at hf; exact absurd hf (by decide)
    rw [if_neg h1] at hf
    by_cases h2 : x < nI (crRid l 0) ∨ x < nI (crRid l 1)
    · rw [if_pos h2] at hf; exact absurd hf (by decide)
    simp only [not_or] at h1 h2
    obtain ⟨nx, ex, hx1, hx2⟩ := i32_nat (a := 1) (b := 6) (Int32.not_lt.mp h1.1) (Int32.not_lt.mp h1.2) (by omega) (by omega)
    have r0 : crRid l 0 ≤ c := r0
    have r1 : crRid l 1 ≤ c := r1
    have q0 : crRid l 0 ≤ nx := by
      have := Int32.not_lt.mp h2.1
      rw [ex] at this
      exact (nI_leI (by omega) (by omega)).mp this
    have q1 : crRid l 1 ≤ nx := by
      have := Int32.not_lt.mp h2.2
      rw [ex] at this
      exact (nI_leI (by omega) (by omega)).mp this
    exact ⟨t, nx, ht, p, cm, ar, gn, mt, nb, en, jo, b, u, ⟨⟨v0, ex, v2, v3, v4, v5⟩, ⟨v6, v7, v8, v9⟩, v10, v11, v12, vE, vJ⟩, ⟨⟨by omega, hT, by omega, hκ⟩, ⟨hx1, hx2⟩, hb, hpp, hcm, hmt, hen, hjo, hnb, q0, q1, h20⟩, hS, hR, hP⟩
  | 5, _ =>
    have hf : fWai x = 0 := hf
    unfold fWai at hf
    by_cases h1 : x < 1 ∨ 240 < x
    · rw [if_pos h1] at hf; exact absurd hf (by decide)
    simp only [not_or] at h1
    obtain ⟨nx, ex, hx1, hx2⟩ := i32_nat (a := 1) (b := 240) (Int32.not_lt.mp h1.1) (Int32.not_lt.mp h1.2) (by omega) (by omega)
    show LI (sl, sp_pass sl x.toNatClampNeg (F, l, E, Jn)) (T + 240) (κ + 1)
    have := LI_pass x.toNatClampNeg H0 (by rw [ex, nI_clamp (by omega)]; omega)
    refine LI.mono this ?_ hT (by omega) hκ
    rw [ex, nI_clamp (by omega)]
    omega
