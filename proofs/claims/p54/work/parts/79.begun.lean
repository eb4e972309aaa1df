set_option maxRecDepth 100000 in
set_option maxHeartbeats 4000000 in
set_option maxRecDepth 100000 in
set_option maxHeartbeats 2000000 in
theorem c_begun {N : Nat} {xs : Nat → Int32} {h0 : AHp} (hN : N ≤ 260) (b0 : oj_bd 0 h0) (s0 : h0 999999 = .inl (9, N, .inl xs)) : JM mi_L_begun 11 200 2400 [.ref 999999] h0 (fun r h' => ∃ A n, r = .inl (some (.ref 0)) ∧ LWs N xs A 121 h' ∧ AI A n ∧ n ≤ 20 ∧ A.2.2.2.2.1 = []) := by
  refine JM_ofL gd_L_begun rfl (by decide +kernel) (Nat.le_of_ble_eq_true rfl) (oj_cats rfl) ?_
  refine J_new (a := 0) (ci := 5) (N := 9) (fs := [.null, .null, .null, .int 0, .null, .null, .null, .int 0, .int 0]) rfl rfl (by decide +kernel) (by decide +kernel) (by decide +kernel) rfl (by decide +kernel) (fun ad => rfl) b0 (by omega) (fun v hv => loLv_mem (P := fun v => v < 0 ∨ 999999 ≤ v) hv trivial) (fun j v hj => loLs_at (P := fun v => v < 0 ∨ 999999 ≤ v) hj ⟨Or.inr (Nat.le_refl _), trivial⟩) (by decide) (by decide) ?_
  have e1 : oj_up h0 0 (.inr (5, [.null, .null, .null, .int 0, .null, .null, .null, .int 0, .int 0])) 0 = .inr (5, [.null, .null, .null, .int 0, .null, .null, .null, .int 0, .int 0]) := up_at
  have b1 : oj_bd (0 + 1) (oj_up h0 0 (.inr (5, [.null, .null, .null, .int 0, .null, .null, .null, .int 0, .int 0]))) := b0.push (lo_ref trivial)
  have s1 : oj_up h0 0 (.inr (5, [.null, .null, .null, .int 0, .null, .null, .null, .int 0, .int 0])) 999999 = .inl (9, N, .inl xs) := (up_ne (by omega)).trans s0
  generalize oj_up h0 0 (.inr (5, [.null, .null, .null, .int 0, .null, .null, .null, .int 0, .int 0])) = h1 at e1 b1 s1 ⊢
  refine J_step rfl rfl ?_
  refine J_callI rfl rfl rfl rfl (by first | exact Or.inl rfl | exact Or.inr rfl) rfl rfl rfl rfl rfl (c_init e1 b1) (by decide) (by decide) (fun a ha => loLv_mem (P := fun a => h1 a ≠ nilc ∨ 999999 ≤ a) ha ⟨nnR e1 (by decide), trivial⟩) (fun j a ha => loLs_at (P := fun a => h1 a ≠ nilc ∨ 999999 ≤ a) ha ⟨Or.inr (Nat.le_refl _), trivial⟩) (fun E h9 q => by cases q.1) (fun v h2 q => ?_)
  obtain ⟨q1, C2, b2, u2⟩ := q
  cases q1
  have W2 : LWs N xs AS0 121 h2 := ⟨C2, b2, Nat.le_refl _, (u2 999999 (by decide)).trans s1⟩
  -- the end
  have fin : ∀ (A : AS) (h3 : AHp) (n k9 n9 : Nat) (x : Int32) (o3 o4 : Option Value), LWs N xs A 121 h3 → AI A n → n ≤ 18 → A.2.2.2.2.1 = [] → Bd 20000000 x → k9 ≤ 160 → n9 ≤ 2300 → J mi_L_begun 11 200 2400 (fun r h' => ∃ A n, r = .inl (some (.ref 0)) ∧ LWs N xs A 121 h' ∧ AI A n ∧ n ≤ 20 ∧ A.2.2.2.2.1 = []) k9 n9 129 [some (.ref 999999), some (.ref 0), some (.int x), o3, o4] [] h3 := by
    intro A h3 n k9 n9 x o3 o4 HW HA hn ht hx hk hn9
    iterate 6 (refine J_step rfl rfl ?_)
    refine J_callS rfl rfl rfl rfl (Or.inl rfl) rfl rfl rfl rfl (c_in (i := 46) (n := 6) HW.2.2.2 hN (by omega) (by omega) (by omega)) (by omega) (by omega) (fun E h9 q => by obtain ⟨⟨_, -, q⟩, -⟩ := q; cases q) (fun v h9 q => ?_)
    obtain ⟨⟨v1, -, q⟩, rfl⟩ := q
    cases q
    refine J_step rfl rfl ?_
    obtain ⟨c, B, hM, hact, hAI⟩ := us_setCapacity (p0 := 1 + nI v1) HW.1 HA (by omega) ht
    refine J_callS rfl rfl rfl rfl (Or.inl rfl) rfl rfl rfl rfl hM (by omega) (by omega) (fun E h9 q => by cases q.1) (fun v h4 q => ?_)
    obtain ⟨q1, hst⟩ := q
    cases q1
    have HW4 := HW.step hst
    iterate 5 (refine J_step rfl rfl ?_)
    refine J_callS rfl rfl rfl rfl (Or.inl rfl) rfl rfl rfl rfl (c_in (i := 47) (n := 60) HW4.2.2.2 hN (by omega) (by omega) (by omega)) (by omega) (by omega) (fun E h9 q => by obtain ⟨⟨_, -, q⟩, -⟩ := q; cases q) (fun v h9 q => ?_)
    obtain ⟨⟨v2, -, q⟩, rfl⟩ := q
    cases q
    refine J_step rfl rfl ?_
    obtain ⟨c2, B2, hM2, hact2, hAI2⟩ := us_pass (p0 := 1 + nI v2) HW4.1 hAI (by omega) hact.2.1
    refine J_callS rfl rfl rfl rfl (Or.inl rfl) rfl rfl rfl rfl hM2 (by omega) (by omega) (fun E h9 q => by cases q.1) (fun v h5 q => ?_)
    obtain ⟨q1, hst2⟩ := q
    cases q1
    have HW5 := HW4.step hst2
    have hsum : Bd 30000000 (x + (c + c2)) := Bd_mono (Bd_add hx (Bd_add hact.bd hact2.bd (by omega)) (by omega)) (by omega)
    iterate 4 (refine J_step rfl rfl ?_)
    refine J_ldcI (v := -90000000) rfl (by decide +kernel) ?_
    refine J_ic rfl (fun _ => ?_) (fun z => absurd ?_ z)
    · refine J_step rfl rfl ?_
      exact J_aret rfl rfl (by omega) (by omega) ⟨B2, n + 1 + 1, rfl, HW5, hAI2, by omega, hact2.2.1⟩
    · show (-90000000 : Int32) ≤ x + (c + c2)
      rw [Int32.le_iff_toInt_le, show (-90000000 : Int32).toInt = -90000000 by decide]
      have := hsum.1
      omega
  -- the pickers
  have loop2 : ∀ m j (A : AS) (h3 : AHp) (n k9 n9 : Nat) (x : Int32) (o4 : Option Value), m + j = 11 → LWs N xs A 121 h3 → AI A n → n ≤ 6 + j → A.2.2.2.2.1 = [] → Bd (6000000 + 1000000 * j) x → k9 ≤ 130 + j → n9 ≤ 2160 + 6 * j → J mi_L_begun 11 200 2400 (fun r h' => ∃ A n, r = .inl (some (.ref 0)) ∧ LWs N xs A 121 h' ∧ AI A n ∧ n ≤ 20 ∧ A.2.2.2.2.1 = []) k9 n9 57 [some (.ref 999999), some (.ref 0), some (.int x), some (.int (nI j)), o4] [] h3 := by
    intro m
    induction m with
    | zero =>
      intro j A h3 n k9 n9 x o4 hj HW HA hn ht hx hk hn9
      obtain rfl : j = 11 := by omega
      iterate 5 (refine J_step rfl rfl ?_)
      refine J_callS rfl rfl rfl rfl (Or.inl rfl) rfl rfl rfl rfl (c_in (i := 12) (n := 8) HW.2.2.2 hN (by omega) (by omega) (by omega)) (by omega) (by omega) (fun E h9 q => by obtain ⟨⟨_, -, q⟩, -⟩ := q; cases q) (fun v h9 q => ?_)
      obtain ⟨⟨v1, hv1, q⟩, rfl⟩ := q
      cases q
      refine J_step rfl rfl ?_
      rw [show (3 : Int32) + nI v1 = nI (3 + v1) from nI_add 3 v1]
      refine J_ic rfl (fun _ => ?_) (fun z => absurd (show nI (3 + v1) ≤ nI 11 from nI_le (by omega) (by omega)) z)
      exact fin A _ n _ _ x _ _ HW HA (by omega) ht (Bd_mono hx (by omega)) (by omega) (by omega)
    | succ m ih =>
      intro j A h3 n k9 n9 x o4 hj HW HA hn ht hx hk hn9
      iterate 5 (refine J_step rfl rfl ?_)
      refine J_callS rfl rfl rfl rfl (Or.inl rfl) rfl rfl rfl rfl (c_in (i := 12) (n := 8) HW.2.2.2 hN (by omega) (by omega) (by omega)) (by omega) (by omega) (fun E h9 q => by obtain ⟨⟨_, -, q⟩, -⟩ := q; cases q) (fun v h9 q => ?_)
      obtain ⟨⟨v1, hv1, q⟩, rfl⟩ := q
      cases q
      refine J_step rfl rfl ?_
      rw [show (3 : Int32) + nI v1 = nI (3 + v1) from nI_add 3 v1]
      refine J_ic rfl (fun _ => ?_) (fun _ => ?_)
      · exact fin A _ n _ _ x _ _ HW HA (by omega) ht (Bd_mono hx (by omega)) (by omega) (by omega)
      · iterate 4 (refine J_step rfl rfl ?_)
        rw [show (13 : Int32) + nI j = nI (13 + j) from nI_add 13 j]
        refine J_step rfl rfl ?_
        refine J_callS rfl rfl rfl rfl (Or.inl rfl) rfl rfl rfl rfl (c_in (i := 13 + j) (n := 7) HW.2.2.2 hN (by omega) (by omega) (by omega)) (by omega) (by omega) (fun E h9 q => by obtain ⟨⟨_, -, q⟩, -⟩ := q; cases q) (fun v h9 q => ?_)
        obtain ⟨⟨v2, hv2, q⟩, rfl⟩ := q
        cases q
        iterate 8 (refine J_step rfl rfl ?_)
        rw [show (24 : Int32) + nI j = nI (24 + j) from nI_add 24 j]
        refine J_step rfl rfl ?_
        refine J_callS rfl rfl rfl rfl (Or.inl rfl) rfl rfl rfl rfl (c_in (i := 24 + j) (n := 81) HW.2.2.2 hN (by omega) (by omega) (by omega)) (by omega) (by omega) (fun E h9 q => by obtain ⟨⟨_, -, q⟩, -⟩ := q; cases q) (fun v h9 q => ?_)
        obtain ⟨⟨v3, hv3, q⟩, rfl⟩ := q
        cases q
        iterate 9 (refine J_step rfl rfl ?_)
        rw [show (35 : Int32) + nI j = nI (35 + j) from nI_add 35 j]
        refine J_step rfl rfl ?_
        refine J_callS rfl rfl rfl rfl (Or.inl rfl) rfl rfl rfl rfl (c_in (i := 35 + j) (n := 6) HW.2.2.2 hN (by omega) (by omega) (by omega)) (by omega) (by omega) (fun E h9 q => by obtain ⟨⟨_, -, q⟩, -⟩ := q; cases q) (fun v h9 q => ?_)
        obtain ⟨⟨v4, hv4, q⟩, rfl⟩ := q
        cases q
        iterate 2 (refine J_step rfl rfl ?_)
        refine J_irem rfl (by decide) ?_
        generalize (nI v2 + 1 + nI v4 - (nI v2 + 1 + nI v4) / 7 * 7) = to
        obtain ⟨c, B, hM, hact, hAI⟩ := us_addPicker (p0 := 40 + nI v3) (p1 := nI v2) (p2 := to) HW.1 HA (by omega) ht
        refine J_callS rfl rfl rfl rfl (Or.inl rfl) rfl rfl rfl rfl hM (by omega) (by omega) (fun E h9 q => by cases q.1) (fun v h4 q => ?_)
        obtain ⟨q1, hst⟩ := q
        cases q1
        iterate 4 (refine J_step rfl rfl ?_)
        rw [nI_1]
        exact ih (j + 1) B h4 (n + 1) _ _ _ _ (by omega) (HW.step hst) hAI (by omega) hact.2.1 (Bd_mono (Bd_add hx hact.bd (by omega)) (by omega)) (by omega) (by omega)
  -- the slopes
  have loop1 : ∀ m j (A : AS) (h3 : AHp) (n k9 n9 : Nat) (x : Int32) (o4 : Option Value), m + j = 6 → LWs N xs A 121 h3 → AI A n → n ≤ j → A.2.2.2.2.1 = [] → Bd (1000000 * j) x → k9 ≤ 121 + j → n9 ≤ 2108 + 6 * j → J mi_L_begun 11 200 2400 (fun r h' => ∃ A n, r = .inl (some (.ref 0)) ∧ LWs N xs A 121 h' ∧ AI A n ∧ n ≤ 20 ∧ A.2.2.2.2.1 = []) k9 n9 12 [some (.ref 999999), some (.ref 0), some (.int x), some (.int (nI j)), o4] [] h3 := by
    intro m
    induction m with
    | zero =>
      intro j A h3 n k9 n9 x o4 hj HW HA hn ht hx hk hn9
      obtain rfl : j = 6 := by omega
      iterate 2 (refine J_step rfl rfl ?_)
      refine J_ic rfl (fun _ => ?_) (fun z => absurd (show nI 6 ≤ nI 6 from Int32.le_refl _) z)
      iterate 2 (refine J_step rfl rfl ?_)
      exact loop2 11 0 A h3 n _ _ x _ (by omega) HW HA (by omega) ht (Bd_mono hx (by omega)) (by omega) (by omega)
    | succ m ih =>
      intro j A h3 n k9 n9 x o4 hj HW HA hn ht hx hk hn9
      iterate 2 (refine J_step rfl rfl ?_)
      refine J_ic rfl (fun z => absurd (show nI 6 ≤ nI j from z) (nI_ge (by omega) (by omega))) (fun _ => ?_)
      iterate 4 (refine J_step rfl rfl ?_)
      refine J_callS rfl rfl rfl rfl (Or.inl rfl) rfl rfl rfl rfl (c_in (i := j) (n := 2) HW.2.2.2 hN (by omega) (by omega) (by omega)) (by omega) (by omega) (fun E h9 q => by obtain ⟨⟨_, -, q⟩, -⟩ := q; cases q) (fun v h9 q => ?_)
      obtain ⟨⟨v1, hv1, q⟩, rfl⟩ := q
      cases q
      refine J_if (y := 0) rfl (fun _ => ?_) (fun _ => ?_)
      · iterate 4 (refine J_step rfl rfl ?_)
        rw [nI_1]
        refine J_step rfl rfl ?_
        exact ih (j + 1) A _ n _ _ _ _ (by omega) HW HA (by omega) ht (Bd_mono (Bd_add hx (Bd_c0 (K := 0)) (by omega)) (by omega)) (by omega) (by omega)
      · iterate 6 (refine J_step rfl rfl ?_)
        rw [show (6 : Int32) + nI j = nI (6 + j) from nI_add 6 j]
        refine J_step rfl rfl ?_
        refine J_callS rfl rfl rfl rfl (Or.inl rfl) rfl rfl rfl rfl (c_in (i := 6 + j) (n := 10) HW.2.2.2 hN (by omega) (by omega) (by omega)) (by omega) (by omega) (fun E h9 q => by obtain ⟨⟨_, -, q⟩, -⟩ := q; cases q) (fun v h9 q => ?_)
        obtain ⟨⟨v2, hv2, q⟩, rfl⟩ := q
        cases q
        obtain ⟨c, B, hM, hact, hAI⟩ := us_setSlope (p0 := nI j) (p1 := nI v2) HW.1 HA (by omega) ht
        refine J_callS rfl rfl rfl rfl (Or.inl rfl) rfl rfl rfl rfl hM (by omega) (by omega) (fun E h9 q => by cases q.1) (fun v h4 q => ?_)
        obtain ⟨q1, hst⟩ := q
        cases q1
        iterate 4 (refine J_step rfl rfl ?_)
        rw [nI_1]
        refine J_step rfl rfl ?_
        exact ih (j + 1) B h4 (n + 1) _ _ _ _ (by omega) (HW.step hst) hAI (by omega) hact.2.1 (Bd_mono (Bd_add hx hact.bd (by omega)) (by omega)) (by omega) (by omega)
  iterate 5 (refine J_step rfl rfl ?_)
  exact loop1 6 0 AS0 h2 0 _ _ _ _ (by omega) W2 AI_0 (Nat.le_refl _) rfl Bd_c0 (by omega) (by omega)
