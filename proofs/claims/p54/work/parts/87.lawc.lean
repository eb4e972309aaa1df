set_option maxRecDepth 100000 in
set_option maxHeartbeats 2000000 in
theorem w_loop {N : Nat} {Q : QT} {xs : Nat → Int32} (hN : N ≤ 260) (hQ : ∀ h, Q (.inl (some (.int (bI true)))) h) : ∀ m j (A : AS) (h : AHp) (M n k9 n9 : Nat) (o3 o4 : Option Value), m + j = 10 → LWs N xs A M h → AI A n → n ≤ 20 + 27 * j → A.2.2.2.2.1 = [] → M ≤ 121 + 43 * j → loLs (fun a => h a ≠ nilc ∨ 999999 ≤ a) [o3, o4] → (∀ P, loLs P [o4]) → k9 ≤ 1000 + 1500 * j → n9 ≤ 6000 + 12000 * j → J mi_L_law 16 614016 7246680 Q k9 n9 20 [some (.ref 999999), some (.ref 0), some (.int (nI j)), o3, o4] [] h := by
  intro m
  induction m with
  | zero =>
    intro j A h M n k9 n9 o3 o4 hj H HA hn ht hM hlo ho4 hk hn9
    obtain rfl : j = 10 := by omega
    iterate 2 (refine J_step rfl rfl ?_)
    refine J_ic rfl (fun _ => ?_) (fun z => absurd (show nI 10 ≤ nI 10 from Int32.le_refl _) z)
    exact w_lawT hN hQ H HA (by omega) (by omega) ht hlo (by omega) (by omega)
  | succ m ih =>
    intro j A h M n k9 n9 o3 o4 hj H HA hn ht hM hlo ho4 hk hn9
    obtain ⟨x48, x89⟩ := ix48 j (by omega)
    have M1 := H.2.2.1
    iterate 2 (refine J_step rfl rfl ?_)
    refine J_ic rfl (fun z => absurd (show nI 10 ≤ nI j from z) (nI_ge (by omega) (by omega))) (fun _ => ?_)
    refine J_step rfl rfl ?_
    refine J_callSA rfl rfl rfl rfl (Or.inl rfl) rfl (oj_halT rfl trivial ⟨Or.inr (Nat.le_refl _), nnR H.1.1 (by decide), hlo⟩) rfl rfl (c_seen H HA (by omega)) (by omega) (by omega) (fun E h9 q => by cases q.1) (fun v h1 q => ?_)
    obtain ⟨q1, q2⟩ := q
    cases q1
    have H1 := H.seen (f := SN A.1) (by omega)
    have arr1 : h1 M = .inl (0, 140, .inl (SN A.1)) := by rw [q2]; exact up_at
    rw [← q2] at H1
    clear q2 H hlo
    iterate 8 (refine J_step rfl rfl ?_)
    rw [x48]
    refine J_callSA rfl rfl rfl rfl (Or.inl rfl) rfl (oj_halT rfl trivial ⟨Or.inr (Nat.le_refl _), nnR H1.1.1 (by decide), nnA arr1, ho4 _⟩) rfl rfl (c_acts (i := 48 + 4 * j) hN H1 HA (by omega) ht (by omega) (by omega)) (by omega) (by omega) (fun E h9 q => by obtain ⟨v, B, M', n', q, -⟩ := q; cases q) (fun v9 h2 q => ?_)
    obtain ⟨v, B, M', n', q1, act, H2, AIB, hn', hM1, hM2, keep⟩ := q
    cases q1
    have arr2 := (keep M (by omega) (by omega)).trans arr1
    clear keep H1 arr1
    obtain ⟨a9, aR, aD⟩ := act.lt
    iterate 2 (refine J_step rfl rfl ?_)
    refine J_callS rfl rfl rfl rfl (Or.inl rfl) rfl rfl rfl rfl (c_isWell H2.1 AIB) (by omega) (by omega) (fun E h9 q => by cases q.1) (fun v9 h3 q => ?_)
    obtain ⟨q1, S3⟩ := q
    cases q1
    have arr3 := (S3.2 M (by omega)).trans arr2
    have H3 := H2.step S3
    clear S3 H2 arr2
    have at119 : ∀ (B' : AS) (h' : AHp) (M2 n2 k8 n8 : Nat), LWs N xs B' M2 h' → AI B' n2 → n2 ≤ n' + 1 → B'.2.2.2.2.1 = [] → M2 ≤ M' + 2 → h' M = .inl (0, 140, .inl (SN A.1)) → k8 ≤ k9 + 1500 → n8 ≤ n9 + 12000 → J mi_L_law 16 614016 7246680 Q k8 n8 119 [some (.ref 999999), some (.ref 0), some (.int (nI j)), some (.ref M), some (.int v)] [] h' := by
      intro B' h' M2 n2 k8 n8 z1 z2 z3 z4 z5 z6 z7 z8
      refine J_step rfl rfl ?_
      rw [nI_1]
      refine J_step rfl rfl ?_
      exact ih (j + 1) B' h' M2 n2 _ _ _ _ (by omega) z1 z2 (by omega) z4 (by omega) ⟨nnA z6, trivial⟩ (fun _ => trivial) (by omega) (by omega)
    have at79 : ∀ (h4 : AHp) (M2 k8 n8 : Nat), LWs N xs B M2 h4 → M2 ≤ M' + 1 → M < M2 → h4 M = .inl (0, 140, .inl (SN A.1)) → k8 ≤ k9 + 1130 → n8 ≤ n9 + 9700 → J mi_L_law 16 614016 7246680 Q k8 n8 79 [some (.ref 999999), some (.ref 0), some (.int (nI j)), some (.ref M), some (.int v)] [] h4 := by
      intro h4 M2 k8 n8 H4 z5 zM arr4 z7 z8
      have M3 := H4.2.2.1
      refine J_step rfl rfl ?_
      refine J_ldcWI (v := -900000) rfl (by decide +kernel) ?_
      refine J_ic rfl (fun _ => at119 B h4 M2 n' _ _ H4 AIB (by omega) act.2.1 (by omega) arr4 (by omega) (by omega)) (fun z => ?_)
      obtain ⟨t, e⟩ := aD (Int32.not_le.mp z)
      iterate 4 (refine J_step rfl rfl ?_)
      rw [x89]
      refine J_step rfl rfl ?_
      refine J_callS rfl rfl rfl rfl (Or.inl rfl) rfl rfl rfl rfl (c_in (i := 89 + j) (n := 5) H4.2.2.2 hN (by omega) (by omega) (by omega)) (by omega) (by omega) (fun E h9 q => by obtain ⟨⟨_, -, q⟩, -⟩ := q; cases q) (fun v9 h9 q => ?_)
      obtain ⟨⟨v1, hv1, q⟩, q2⟩ := q
      cases q
      obtain rfl := q2.symm
      refine J_if (y := 0) rfl (fun _ => at119 B h4 M2 n' _ _ H4 AIB (by omega) act.2.1 (by omega) arr4 (by omega) (by omega)) (fun _ => ?_)
      refine J_step rfl rfl ?_
      have hl8 : B.2.2.1.length ≤ 8 := by
        obtain ⟨f, g, -, -, -, -, hl, -⟩ := H4.1.2.2.2.2.2.1
        exact hl
      rw [e, List.length_cons] at hl8
      refine J_callS rfl rfl rfl rfl (Or.inl rfl) rfl rfl rfl rfl (us_undo H4.1 AIB e) (by omega) (by omega) (fun E h9 q => by cases q.1) (fun v9 h5 q => ?_)
      obtain ⟨q1, S5⟩ := q
      cases q1
      have AI5 := AI_undo AIB (by omega)
      have e9 : (asUndo B).2 = (A.1, B.2.1, t, B.2.2.2) := by unfold asUndo; rw [e]
      rw [e9] at AI5
      have g1 : ((A.1, B.2.1, t, B.2.2.2) : AS).1 = A.1 := rfl
      have g2 : ((A.1, B.2.1, t, B.2.2.2) : AS).2.2.2.2.1 = [] := act.2.1
      generalize ((A.1, B.2.1, t, B.2.2.2) : AS) = R at S5 AI5 g1 g2
      have arr5 := (S5.2 M (by omega)).trans arr4
      have H5 := H4.step S5
      clear S5 H4 arr4
      refine J_if (y := 0) rfl (fun z => absurd z (Int32.not_lt.mpr (nI_pos' (n := t.length) (by omega)))) (fun _ => ?_)
      iterate 2 (refine J_step rfl rfl ?_)
      refine J_callSA rfl rfl rfl rfl (Or.inl rfl) rfl (oj_halT rfl ⟨nnA arr5, trivial⟩ ⟨Or.inr (Nat.le_refl _), nnR H5.1.1 (by decide), nnA arr5, trivial⟩) rfl rfl (c_seen H5 AI5 (by omega)) (by omega) (by omega) (fun E h9 q => by cases q.1) (fun v h6 q => ?_)
      obtain ⟨q1, q2⟩ := q
      cases q1
      have H6 := H5.seen (f := SN R.1) (by omega)
      have arr6 : h6 M = .inl (0, 140, .inl (SN A.1)) := by rw [q2]; exact (up_ne (by omega)).trans arr5
      have brr6 : h6 M2 = .inl (0, 140, .inl (SN A.1)) := by rw [q2, g1]; exact up_at
      rw [← q2] at H6
      clear q2 H5 arr5
      refine J_callS rfl rfl rfl rfl (Or.inl rfl) rfl rfl rfl rfl (c_alike (d := 0) arr6 brr6) (by omega) (by omega) (fun E h9 q => by cases q.1) (fun v9 h9 q => ?_)
      obtain ⟨q1, q2⟩ := q
      cases q1
      obtain rfl := q2.symm
      refine J_if (y := 0) rfl (fun _ => ?_) (fun z => absurd (show ¬ (1 : Int32) = 0 by decide) z)
      exact at119 R h6 _ (n' + 1) _ _ H6 AI5 (by omega) g2 (by omega) arr6 (by omega) (by omega)
    refine J_if (y := 0) rfl (fun z => absurd z (by unfold oj_cz; decide)) (fun _ => ?_)
    refine J_step rfl rfl ?_
    refine J_ldcI (v := -900009) rfl (by decide +kernel) ?_
    refine J_ic rfl (fun z => absurd z a9) (fun _ => ?_)
    refine J_step rfl rfl ?_
    refine J_ldcWI (v := -900000) rfl (by decide +kernel) ?_
    refine J_ic rfl (fun _ => at79 h3 M' _ _ H3 (by omega) (by omega) arr3 (by omega) (by omega)) (fun z => ?_)
    have eB := aR (Int32.not_lt.mp z)
    iterate 2 (refine J_step rfl rfl ?_)
    refine J_callSA rfl rfl rfl rfl (Or.inl rfl) rfl (oj_halT rfl ⟨nnA arr3, trivial⟩ ⟨Or.inr (Nat.le_refl _), nnR H3.1.1 (by decide), nnA arr3, trivial⟩) rfl rfl (c_seen H3 AIB (by omega)) (by omega) (by omega) (fun E h9 q => by cases q.1) (fun v h4 q => ?_)
    obtain ⟨q1, q2⟩ := q
    cases q1
    have H4 := H3.seen (f := SN B.1) (by omega)
    have arr4 : h4 M = .inl (0, 140, .inl (SN A.1)) := by rw [q2]; exact (up_ne (by omega)).trans arr3
    have brr4 : h4 M' = .inl (0, 140, .inl (SN A.1)) := by rw [q2, eB]; exact up_at
    rw [← q2] at H4
    clear q2
    refine J_callS rfl rfl rfl rfl (Or.inl rfl) rfl rfl rfl rfl (c_alike (d := 0) arr4 brr4) (by omega) (by omega) (fun E h9 q => by cases q.1) (fun v9 h9 q => ?_)
    obtain ⟨q1, q2⟩ := q
    cases q1
    obtain rfl := q2.symm
    refine J_if (y := 0) rfl (fun _ => ?_) (fun z => absurd (show ¬ (1 : Int32) = 0 by decide) z)
    exact at79 h4 (M' + 1) _ _ H4 (by omega) (by omega) arr4 (by omega) (by omega)
def oj_h0 (N : Nat) (xs : Nat → Int32) : AHp := fun a => if a = 999999 then .inl (9, N, .inl xs) else nilc
theorem h0_bd (N : Nat) (xs : Nat → Int32) : oj_bd 0 (oj_h0 N xs) := by
  constructor
  · intro x _ hx
    exact if_neg (by omega)
  · intro x
    unfold oj_h0
    split
    · exact trivial
    · exact lo_ref trivial
set_option maxRecDepth 100000 in
set_option maxHeartbeats 2000000 in
theorem w_lawJ {N : Nat} {Q : QT} {xs : Nat → Int32} (hN : N ≤ 260) (hQ : ∀ h, Q (.inl (some (.int (bI true)))) h) : J mi_L_law 16 614016 7246680 Q 0 0 0 (oj_ent [.ref 999999] (mL mi_L_law)) [] (oj_h0 N xs) := by
  have b0 := h0_bd N xs
  have s0 : oj_h0 N xs 999999 = .inl (9, N, .inl xs) := if_pos rfl
  generalize oj_h0 N xs = h0 at b0 s0 ⊢
  refine J_step rfl rfl ?_
  refine J_callSA rfl rfl rfl rfl (Or.inl rfl) rfl (oj_halT rfl trivial ⟨Or.inr (Nat.le_refl _), trivial⟩) rfl rfl (c_begun hN b0 s0) (by omega) (by omega) (fun E h9 q => by obtain ⟨A, n, q, -⟩ := q; cases q) (fun v9 h1 q => ?_)
  obtain ⟨A, n, q1, H, HA, hn, ht⟩ := q
  cases q1
  iterate 2 (refine J_step rfl rfl ?_)
  refine J_ifnull rfl ?_
  refine J_step rfl rfl ?_
  refine J_callS rfl rfl rfl rfl (Or.inl rfl) rfl rfl rfl rfl (c_isWell H.1 HA) (by omega) (by omega) (fun E h9 q => by cases q.1) (fun v9 h2 q => ?_)
  obtain ⟨q1, S2⟩ := q
  cases q1
  refine J_if (y := 0) rfl (fun _ => ?_) (fun z => absurd (show ¬ bI true = 0 by decide) z)
  iterate 2 (refine J_step rfl rfl ?_)
  exact w_loop hN hQ 10 0 A h2 121 n _ _ _ _ (by omega) (H.step S2) HA (by omega) ht (by omega) trivial (fun _ => trivial) (by omega) (by omega)
