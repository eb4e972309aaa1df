theorem rAt_mem {l : List Row} {j : Nat} (h : j < l.length) : rAt l j ∈ l := by rw [rAt_eq h]; exact List.getElem_mem h
theorem LI_row {q : LQ} {T κ : Nat} (H : LI q T κ) : ∃ cm t nb, (∀ j, j < q.2.2.1.length → RowOk cm t nb (rAt q.2.2.1 j)) ∧ cm ≤ κ ∧ κ ≤ 600 := by
  obtain ⟨t, c, ht, p, cm, ar, gn, mt, nb, en, jo, b, u, -, ⟨⟨a1, a2, a3, a4⟩, -⟩, ⟨-, hR, -⟩⟩ := H
  exact ⟨cm, t, nb, fun j hj => hR _ (rAt_mem hj), a3, a4⟩
theorem LI_cab {q : LQ} {T κ : Nat} (H : LI q T κ) : ∀ j, j < q.2.2.1.length → (rAt q.2.2.1 j).2.2.2.2.2.1 = -1 ∨ (rAt q.2.2.1 j).2.2.2.2.2.1 = 0 ∨ (rAt q.2.2.1 j).2.2.2.2.2.1 = 1 := by
  obtain ⟨cm, t, nb, hR, -⟩ := LI_row H
  intro j hj
  obtain ⟨n, w, a, b, ca, -, -, -, -, -, -, e7⟩ := hR j hj
  exact e7.imp id fun z => z.1
set_option maxRecDepth 100000 in
set_option maxHeartbeats 2000000 in
theorem m_does {h h1 : AHp} {v : Nat → Int32} {R : Nat → Nat → Int32} {q : LQ} {T κ k n : Nat} {x y z : Int32} (H : MdP h v R h1) (S : SI (R 0) q) (hI : LI q T κ) (hT : T + 240 ≤ 123000) (hn : n ≤ 28) (hk : k ≤ 5) (c0 : R 6 (4 * n) = chK k) (c1 : R 6 (4 * n + 1) = x) (c2 : R 6 (4 * n + 2) = y) (c3 : R 6 (4 * n + 3) = z) : JM mi_X6_does 6 0 0 [.ref 121, .int (nI (4 * n))] h1 (DP h v R q k x y z) := by
  have e0 := H.1.1
  have e7 := H.1.2.2.2.2.2.2.2
  refine JM_of gd_X6_does rfl (by decide +kernel) (Nat.le_of_ble_eq_true rfl) (oj_cats rfl) (by decide) ?_
  repeat (first | (refine J_step rfl rfl ?_) | (refine J_getf rfl rfl rfl (by assumption) rfl ?_))
  refine J_rs (4 * n + 1) rfl e7 (i4 n 1) (by omega) (by decide) c1 ?_
  repeat (first | (refine J_step rfl rfl ?_) | (refine J_getf rfl rfl rfl (by assumption) rfl ?_))
  refine J_rs (4 * n + 2) rfl e7 (i4 n 2) (by omega) (by decide) c2 ?_
  repeat (first | (refine J_step rfl rfl ?_) | (refine J_getf rfl rfl rfl (by assumption) rfl ?_))
  refine J_rs (4 * n) rfl e7 rfl (by omega) (by decide) c0 ?_
  match k, hk with
  | 0, _ =>
    refine J_lsw (tgt := 76) (off := 52) rfl (by decide) (by decide) (by decide) ?_
    repeat (first | (refine J_step rfl rfl ?_) | (refine J_getf rfl rfl rfl (by assumption) rfl ?_))
    refine J_rs (4 * n + 3) rfl e7 (i4 n 3) (by omega) (by decide) c3 ?_
    refine J_callV rfl rfl rfl rfl rfl e0 rfl rfl rfl rfl (m_adds (x := x) (y := y) (z := z) H S) (Nat.zero_le _) (Nat.zero_le _) (fun E h9 q => by obtain ⟨_, q, _⟩ := q; cases q) (fun v9 h2 q => ?_)
    have q0 := q
    obtain ⟨f', q1, -⟩ := q
    cases q1
    exact J_iret rfl rfl rfl rfl q0
  | 1, _ =>
    refine J_lsw (tgt := 91) (off := 67) rfl (by decide) (by decide) (by decide) ?_
    repeat (first | (refine J_step rfl rfl ?_) | (refine J_getf rfl rfl rfl (by assumption) rfl ?_))
    refine J_callV rfl rfl rfl rfl rfl e0 rfl rfl rfl rfl (m_removes (x := x) (y := y) (z := z) H S (LI_cab hI)) (Nat.zero_le _) (Nat.zero_le _) (fun E h9 q => by obtain ⟨_, q, _⟩ := q; cases q) (fun v9 h2 q => ?_)
    have q0 := q
    obtain ⟨f', q1, -⟩ := q
    cases q1
    exact J_iret rfl rfl rfl rfl q0
  | 2, _ =>
    refine J_lsw (tgt := 97) (off := 73) rfl (by decide) (by decide) (by decide) ?_
    repeat (first | (refine J_step rfl rfl ?_) | (refine J_getf rfl rfl rfl (by assumption) rfl ?_))
    refine J_callV rfl rfl rfl rfl rfl e0 rfl rfl rfl rfl (m_slopes (x := x) (y := y) (z := z) H S) (Nat.zero_le _) (Nat.zero_le _) (fun E h9 q => by obtain ⟨_, q, _⟩ := q; cases q) (fun v9 h2 q => ?_)
    have q0 := q
    obtain ⟨f', q1, -⟩ := q
    cases q1
    exact J_iret rfl rfl rfl rfl q0
  | 3, _ =>
    refine J_lsw (tgt := 104) (off := 80) rfl (by decide) (by decide) (by decide) ?_
    repeat (first | (refine J_step rfl rfl ?_) | (refine J_getf rfl rfl rfl (by assumption) rfl ?_))
    refine J_callV rfl rfl rfl rfl rfl e0 rfl rfl rfl rfl (m_turns (x := x) (y := y) (z := z) H S (LI.gU hI)) (Nat.zero_le _) (Nat.zero_le _) (fun E h9 q => by obtain ⟨_, q, _⟩ := q; cases q) (fun v9 h2 q => ?_)
    have q0 := q
    obtain ⟨f', q1, -⟩ := q
    cases q1
    exact J_iret rfl rfl rfl rfl q0
  | 4, _ =>
    refine J_lsw (tgt := 109) (off := 85) rfl (by decide) (by decide) (by decide) ?_
    repeat (first | (refine J_step rfl rfl ?_) | (refine J_getf rfl rfl rfl (by assumption) rfl ?_))
    refine J_callV rfl rfl rfl rfl rfl e0 rfl rfl rfl rfl (m_holds (x := x) (y := y) (z := z) H S) (Nat.zero_le _) (Nat.zero_le _) (fun E h9 q => by obtain ⟨_, q, _⟩ := q; cases q) (fun v9 h2 q => ?_)
    have q0 := q
    obtain ⟨f', q1, -⟩ := q
    cases q1
    exact J_iret rfl rfl rfl rfl q0
  | 5, _ =>
    refine J_lsw (tgt := 115) (off := 91) rfl (by decide) (by decide) (by decide) ?_
    repeat (first | (refine J_step rfl rfl ?_) | (refine J_getf rfl rfl rfl (by assumption) rfl ?_))
    refine J_callV rfl rfl rfl rfl rfl e0 rfl rfl rfl rfl (m_waits (x := x) (y := y) (z := z) H S hI hT) (Nat.zero_le _) (Nat.zero_le _) (fun E h9 q => by obtain ⟨_, q, _⟩ := q; cases q) (fun v9 h2 q => ?_)
    have q0 := q
    obtain ⟨f', q1, -⟩ := q
    cases q1
    exact J_iret rfl rfl rfl rfl q0
/-- what stays as the commands are done -/
def RB (v : Nat → Int32) (R : Nat → Nat → Int32) (A : AS) (n : Nat) (C : Nat → Int32) : Prop := SI (R 1) A.1 ∧ (v 0 = nI A.2.2.1.length ∧ A.2.2.1.length ≤ 8 ∧ PS (R 3) A.2.2.1) ∧ (v 5 = bI A.2.1.isSome ∧ ∀ q, A.2.1 = some q → SI (R 2) q) ∧ (v 6 = nI A.2.2.2.1.length ∧ A.2.2.2.1.length ≤ 80 ∧ ∀ j x, A.2.2.2.1[j]? = some x → R 4 j = x) ∧ v 7 = 0 ∧ v 2 = A.2.2.2.2.2.1 ∧ v 3 = A.2.2.2.2.2.2 ∧ v 9 = nI n ∧ R 6 = C
def rnC (A : AS) : Int32 := if (rdP A.2.2.2.2.1).1 = true then (if (ffL (rdP A.2.2.2.2.1).2.2 A.1 0).1 = -1 then 0 else 2) else 1
def rnV (A : AS) : Int32 := if (rdP A.2.2.2.2.1).1 = true then (if (ffL (rdP A.2.2.2.2.1).2.2 A.1 0).1 = -1 then nI (rdP A.2.2.2.2.1).2.2.length else 0) else 0
theorem ffL_ne : ∀ (cs : List CMD) (q : LQ) (i : Nat), i + cs.length ≤ 20 → (ffL cs q i).1 = -1 ∨ ∃ j, j ≤ 20 ∧ (ffL cs q i).1 = nI j
  | [], q, i, _ => Or.inl rfl
  | c :: cs, q, i, h => by
    rw [List.length_cons] at h
    unfold ffL
    split
    · exact ffL_ne cs _ _ (by omega)
    · exact Or.inr ⟨i, by omega, rfl⟩
theorem rCd0 {k : Nat} : rCd k 0 = 0 := by
  unfold rCd
  split <;> rfl
set_option maxRecDepth 100000 in
set_option maxHeartbeats 2000000 in
theorem m_run {h : AHp} {v : Nat → Int32} {R : Nat → Nat → Int32} {A : AS} {T κ : Nat} (H : MdAt h v R) (HS : RS v R A) (hI : LI A.1 T κ) (hT : (rdP A.2.2.2.2.1).1 = true → T + 240 * (rdP A.2.2.2.2.1).2.2.length ≤ 123000 ∧ κ + (rdP A.2.2.2.2.1).2.2.length ≤ 600) : JM mi_X6_run 9 0 0 [.ref 121] h (fun r h' => r = .inl (some (.int (rnV A))) ∧ RP h (asRun A).2 (rnC A) h') := by
  obtain ⟨S, w0, w5, w6, w7, w2, w3⟩ := id HS
  have e0 := H.1
  have F : TF v R A.2.2.2.2.1 := w7
  -- as it stands, its position and number of commands are some numbers
  have h12 := rdP_len w7.2.1
  have hP0 := m_isProgramA F H
  refine JM_of gd_X6_run rfl (by decide +kernel) (Nat.le_of_ble_eq_true rfl) (oj_cats rfl) (by decide) ?_
  repeat (first | (refine J_step rfl rfl ?_) | (refine J_getf rfl rfl rfl (by assumption) rfl ?_))
  refine J_callV rfl rfl rfl rfl rfl e0 rfl rfl rfl rfl hP0 (Nat.zero_le _) (Nat.zero_le _) (fun E h9 q => by cases q.1) (fun v9 h1 q => ?_)
  obtain ⟨q1, m', C', H1, V1⟩ := q
  cases q1
  clear e0
  have e0 := H1.1.1
  generalize hPr : rdP A.2.2.2.2.1 = P at *
  repeat (first | (refine J_step rfl rfl ?_) | (refine J_getf rfl rfl rfl (by assumption) rfl ?_))
  refine J_putf rfl rfl rfl e0 rfl rfl (fun _ => rfl) rfl rfl ?_
  have H2 := MdP.trans H1 (H1.1.fld (v' := fset (fset (fset v 8 (nI P.2.1)) 9 (nI m')) 7 0))
  refine J_heap (h2 := oj_up h1 121 (rO (fset (fset (fset v 8 (nI P.2.1)) 9 (nI m')) 7 0))) rfl ?_
  generalize oj_up h1 121 (rO (fset (fset (fset v 8 (nI P.2.1)) 9 (nI m')) 7 0)) = h2 at H2 ⊢
  clear e0
  have e0 := H2.1.1
  by_cases hok : P.1 = true
  · obtain ⟨hm', hC'⟩ := V1 hok
    obtain ⟨hT, hκ⟩ := hT hok
    rw [hok]
    repeat (first | (refine J_step rfl rfl ?_) | (refine J_getf rfl rfl rfl (by assumption) rfl ?_))
    refine J_if (y := 0) rfl (fun _ => ?_) (fun hq => absurd (show ¬ bI true = 0 by decide) hq)
    repeat (first | (refine J_step rfl rfl ?_) | (refine J_getf rfl rfl rfl (by assumption) rfl ?_))
    refine J_callV rfl rfl rfl rfl rfl e0 rfl rfl rfl rfl (m_thrF (d := 0) H2) (Nat.zero_le _) (Nat.zero_le _) (fun E h9 q => by cases q.1) (fun v9 h3 q => ?_)
    obtain ⟨q1, H3⟩ := q
    cases q1
    clear e0
    have e0 := H3.1.1
    refine J_if (y := 0) rfl (fun _ => ?_) (fun hq => absurd rfl hq)
    repeat (first | (refine J_step rfl rfl ?_) | (refine J_getf rfl rfl rfl (by assumption) rfl ?_))
    refine J_callV rfl rfl rfl rfl rfl e0 rfl rfl rfl rfl (m_keeps H3) (Nat.zero_le _) (Nat.zero_le _) (fun E h9 q => by cases q.1) (fun v9 h4 q => ?_)
    obtain ⟨q1, H4⟩ := q
    cases q1
    rw [fset2] at H4
    have hA : (asRun A) = (if (ffL P.2.2 A.1 0).1 = -1 then (.inl (some (.int (nI P.2.2.length))), ((ffL P.2.2 A.1 0).2, A.2.1, (A.1 :: A.2.2.1).take 8, A.2.2.2.1, [], A.2.2.2.2.2)) else (.inr "java/lang/UnsupportedOperationException", (A.1, A.2.1, A.2.2.1, A.2.2.2.1, [], A.2.2.2.2.2.1, (ffL P.2.2 A.1 0).1))) := by unfold asRun; rw [hPr, if_pos hok]
    have hV : rnV A = if (ffL P.2.2 A.1 0).1 = -1 then nI P.2.2.length else 0 := by unfold rnV; rw [hPr, if_pos hok]
    have hCc : rnC A = if (ffL P.2.2 A.1 0).1 = -1 then 0 else 2 := by unfold rnC; rw [hPr, if_pos hok]
    rw [hA, hV, hCc]
    have hlen12 : P.2.2.length ≤ 12 := h12
    have loop : ∀ cs' k (q : LQ) (v : Nat → Int32) (R : Nat → Nat → Int32) (h5 : AHp), P.2.2.drop k = cs' → k ≤ P.2.2.length → RB v R A P.2.2.length C' → v 1 = 0 → SI (R 0) q → LI q (T + 240 * k) (κ + k) → MdP h v R h5 → ∀ r, ffL cs' q k = r → J mi_X6_run 9 0 0 (fun r' h' => r' = .inl (some (.int (if r.1 = -1 then nI P.2.2.length else 0))) ∧ RP h (if r.1 = -1 then ((.inl (some (.int (nI P.2.2.length))), (r.2, A.2.1, (A.1 :: A.2.2.1).take 8, A.2.2.2.1, [], A.2.2.2.2.2)) : (Option Value ⊕ String) × AS) else (.inr "java/lang/UnsupportedOperationException", (A.1, A.2.1, A.2.2.1, A.2.2.2.1, [], A.2.2.2.2.2.1, r.1))).2 (if r.1 = -1 then 0 else 2) h') 0 0 43 [some (.ref 121), some (.int (bI true)), some (.int (nI k))] [] h5 := by
      intro cs'
      induction cs' with
      | nil =>
        intro k q v R h5 hd hk hB hv1 S hI H5 r hr
        obtain ⟨b1, ⟨b0, b8, bP⟩, b5, b6, b7, b2, b3, b9, bC⟩ := hB
        have hk2 : k = P.2.2.length := by
          have := List.drop_eq_nil_iff.mp hd
          omega
        subst hk2
        have g0 := H5.1.1
        subst hr
        have hz : (ffL [] q P.2.2.length).1 = -1 := rfl
        rw [if_pos hz, if_pos hz, if_pos hz]
        repeat (first | (refine J_step rfl rfl ?_) | (refine J_getf rfl rfl rfl (by assumption) rfl ?_))
        rw [b9]
        refine J_ic rfl (fun _ => ?_) (fun hq => absurd (Int32.le_refl _) hq)
        repeat (first | (refine J_step rfl rfl ?_) | (refine J_getf rfl rfl rfl (by assumption) rfl ?_))
        rw [b9]
        refine J_callV rfl rfl rfl rfl rfl g0 rfl rfl rfl rfl (m_ends H5 hv1 b0 b8 bP b1) (Nat.zero_le _) (Nat.zero_le _) (fun E h9 q => by cases q.1) (fun v9 h6 q => ?_)
        obtain ⟨q1, g', H6, P6⟩ := q
        cases q1
        refine J_iret rfl rfl rfl rfl ⟨rfl, ?_⟩
        exact ⟨_, _, H6, ⟨S, ⟨rfl, by rw [List.length_take]; exact Nat.min_le_left _ _, P6⟩, b5, b6, ⟨b7, Nat.zero_le _, fun j x hx => by cases hx⟩, b2, b3⟩, hv1⟩
      | cons c cs' ih =>
        intro k q v R h5 hd hk hB hv1 S hI H5 r hr
        have hB0 := hB
        obtain ⟨b1, ⟨b0, b8, bP⟩, b5, b6, b7, b2, b3, b9, bC⟩ := hB
        have hlt : k < P.2.2.length := by
          rcases Nat.lt_or_ge k P.2.2.length with z | z
          · exact z
          · rw [List.drop_eq_nil_of_le z] at hd; cases hd
        have hc : P.2.2[k]? = some c := by
          rw [List.drop_eq_getElem_cons hlt] at hd
          rw [List.getElem?_eq_getElem hlt]
          cases hd
          rfl
        have hd2 : P.2.2.drop (k + 1) = cs' := by
          rw [List.drop_eq_getElem_cons hlt] at hd
          cases hd
          rfl
        obtain ⟨k1, k2, k3⟩ := hC' k c hc
        rw [← bC] at k1 k2
        have hIk := hI
        rw [ffL, ← sF_nc k2, ← apD_nc k2] at hr
        have g0 := H5.1.1
        repeat (first | (refine J_step rfl rfl ?_) | (refine J_getf rfl rfl rfl (by assumption) rfl ?_))
        rw [b9]
        refine J_ic rfl (fun hq => absurd hq (nI_ge hlt (by omega))) (fun _ => ?_)
        repeat (first | (refine J_step rfl rfl ?_) | (refine J_getf rfl rfl rfl (by assumption) rfl ?_))
        refine J_putf rfl rfl rfl g0 rfl rfl (fun _ => rfl) rfl rfl ?_
        have H6 := H5.trans (H5.1.fld (v' := fset v 1 0))
        refine J_heap (h2 := oj_up h5 121 (rO (fset v 1 0))) rfl ?_
        generalize oj_up h5 121 (rO (fset v 1 0)) = h6 at H6 ⊢
        clear g0
        have g0 := H6.1.1
        have hx4 : 4 * nI k = nI (4 * k) := nI_mul 4 k
        repeat (first | (refine J_step rfl rfl ?_) | (refine J_getf rfl rfl rfl (by assumption) rfl ?_))
        rw [hx4]
        refine J_callV rfl rfl rfl rfl rfl g0 rfl rfl rfl rfl (m_does (k := c.1) (n := k) H6 S hI (by omega) (by omega) k3 k1 rfl rfl rfl) (Nat.zero_le _) (Nat.zero_le _) (fun E h9 q => by obtain ⟨_, q, _⟩ := q; cases q) (fun v9 h7 q => ?_)
        obtain ⟨f', q1, H7, S7⟩ := q
        cases q1
        rw [fset2] at H7
        generalize (if sFault q.2.1 q.2.2.1 c.1 (R 6 (4 * k + 1)) (R 6 (4 * k + 2)) (R 6 (4 * k + 3)) = 0 then rVal q c.1 (R 6 (4 * k + 1)) (R 6 (4 * k + 2)) (R 6 (4 * k + 3)) else 0) = val
        clear g0
        have g0 := H7.1.1
        refine J_putf rfl rfl rfl g0 rfl rfl (fun _ => rfl) rfl rfl ?_
        have H8 := H7.trans (H7.1.fld (v' := fset (fset v 1 (rCd c.1 (sFault q.2.1 q.2.2.1 c.1 (R 6 (4 * k + 1)) (R 6 (4 * k + 2)) (R 6 (4 * k + 3))))) 4 val))
        refine J_heap (h2 := oj_up h7 121 (rO (fset (fset v 1 (rCd c.1 (sFault q.2.1 q.2.2.1 c.1 (R 6 (4 * k + 1)) (R 6 (4 * k + 2)) (R 6 (4 * k + 3))))) 4 val))) rfl ?_
        generalize oj_up h7 121 (rO (fset (fset v 1 (rCd c.1 (sFault q.2.1 q.2.2.1 c.1 (R 6 (4 * k + 1)) (R 6 (4 * k + 2)) (R 6 (4 * k + 3))))) 4 val)) = h8 at H8 ⊢
        clear g0
        have g0 := H8.1.1
        have hth : fset (fset v 1 (rCd c.1 (sFault q.2.1 q.2.2.1 c.1 (R 6 (4 * k + 1)) (R 6 (4 * k + 2)) (R 6 (4 * k + 3))))) 4 val 1 = rCd c.1 (sFault q.2.1 q.2.2.1 c.1 (R 6 (4 * k + 1)) (R 6 (4 * k + 2)) (R 6 (4 * k + 3))) := rfl
        repeat (first | (refine J_step rfl rfl ?_) | (refine J_getf rfl rfl rfl (by assumption) rfl ?_))
        rw [hth]
        by_cases hf : sFault q.2.1 q.2.2.1 c.1 (R 6 (4 * k + 1)) (R 6 (4 * k + 2)) (R 6 (4 * k + 3)) = 0
        · rw [if_pos hf] at hr S7
          rw [hf, rCd0] at H8 ⊢
          refine J_if (y := 0) rfl (fun _ => ?_) (fun hq => absurd rfl hq)
          have hI2 := LI_apD hI hf k3 (by omega) (by omega)
          rw [show T + 240 * k + 240 = T + 240 * (k + 1) by omega, show κ + k + 1 = κ + (k + 1) by omega] at hI2
          have hs := ih (k + 1) (apD q c.1 (R 6 (4 * k + 1)) (R 6 (4 * k + 2)) (R 6 (4 * k + 3))).2 (fset (fset v 1 0) 4 val) (aset R 0 f') h8 hd2 (by omega) hB0 rfl S7 hI2 H8 r hr
          rw [nI_succ] at hs
          iterate 2 (first | (refine J_step rfl rfl ?_) | (refine J_getf rfl rfl rfl (by assumption) rfl ?_))
          exact hs
        · rw [if_neg hf] at hr S7
          subst hr
          have hne : ¬ nI k = -1 := nI_neg1 (by omega)
          rw [if_neg hne, if_neg hne, if_neg hne]
          refine J_if (y := 0) rfl (fun hq => absurd hq (rCd_ne (by omega) hf)) (fun _ => ?_)
          generalize rCd c.1 (sFault q.2.1 q.2.2.1 c.1 (R 6 (4 * k + 1)) (R 6 (4 * k + 2)) (R 6 (4 * k + 3))) = code at H8
          have g1 := H8.1.2.1
          have g2 := H8.1.2.2.1
          rw [aset_at] at g1
          rw [aset_ne (by decide)] at g2
          repeat (first | (refine J_step rfl rfl ?_) | (refine J_getf rfl rfl rfl (by assumption) rfl ?_))
          refine J_cS rfl rfl rfl rfl rfl rfl rfl rfl rfl rfl rfl (m_copies (d := 0) (p := 0) (r := 0) g2 g1 (by decide) (by decide) (by decide) (by decide) (Or.inl (by decide))) ?_
          have H9 := H8.trans (H8.1.arr (i := 0) (by decide) (f := cpy (R 1) 0 f' 0 160))
          rw [aset_aset] at H9
          refine J_heap (h2 := oj_up h8 (122 + 0) (.inl (0, aN 0, .inl (cpy (R 1) 0 f' 0 160)))) rfl ?_
          generalize oj_up h8 (122 + 0) (.inl (0, aN 0, .inl (cpy (R 1) 0 f' 0 160))) = h9 at H9 ⊢
          clear g0
          have g0 := H9.1.1
          repeat (first | (refine J_step rfl rfl ?_) | (refine J_getf rfl rfl rfl (by assumption) rfl ?_))
          refine J_putf rfl rfl rfl g0 rfl rfl (fun _ => rfl) rfl rfl ?_
          have H10 := H9.trans (H9.1.fld (v' := fset (fset (fset v 1 code) 4 val) 3 (nI k)))
          refine J_heap (h2 := oj_up h9 121 (rO (fset (fset (fset v 1 code) 4 val) 3 (nI k)))) rfl ?_
          generalize oj_up h9 121 (rO (fset (fset (fset v 1 code) 4 val) 3 (nI k))) = h10 at H10 ⊢
          clear g0
          have g0 := H10.1.1
          repeat (first | (refine J_step rfl rfl ?_) | (refine J_getf rfl rfl rfl (by assumption) rfl ?_))
          refine J_putf rfl rfl rfl g0 rfl rfl (fun _ => rfl) rfl rfl ?_
          have H11 := H10.trans (H10.1.fld (v' := fset (fset (fset (fset v 1 code) 4 val) 3 (nI k)) 1 2))
          repeat (first | (refine J_step rfl rfl ?_) | (refine J_getf rfl rfl rfl (by assumption) rfl ?_))
          refine J_iret rfl rfl rfl rfl ⟨rfl, _, _, H11, ⟨?_, ⟨b0, b8, bP⟩, b5, b6, ⟨b7, Nat.zero_le _, fun j x hx => by cases hx⟩, b2, rfl⟩, rfl⟩
          rw [aset_at]
          exact SI_cong (fun i hi => by have := cpy_at (f := R 1) (p := 0) (g := f') (r := 0) (n := 160) hi; rw [Nat.zero_add] at this; exact this) b1
    iterate 2 (first | (refine J_step rfl rfl ?_) | (refine J_getf rfl rfl rfl (by assumption) rfl ?_))
    refine loop P.2.2 0 A.1 _ (aset (aset R 6 C') 1 (cpy (aset R 6 C' 0) 0 (aset R 6 C' 1) 0 160)) h4 rfl (Nat.zero_le _) ?_ rfl (by rw [aset_ne (by decide), aset_ne (by decide)]; exact S) hI H4 _ rfl
    refine ⟨?_, w0, w5, w6, rfl, w2, w3, by rw [← hm']; rfl, rfl⟩
    rw [aset_at]
    exact SI_cong (fun i hi => by have := cpy_at (f := aset R 6 C' 0) (p := 0) (g := aset R 6 C' 1) (r := 0) (n := 160) hi; rw [Nat.zero_add] at this; exact this) S
  · have hok : P.1 = false := by simpa using hok
    have hA : (asRun A) = (.inr "java/lang/IllegalArgumentException", (A.1, A.2.1, A.2.2.1, A.2.2.2.1, [], nI P.2.1, A.2.2.2.2.2.2)) := by unfold asRun; rw [hPr, if_neg (by rw [hok]; decide)]
    have hV : rnV A = 0 := by unfold rnV; rw [hPr, if_neg (by rw [hok]; decide)]
    have hCc : rnC A = 1 := by unfold rnC; rw [hPr, if_neg (by rw [hok]; decide)]
    rw [hA, hV, hCc, hok]
    repeat (first | (refine J_step rfl rfl ?_) | (refine J_getf rfl rfl rfl (by assumption) rfl ?_))
    refine J_if (y := 0) rfl (fun hq => absurd rfl hq) (fun _ => ?_)
    repeat (first | (refine J_step rfl rfl ?_) | (refine J_getf rfl rfl rfl (by assumption) rfl ?_))
    refine J_callV rfl rfl rfl rfl rfl e0 rfl rfl rfl rfl (m_thrT (d := 0) H2) (Nat.zero_le _) (Nat.zero_le _) (fun E h9 q => by cases q.1) (fun v9 h3 q => ?_)
    obtain ⟨q1, H3⟩ := q
    cases q1
    clear e0
    have e0 := H3.1.1
    refine J_if (y := 0) rfl (fun hq => absurd hq (show ¬ (1 : Int32) = 0 by decide)) (fun _ => ?_)
    repeat (first | (refine J_step rfl rfl ?_) | (refine J_getf rfl rfl rfl (by assumption) rfl ?_))
    refine J_putf rfl rfl rfl e0 rfl rfl (fun _ => rfl) rfl rfl ?_
    have H4 := H3.trans (H3.1.fld (v' := fset (fset (fset (fset (fset v 8 (nI P.2.1)) 9 (nI m')) 7 0) 1 1) 2 (nI P.2.1)))
    repeat (first | (refine J_step rfl rfl ?_) | (refine J_getf rfl rfl rfl (by assumption) rfl ?_))
    exact J_iret rfl rfl rfl rfl ⟨rfl, _, _, H4, ⟨S, w0, w5, w6, ⟨rfl, Nat.zero_le _, fun j x hx => by cases hx⟩, rfl, w3⟩, rfl⟩
