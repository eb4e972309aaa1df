/-- the reference's output holds w -/
def OP (h : AHp) (v : Nat → Int32) (R : Nat → Nat → Int32) (w : List Int32) (h' : AHp) : Prop := ∃ g : Nat → Int32, MdP h (fset v 6 (nI w.length)) (aset R 4 g) h' ∧ w.length ≤ 80 ∧ ∀ j x, w[j]? = some x → g j = x
theorem app_at {w : List Int32} {c x : Int32} {g : Nat → Int32} {j : Nat} (hg : ∀ j x, w[j]? = some x → g j = x) (hx : (w ++ [c])[j]? = some x) : upd g w.length c j = x := by
  unfold upd
  by_cases z : j = w.length
  · rw [if_pos z]
    rw [z, List.getElem?_append_right (Nat.le_refl _)] at hx
    simpa using hx
  · rw [if_neg z]
    refine hg j x ?_
    have hj : j < w.length := by
      have h1 := (List.getElem?_eq_some_iff.mp hx).1
      rw [List.length_append] at h1
      have h1 : j < w.length + 1 := h1
      omega
    rw [List.getElem?_append_left hj] at hx
    exact hx
set_option maxRecDepth 100000 in
set_option maxHeartbeats 2000000 in
theorem m_puts {d : Nat} {h h1 : AHp} {v : Nat → Int32} {R : Nat → Nat → Int32} {w : List Int32} {c : Int32} (H : OP h v R w h1) (hl : w.length < 80) : JM mi_X6_puts d 0 0 [.ref 121, .int c] h1 (fun r h' => r = .inl none ∧ OP h v R (w ++ [c]) h') := by
  obtain ⟨g, K, -, hg⟩ := H
  have e0 := K.1.1
  have e5 := K.1.2.2.2.2.2.1
  rw [aset_at] at e5
  have hlen : (w ++ [c]).length = w.length + 1 := by rw [List.length_append]; rfl
  have hv6 : fset v 6 (nI w.length) 6 = nI w.length := rfl
  refine JM_of gd_X6_puts rfl (by decide +kernel) (Nat.le_of_ble_eq_true rfl) (oj_cats rfl) (by decide) ?_
  repeat (first | (refine J_step rfl rfl ?_) | (refine J_getf rfl rfl rfl (by assumption) rfl ?_))
  rw [hv6]
  refine J_ws w.length rfl e5 rfl hl (by decide) ?_
  have K1 := K.trans (K.1.arr (i := 4) (by decide) (f := upd g w.length c))
  rw [aset_aset] at K1
  refine J_heap (h2 := oj_up h1 (122 + 4) (.inl (0, aN 4, .inl (upd g w.length c)))) rfl ?_
  generalize oj_up h1 (122 + 4) (.inl (0, aN 4, .inl (upd g w.length c))) = k1 at K1 ⊢
  clear e0
  have e0 := K1.1.1
  repeat (first | (refine J_step rfl rfl ?_) | (refine J_getf rfl rfl rfl (by assumption) rfl ?_))
  rw [hv6]
  refine J_putf rfl rfl rfl e0 rfl rfl (fun _ => rfl) rfl rfl ?_
  have K2 := K1.trans (K1.1.fld (v' := fset v 6 (nI w.length + 1)))
  repeat (first | (refine J_step rfl rfl ?_) | (refine J_getf rfl rfl rfl (by assumption) rfl ?_))
  refine J_vret rfl rfl rfl rfl ⟨rfl, _, ?_, by omega, fun j x hx => app_at hg hx⟩
  rw [hlen, nI_succ]
  exact K2
theorem dg_10 : ∀ k, k < 1000 → nI k / 10 = nI (k / 10) ∧ 48 + (nI k - nI k / 10 * 10) = nI (48 + k % 10) := by decide +kernel
theorem dgt_10 : ∀ k, k < 1000 → dgt k = (if 10 ≤ k then dgt (k / 10) else []) ++ [nI (48 + k % 10)] := by decide +kernel
set_option maxRecDepth 100000 in
set_option maxHeartbeats 2000000 in
theorem m_number : ∀ (d : Nat) {h h1 : AHp} {v : Nat → Int32} {R : Nat → Nat → Int32} {w : List Int32} {k : Nat}, OP h v R w h1 → k < 1000 → k < 10 ^ (d + 1) → w.length + 3 ≤ 80 → JM mi_X6_number (d + 1) 0 0 [.ref 121, .int (nI k)] h1 (fun r h' => r = .inl none ∧ OP h v R (w ++ dgt k) h')
  | d, h, h1, v, R, w, k, H, hk, hkd, hl => by
    obtain ⟨d1, d2⟩ := dg_10 k hk
    have e0 : ∃ fs, h1 121 = .inr (6, fs) := by obtain ⟨g, K, -⟩ := H; exact ⟨_, K.1.1⟩
    obtain ⟨fs, e0⟩ := e0
    have hdl := dgt_len k
    have fin : ∀ (w2 : List Int32) h2, OP h v R w2 h2 → w2 ++ [nI (48 + k % 10)] = w ++ dgt k → J mi_X6_number (d + 1) 0 0 (fun r h' => r = .inl none ∧ OP h v R (w ++ dgt k) h') 0 0 14 [some (.ref 121), some (.int (nI k))] [] h2 := by
      intro w2 h2 H2 hw
      have g0 : ∃ fs, h2 121 = .inr (6, fs) := by obtain ⟨g, K, -⟩ := H2; exact ⟨_, K.1.1⟩
      obtain ⟨fs, g0⟩ := g0
      have hw2 : w2.length + 1 = w.length + (dgt k).length := by have := congrArg List.length hw; rw [List.length_append, List.length_append] at this; exact this
      repeat (first | (refine J_step rfl rfl ?_) | (refine J_getf rfl rfl rfl (by assumption) rfl ?_))
      refine J_irem rfl (by decide) ?_
      repeat (first | (refine J_step rfl rfl ?_) | (refine J_getf rfl rfl rfl (by assumption) rfl ?_))
      rw [d2]
      refine J_callV rfl rfl rfl rfl rfl g0 rfl rfl rfl rfl (m_puts (d := 0) H2 (by omega)) (Nat.zero_le _) (Nat.zero_le _) (fun E h9 q => by cases q.1) (fun v9 h5 q => ?_)
      obtain ⟨q1, H5⟩ := q
      cases q1
      rw [hw] at H5
      exact J_vret rfl rfl rfl rfl ⟨rfl, H5⟩
    have hdg := dgt_10 k hk
    refine JM_of gd_X6_number rfl (by decide +kernel) (Nat.le_of_ble_eq_true rfl) (oj_cats rfl) (by decide) ?_
    repeat (first | (refine J_step rfl rfl ?_) | (refine J_getf rfl rfl rfl (by assumption) rfl ?_))
    refine J_ic rfl (fun hq => ?_) (fun hq => ?_)
    · have h10 : ¬ 10 ≤ k := fun z => absurd (show nI k < nI 10 from hq) (nI_nlt z (by omega))
      refine fin w h1 H ?_
      rw [hdg, if_neg h10, List.nil_append]
    · have h10 : 10 ≤ k := by
        rcases Nat.lt_or_ge k 10 with z | z
        · exact absurd (show nI k < nI 10 from nI_lt z (by omega)) hq
        · exact z
      cases d with
      | zero => exact absurd hkd (by omega)
      | succ d =>
        have hk2 : k / 10 < 10 ^ (d + 1) := by rw [Nat.pow_succ] at hkd; omega
        have hrec := m_number d H (k := k / 10) (by omega) hk2 hl
        repeat (first | (refine J_step rfl rfl ?_) | (refine J_getf rfl rfl rfl (by assumption) rfl ?_))
        refine J_idiv rfl (by decide) ?_
        rw [d1]
        refine J_callV rfl rfl rfl rfl rfl e0 rfl rfl (Nat.ble_eq.mpr (Nat.le_refl _)) rfl hrec (Nat.zero_le _) (Nat.zero_le _) (fun E h9 q => by cases q.1) (fun v9 h5 q => ?_)
        obtain ⟨q1, H5⟩ := q
        cases q1
        refine fin _ h5 H5 ?_
        rw [hdg, if_pos h10, List.append_assoc]
set_option maxRecDepth 100000 in
set_option maxHeartbeats 2000000 in
theorem m_numN {h h1 : AHp} {v : Nat → Int32} {R : Nat → Nat → Int32} {w : List Int32} {x : Int32} (H : OP h v R w h1) (hx : ∃ k, k < 1000 ∧ x = nI k) (hl : w.length + 3 ≤ 80) : JM mi_X6_number 3 0 0 [.ref 121, .int x] h1 (fun r h' => r = .inl none ∧ OP h v R (w ++ dI x) h') := by
  obtain ⟨k, hk, rfl⟩ := hx
  rw [dI_nI hk]
  exact m_number 2 H hk hk hl
theorem OP.obj {h h1 : AHp} {v : Nat → Int32} {R : Nat → Nat → Int32} {w : List Int32} (H : OP h v R w h1) : h1 121 = rO (fset v 6 (nI w.length)) := by obtain ⟨g, K, -⟩ := H; exact K.1.1
theorem OP.md {h h1 : AHp} {v : Nat → Int32} {R : Nat → Nat → Int32} {w : List Int32} (H : OP h v R w h1) : ∃ g, MdAt h1 (fset v 6 (nI w.length)) (aset R 4 g) := by obtain ⟨g, K, -⟩ := H; exact ⟨g, K.1⟩
theorem RS_out {v : Nat → Int32} {R : Nat → Nat → Int32} {A : AS} {h h' : AHp} {w : List Int32} {c : Int32} (HS : RS v R A) (H : OP h (fset v 1 c) R w h') : RP h (A.1, A.2.1, A.2.2.1, w, A.2.2.2.2) c h' := by
  obtain ⟨S, ⟨hv0, h8, hP⟩, w5, w6, w7, w2, w3⟩ := HS
  obtain ⟨g, K, hl, hg⟩ := H
  exact ⟨_, _, K, ⟨S, ⟨hv0, h8, hP⟩, w5, ⟨rfl, hl, hg⟩, w7, w2, w3⟩, rfl⟩
set_option maxRecDepth 100000 in
set_option maxHeartbeats 2000000 in
theorem m_writeStations {h : AHp} {v : Nat → Int32} {R : Nat → Nat → Int32} {A : AS} (H : MdAt h v R) (HS : RS v R A) (hs : ∀ j, j < 6 → ∃ k, k < 1000 ∧ A.1.1 j = nI k) : JM mi_X6_writeStations 5 0 0 [.ref 121] h (fun r h' => r = .inl (some (.int (nI (outSt A.1.1 A.1.2.2.1 6).length))) ∧ RP h (A.1, A.2.1, A.2.2.1, outSt A.1.1 A.1.2.2.1 6, A.2.2.2.2) 0 h') := by
  have S := HS.1
  have hl20 := S.2.2.2.2
  have e0 := H.1
  have hw : ∀ s, ∃ k, k < 1000 ∧ nI (crWtg A.1.2.2.1 s) = nI k := fun s => ⟨_, by have := crWtg_le (l := A.1.2.2.1) (s := s); omega, rfl⟩
  refine JM_of gd_X6_writeStations rfl (by decide +kernel) (Nat.le_of_ble_eq_true rfl) (oj_cats rfl) (by decide) ?_
  repeat (first | (refine J_step rfl rfl ?_) | (refine J_getf rfl rfl rfl (by assumption) rfl ?_))
  refine J_putf rfl rfl rfl e0 rfl rfl (fun _ => rfl) rfl rfl ?_
  have H1 := H.fld (v' := fset v 1 0)
  refine J_heap (h2 := oj_up h 121 (rO (fset v 1 0))) rfl ?_
  generalize oj_up h 121 (rO (fset v 1 0)) = h1 at H1 ⊢
  clear e0
  have e0 := H1.1.1
  repeat (first | (refine J_step rfl rfl ?_) | (refine J_getf rfl rfl rfl (by assumption) rfl ?_))
  refine J_putf rfl rfl rfl e0 rfl rfl (fun _ => rfl) rfl rfl ?_
  have H2 := H1.trans (H1.1.fld (v' := fset (fset v 1 0) 6 0))
  refine J_heap (h2 := oj_up h1 121 (rO (fset (fset v 1 0) 6 0))) rfl ?_
  generalize oj_up h1 121 (rO (fset (fset v 1 0) 6 0)) = h2 at H2 ⊢
  clear e0
  have O2 : OP h (fset v 1 0) R [] h2 := ⟨R 4, by rw [aset_self]; exact H2, Nat.zero_le _, fun j x hx => by cases hx⟩
  -- the number behind the marks
  have num : ∀ j (w : List Int32) h3, j < 7 → w.length + 3 ≤ 80 → OP h (fset v 1 0) R w h3 → (∀ h4, OP h (fset v 1 0) R (w ++ dI (nI (crWtg A.1.2.2.1 (nI j)))) h4 → J mi_X6_writeStations 5 0 0 (fun r h' => r = .inl (some (.int (nI (outSt A.1.1 A.1.2.2.1 6).length))) ∧ RP h (A.1, A.2.1, A.2.2.1, outSt A.1.1 A.1.2.2.1 6, A.2.2.2.2) 0 h') 0 0 12 [some (.ref 121), some (.int (nI (j + 1)))] [] h4) → J mi_X6_writeStations 5 0 0 (fun r h' => r = .inl (some (.int (nI (outSt A.1.1 A.1.2.2.1 6).length))) ∧ RP h (A.1, A.2.1, A.2.2.1, outSt A.1.1 A.1.2.2.1 6, A.2.2.2.2) 0 h') 0 0 49 [some (.ref 121), some (.int (nI j))] [] h3 := by
    intro j w h3 hj hl O kk
    have g0 := O.obj
    obtain ⟨g, M⟩ := O.md
    have SM : SI ((aset R 4 g) 0) A.1 := by rw [aset_ne (by decide)]; exact S
    repeat (first | (refine J_step rfl rfl ?_) | (refine J_getf rfl rfl rfl (by assumption) rfl ?_))
    refine J_cV rfl rfl rfl rfl rfl (by assumption) rfl rfl rfl rfl rfl rfl (m_many M SM) ?_
    refine J_callV rfl rfl rfl rfl rfl g0 rfl rfl rfl rfl (m_numN O (hw _) hl) (Nat.zero_le _) (Nat.zero_le _) (fun E h9 q => by cases q.1) (fun v9 h5 q => ?_)
    obtain ⟨q1, O5⟩ := q
    cases q1
    have hs2 := kk h5 O5
    rw [nI_succ] at hs2
    iterate 2 (first | (refine J_step rfl rfl ?_) | (refine J_getf rfl rfl rfl (by assumption) rfl ?_))
    exact hs2
  have loop : ∀ m j h3, m + j = 6 → OP h (fset v 1 0) R (outSt A.1.1 A.1.2.2.1 j) h3 → J mi_X6_writeStations 5 0 0 (fun r h' => r = .inl (some (.int (nI (outSt A.1.1 A.1.2.2.1 6).length))) ∧ RP h (A.1, A.2.1, A.2.2.1, outSt A.1.1 A.1.2.2.1 6, A.2.2.2.2) 0 h') 0 0 12 [some (.ref 121), some (.int (nI (j + 1)))] [] h3 := by
    intro m
    induction m with
    | zero =>
      intro j h3 hj O3
      obtain rfl : j = 6 := by omega
      have g0 := O3.obj
      repeat (first | (refine J_step rfl rfl ?_) | (refine J_getf rfl rfl rfl (by assumption) rfl ?_))
      refine J_ic rfl (fun _ => ?_) (fun hz => absurd (oj_ccT (by decide)) hz)
      repeat (first | (refine J_step rfl rfl ?_) | (refine J_getf rfl rfl rfl (by assumption) rfl ?_))
      exact J_iret rfl rfl rfl rfl ⟨rfl, RS_out HS O3⟩
    | succ m ih =>
      intro j h3 hj O3
      have hlen := outSt_len A.1.1 A.1.2.2.1 j
      have ha1 := dI_len (A.1.1 j)
      have g0 := O3.obj
      repeat (first | (refine J_step rfl rfl ?_) | (refine J_getf rfl rfl rfl (by assumption) rfl ?_))
      refine J_ic rfl (fun hq => absurd (show nI 7 ≤ nI (j + 1) from hq) (nI_ge (by omega) (by omega))) (fun hq => ?_)
      repeat (first | (refine J_step rfl rfl ?_) | (refine J_getf rfl rfl rfl (by assumption) rfl ?_))
      refine J_if (y := 0) rfl (fun hq => absurd (show nI (j + 1) ≤ 0 from hq) (nI_nle (by omega) (by omega))) (fun hq => ?_)
      repeat (first | (refine J_step rfl rfl ?_) | (refine J_getf rfl rfl rfl (by assumption) rfl ?_))
      refine J_callV rfl rfl rfl rfl rfl g0 rfl rfl rfl rfl (m_puts (d := 0) O3 (by omega)) (Nat.zero_le _) (Nat.zero_le _) (fun E h9 q => by cases q.1) (fun v9 h4 q => ?_)
      obtain ⟨q1, O4⟩ := q
      cases q1
      have l4 : (outSt A.1.1 A.1.2.2.1 j ++ [47]).length = (outSt A.1.1 A.1.2.2.1 j).length + 1 := by rw [List.length_append]; rfl
      clear g0
      have g0 := O4.obj
      obtain ⟨g4, M4⟩ := O4.md
      have e1 := M4.2.1
      rw [aset_ne (by decide)] at e1
      have hix : 14 + nI (j + 1) - 1 = nI (14 + j) := by
        show nI 14 + nI (j + 1) - 1 = _
        rw [nI_add, show 14 + (j + 1) = 14 + j + 1 by omega, nI_pred]
      repeat (first | (refine J_step rfl rfl ?_) | (refine J_getf rfl rfl rfl (by assumption) rfl ?_))
      refine J_rs (w := A.1.1 j) (14 + j) rfl e1 hix (by omega) (by decide) (S.2.2.1 j (by omega)) ?_
      refine J_callV rfl rfl rfl rfl rfl g0 rfl rfl rfl rfl (m_numN O4 (hs j (by omega)) (by omega)) (Nat.zero_le _) (Nat.zero_le _) (fun E h9 q => by cases q.1) (fun v9 h5 q => ?_)
      obtain ⟨q1, O5⟩ := q
      cases q1
      have l5 : ((outSt A.1.1 A.1.2.2.1 j ++ [47]) ++ dI (A.1.1 j)).length ≤ (outSt A.1.1 A.1.2.2.1 j).length + 4 := by rw [List.length_append]; omega
      clear g0 e1
      have g0 := O5.obj
      repeat (first | (refine J_step rfl rfl ?_) | (refine J_getf rfl rfl rfl (by assumption) rfl ?_))
      refine J_callV rfl rfl rfl rfl rfl g0 rfl rfl rfl rfl (m_puts (d := 0) O5 (by omega)) (Nat.zero_le _) (Nat.zero_le _) (fun E h9 q => by cases q.1) (fun v9 h6 q => ?_)
      obtain ⟨q1, O6⟩ := q
      cases q1
      have l6 : (((outSt A.1.1 A.1.2.2.1 j ++ [47]) ++ dI (A.1.1 j)) ++ [47]).length ≤ (outSt A.1.1 A.1.2.2.1 j).length + 5 := by rw [List.length_append]; show _ + 1 ≤ _; omega
      exact num (j + 1) _ h6 (by omega) (by omega) O6 (fun h7 O7 => ih (j + 1) h7 (by omega) O7)
  iterate 2 (first | (refine J_step rfl rfl ?_) | (refine J_getf rfl rfl rfl (by assumption) rfl ?_))
  refine J_heap rfl ?_
  repeat (first | (refine J_step rfl rfl ?_) | (refine J_getf rfl rfl rfl (by assumption) rfl ?_))
  refine J_ic rfl (fun hq => absurd hq (show ¬ (7 : Int32) ≤ 0 by decide)) (fun hq => ?_)
  repeat (first | (refine J_step rfl rfl ?_) | (refine J_getf rfl rfl rfl (by assumption) rfl ?_))
  refine J_if (y := 0) rfl (fun _ => ?_) (fun hq => absurd (show (0 : Int32) ≤ 0 by decide) hq)
  exact num 0 [] h2 (by decide) (by decide) O2 (fun h4 O4 => loop 6 0 h4 rfl O4)
