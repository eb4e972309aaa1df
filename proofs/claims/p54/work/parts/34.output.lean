def OutAt (h : AHp) (o : Nat) (w : List Int32) : Prop := h o = .inr (3, [.ref (o + 1), .int (nI w.length)]) ∧ (∃ f : Nat → Int32, h (o + 1) = .inl (1, 96, .inl f) ∧ ∀ j x, w[j]? = some x → f j = x) ∧ w.length ≤ 96
def OutP (h : AHp) (o : Nat) (w : List Int32) (h' : AHp) : Prop := OutAt h' o w ∧ ∀ x, x ≠ o → x ≠ o + 1 → h' x = h x
def cOk (c : Int32) : Prop := vp_nar .char c = c
theorem OutP.trans {h h1 h2 : AHp} {o : Nat} {w w2 : List Int32} (H : OutP h o w h1) (H2 : OutP h1 o w2 h2) : OutP h o w2 h2 := ⟨H2.1, fun x z1 z2 => (H2.2 x z1 z2).trans (H.2 x z1 z2)⟩
set_option maxRecDepth 100000 in
set_option maxHeartbeats 2000000 in
theorem c_clear {d : Nat} {h : AHp} {o : Nat} {w : List Int32} (H : OutAt h o w) : JM mi_X3_clear d 0 0 [.ref o] h (fun r h' => r = .inl none ∧ OutP h o [] h') := by
  obtain ⟨e0, ⟨f, e1, -⟩, -⟩ := H
  refine JM_of gd_X3_clear rfl (by decide +kernel) (Nat.le_of_ble_eq_true rfl) (oj_cats rfl) (by decide) ?_
  repeat (first | (refine J_step rfl rfl ?_) | (refine J_getf rfl rfl rfl (by assumption) rfl ?_))
  refine J_putf rfl rfl rfl e0 rfl rfl (fun _ => rfl) rfl rfl ?_
  repeat (first | (refine J_step rfl rfl ?_) | (refine J_getf rfl rfl rfl (by assumption) rfl ?_))
  refine J_vret rfl rfl rfl rfl ⟨rfl, ⟨if_pos rfl, ⟨f, ?_, fun j x hx => by cases hx⟩, Nat.zero_le _⟩, fun x z1 z2 => if_neg z1⟩
  simp only [oj_up]; rw [if_neg (by omega)]; exact e1
set_option maxRecDepth 100000 in
set_option maxHeartbeats 2000000 in
theorem c_put {d : Nat} {h : AHp} {o : Nat} {w : List Int32} {c : Int32} (H : OutAt h o w) (hc : cOk c) (hl : w.length < 96) : JM mi_X3_put d 0 0 [.ref o, .int c] h (fun r h' => r = .inl none ∧ OutP h o (w ++ [c]) h') := by
  obtain ⟨e0, ⟨f, e1, hf⟩, -⟩ := H
  refine JM_of gd_X3_put rfl (by decide +kernel) (Nat.le_of_ble_eq_true rfl) (oj_cats rfl) (by decide) ?_
  repeat (first | (refine J_step rfl rfl ?_) | (refine J_getf rfl rfl rfl (by assumption) rfl ?_))
  refine J_ic rfl (fun hq => absurd (show nI 96 ≤ nI w.length from hq) (nI_ge (by omega) (by omega))) (fun hq => ?_)
  repeat (first | (refine J_step rfl rfl ?_) | (refine J_getf rfl rfl rfl (by assumption) rfl ?_))
  refine J_cast rfl e1 (vp_in_nI (by omega) (by omega)) ?_
  rw [nI_clamp (by omega), show vp_nar .char c = c from hc]
  generalize hh2 : oj_up h (o + 1) (.inl (1, 96, .inl (upd f w.length c))) = h2
  have g0 : h2 o = .inr (3, [.ref (o + 1), .int (nI w.length)]) := by rw [← hh2]; simp only [oj_up]; rw [if_neg (by omega)]; exact e0
  have g1 : h2 (o + 1) = .inl (1, 96, .inl (upd f w.length c)) := by rw [← hh2]; exact if_pos rfl
  repeat (first | (refine J_step rfl rfl ?_) | (refine J_getf rfl rfl rfl (by assumption) rfl ?_))
  refine J_putf rfl rfl rfl g0 rfl rfl (fun _ => rfl) rfl rfl ?_
  repeat (first | (refine J_step rfl rfl ?_) | (refine J_getf rfl rfl rfl (by assumption) rfl ?_))
  refine J_vret rfl rfl rfl rfl ⟨rfl, ⟨?_, ⟨_, (if_neg (by omega)).trans g1, fun j x hx => ?_⟩, by rw [List.length_append]; exact hl⟩, fun x z1 z2 => ?_⟩
  · rw [List.length_append, show w.length + [c].length = w.length + 1 from rfl, nI_succ]
    exact if_pos rfl
  · unfold upd
    by_cases z : j = w.length
    · rw [if_pos z]
      rw [z, List.getElem?_append_right (Nat.le_refl _)] at hx
      simpa using hx
    · rw [if_neg z]
      refine hf j x ?_
      have hj : j < w.length := by
        have := (List.getElem?_eq_some_iff.mp hx).1
        rw [List.length_append] at this
        have : j < w.length + 1 := this
        omega
      rw [List.getElem?_append_left hj] at hx
      exact hx
  · refine (if_neg z1).trans ?_
    rw [← hh2]
    exact if_neg z2
/-- 1, 10, 100 at 1, 2, 3 -/
def uP : Nat → Nat
  | 0 => 0
  | 1 => 1
  | 2 => 10
  | _ => 100
def dgs : Nat → Nat → List Int32
  | 0, _ => []
  | m + 1, r => nI (48 + r / uP (m + 1)) :: dgs m (r % uP (m + 1))
def dgN (k : Nat) : Nat := if k < 10 then 1 else if k < 100 then 2 else 3
def dgt (k : Nat) : List Int32 := dgs (dgN k) k
theorem dgs_len : ∀ m r, (dgs m r).length = m
  | 0, _ => rfl
  | m + 1, r => congrArg (· + 1) (dgs_len m _)
theorem dgt_len (k : Nat) : (dgt k).length ≤ 3 := by
  unfold dgt; rw [dgs_len]; unfold dgN
  split
  · decide
  · split <;> decide
theorem dg_div : ∀ r, r < 1000 → nI r / nI (uP 1) = nI (r / uP 1) ∧ nI r / nI (uP 2) = nI (r / uP 2) ∧ nI r / nI (uP 3) = nI (r / uP 3) := by decide +kernel
theorem dg_mod : ∀ r, r < 1000 → nI r - nI r / nI (uP 1) * nI (uP 1) = nI (r % uP 1) ∧ nI r - nI r / nI (uP 2) * nI (uP 2) = nI (r % uP 2) ∧ nI r - nI r / nI (uP 3) * nI (uP 3) = nI (r % uP 3) := by decide +kernel
theorem dg_chr : ∀ r, r < 10 → 48 + nI r = nI (48 + r) ∧ ((nI (48 + r)).toUInt32 % 65536).toInt32 = nI (48 + r) ∧ vp_nar .char (nI (48 + r)) = nI (48 + r) := by decide +kernel
theorem dg_lt (m r : Nat) (hm : m < 3) (hr : r < 10 * uP (m + 1)) : r / uP (m + 1) < 10 ∧ (r % uP (m + 1) < 10 * uP m ∨ m = 0) := by
  match m, hm with
  | 0, _ => exact ⟨by simp [uP] at hr ⊢; omega, Or.inr rfl⟩
  | 1, _ => exact ⟨by simp [uP] at hr ⊢; omega, Or.inl (by simp [uP] at hr ⊢; omega)⟩
  | 2, _ => exact ⟨by simp [uP] at hr ⊢; omega, Or.inl (by simp [uP] at hr ⊢; omega)⟩
set_option maxRecDepth 100000 in
set_option maxHeartbeats 2000000 in
theorem c_putNumber {h : AHp} {o : Nat} {w : List Int32} {k : Nat} (H : OutAt h o w) (hk : k < 1000) (hl : w.length + dgN k ≤ 96) : JM mi_X3_putNumber 1 0 0 [.ref o, .int (nI k)] h (fun r h' => r = .inl none ∧ OutP h o (w ++ dgt k) h') := by
  refine JM_of gd_X3_putNumber rfl (by decide +kernel) (Nat.le_of_ble_eq_true rfl) (oj_cats rfl) (by decide) ?_
  have loop : ∀ m r w2 h2, m ≤ 3 → r < 1000 → (r < 10 * uP m ∨ m = 0) → OutP h o w2 h2 → w2.length + m ≤ 96 → J mi_X3_putNumber 1 0 0 (fun r' h' => r' = .inl none ∧ OutP h o (w2 ++ dgs m r) h') 0 0 26 [some (.ref o), some (.int (nI k)), some (.int (nI (uP m))), some (.int (nI r))] [] h2 := by
    intro m
    induction m with
    | zero =>
      intro r w2 h2 hm hr hrm H hl
      repeat (first | (refine J_step rfl rfl ?_) | (refine J_getf rfl rfl rfl (by assumption) rfl ?_))
      refine J_if (y := 0) rfl (fun hq => ?_) (fun hq => absurd (show nI 0 ≤ 0 by decide) hq)
      refine J_vret rfl rfl rfl rfl ⟨rfl, ?_⟩
      show OutP h o (w2 ++ []) h2
      rw [List.append_nil]
      exact H
    | succ m ih =>
      intro r w2 h2 hm hr hrm H hl
      obtain ⟨d1, d2⟩ := dg_lt m r (by omega) (hrm.resolve_right (by omega))
      have hdiv : nI r / nI (uP (m + 1)) = nI (r / uP (m + 1)) := by
        have := dg_div r hr
        match m, hm with
        | 0, _ => exact this.1
        | 1, _ => exact this.2.1
        | 2, _ => exact this.2.2
      have hmod : nI r - nI (r / uP (m + 1)) * nI (uP (m + 1)) = nI (r % uP (m + 1)) := by
        have := dg_mod r hr
        rw [← hdiv]
        match m, hm with
        | 0, _ => exact this.1
        | 1, _ => exact this.2.1
        | 2, _ => exact this.2.2
      have hne : nI (uP (m + 1)) ≠ 0 := by
        match m, hm with
        | 0, _ => decide
        | 1, _ => decide
        | 2, _ => decide
      have hgt : ¬ nI (uP (m + 1)) ≤ 0 := by
        match m, hm with
        | 0, _ => decide
        | 1, _ => decide
        | 2, _ => decide
      have hnx : nI (uP (m + 1)) / 10 = nI (uP m) := by
        match m, hm with
        | 0, _ => decide
        | 1, _ => decide
        | 2, _ => decide
      have hmr : r % uP (m + 1) < 1000 := Nat.lt_of_le_of_lt (Nat.mod_le _ _) hr
      obtain ⟨c1, c2, c3⟩ := dg_chr _ d1
      have e0 := H.1.1
      repeat (first | (refine J_step rfl rfl ?_) | (refine J_getf rfl rfl rfl (by assumption) rfl ?_))
      refine J_if (y := 0) rfl (fun hq => absurd hq hgt) (fun hq => ?_)
      repeat (first | (refine J_step rfl rfl ?_) | (refine J_getf rfl rfl rfl (by assumption) rfl ?_))
      refine J_idiv rfl hne ?_
      rw [hdiv]
      iterate 1 (refine J_step rfl rfl ?_)
      rw [c1]
      iterate 1 (refine J_step rfl rfl ?_)
      rw [c2]
      refine J_callV rfl rfl rfl rfl rfl e0 rfl rfl rfl rfl (c_put (d := 0) H.1 c3 (by omega)) (Nat.le_refl _) (Nat.le_refl _) (fun E h9 q => by cases q.1) (fun v h9 q => ?_)
      obtain ⟨q1, q2⟩ := q
      cases q1
      repeat (first | (refine J_step rfl rfl ?_) | (refine J_getf rfl rfl rfl (by assumption) rfl ?_))
      refine J_irem rfl hne ?_
      rw [hdiv, hmod]
      repeat (first | (refine J_step rfl rfl ?_) | (refine J_getf rfl rfl rfl (by assumption) rfl ?_))
      refine J_idiv rfl (by decide) ?_
      rw [hnx]
      have hs := ih (r % uP (m + 1)) (w2 ++ [nI (48 + r / uP (m + 1))]) h9 (by omega) hmr d2 (H.trans q2) (by rw [List.length_append]; show w2.length + 1 + m ≤ 96; omega)
      rw [List.append_assoc] at hs
      iterate 2 (first | (refine J_step rfl rfl ?_) | (refine J_getf rfl rfl rfl (by assumption) rfl ?_))
      exact hs
  have fin : ∀ m, m = dgN k → J mi_X3_putNumber 1 0 0 (fun r' h' => r' = .inl none ∧ OutP h o (w ++ dgt k) h') 0 0 24 [some (.ref o), some (.int (nI k)), some (.int (nI (uP m))), none] [] h := by
    intro m hm
    have hm3 : m ≤ 3 ∧ (k < 10 * uP m ∨ m = 0) := by
      rw [hm]; unfold dgN
      by_cases q : k < 10
      · rw [if_pos q]; exact ⟨by omega, Or.inl (by simp [uP]; omega)⟩
      · rw [if_neg q]
        by_cases q2 : k < 100
        · rw [if_pos q2]; exact ⟨by omega, Or.inl (by simp [uP]; omega)⟩
        · rw [if_neg q2]; exact ⟨by omega, Or.inl (by simp [uP]; omega)⟩
    have hs := loop m k w h hm3.1 hk hm3.2 ⟨H, fun x _ _ => rfl⟩ (by omega)
    rw [show w ++ dgs m k = w ++ dgt k by rw [dgt, hm]] at hs
    iterate 2 (first | (refine J_step rfl rfl ?_) | (refine J_getf rfl rfl rfl (by assumption) rfl ?_))
    exact hs
  iterate 2 (first | (refine J_step rfl rfl ?_) | (refine J_getf rfl rfl rfl (by assumption) rfl ?_))
  repeat (first | (refine J_step rfl rfl ?_) | (refine J_getf rfl rfl rfl (by assumption) rfl ?_))
  refine J_ldcI (v := 1000000000) rfl (by decide +kernel) ?_
  refine J_ic rfl (fun hq => absurd hq (show ¬ (1000000000 : Int32) ≤ 1 by decide)) (fun hq => ?_)
  repeat (first | (refine J_step rfl rfl ?_) | (refine J_getf rfl rfl rfl (by assumption) rfl ?_))
  refine J_ic rfl (fun hq => ?_) (fun hq => ?_)
  · have hq : ¬ nI 10 ≤ nI k := Int32.not_le.mpr hq
    have : k < 10 := by
      rcases Nat.lt_or_ge k 10 with z | z
      · exact z
      · exact absurd (Int32.le_iff_toInt_le.mpr (by rw [nI_toInt (by omega), nI_toInt (by omega)]; omega)) hq
    exact fin 1 (by rw [dgN, if_pos this])
  · have hq : nI 10 ≤ nI k := Int32.not_lt.mp hq
    have k10 : ¬ k < 10 := fun z => by
      have := Int32.le_iff_toInt_le.mp hq
      rw [nI_toInt (by omega), nI_toInt (by omega)] at this
      omega
    iterate 5 (first | (refine J_step rfl rfl ?_) | (refine J_getf rfl rfl rfl (by assumption) rfl ?_))
    repeat (first | (refine J_step rfl rfl ?_) | (refine J_getf rfl rfl rfl (by assumption) rfl ?_))
    refine J_ldcI (v := 1000000000) rfl (by decide +kernel) ?_
    refine J_ic rfl (fun hq => absurd hq (show ¬ (1000000000 : Int32) ≤ 10 by decide)) (fun hq => ?_)
    repeat (first | (refine J_step rfl rfl ?_) | (refine J_getf rfl rfl rfl (by assumption) rfl ?_))
    refine J_ic rfl (fun hq => ?_) (fun hq => ?_)
    · have hq : ¬ nI 100 ≤ nI k := Int32.not_le.mpr hq
      have : k < 100 := by
        rcases Nat.lt_or_ge k 100 with z | z
        · exact z
        · exact absurd (Int32.le_iff_toInt_le.mpr (by rw [nI_toInt (by omega), nI_toInt (by omega)]; omega)) hq
      exact fin 2 (by rw [dgN, if_neg k10, if_pos this])
    · have hq : nI 100 ≤ nI k := Int32.not_lt.mp hq
      have k100 : ¬ k < 100 := fun z => by
        have := Int32.le_iff_toInt_le.mp hq
        rw [nI_toInt (by omega), nI_toInt (by omega)] at this
        omega
      iterate 5 (first | (refine J_step rfl rfl ?_) | (refine J_getf rfl rfl rfl (by assumption) rfl ?_))
      repeat (first | (refine J_step rfl rfl ?_) | (refine J_getf rfl rfl rfl (by assumption) rfl ?_))
      refine J_ldcI (v := 1000000000) rfl (by decide +kernel) ?_
      refine J_ic rfl (fun hq => absurd hq (show ¬ (1000000000 : Int32) ≤ 100 by decide)) (fun hq => ?_)
      repeat (first | (refine J_step rfl rfl ?_) | (refine J_getf rfl rfl rfl (by assumption) rfl ?_))
      refine J_ic rfl (fun hq => ?_) (fun hq => ?_)
      · exact fin 3 (by rw [dgN, if_neg k10, if_neg k100])
      · have hq : nI 1000 ≤ nI k := Int32.not_lt.mp hq
        have := Int32.le_iff_toInt_le.mp hq
        rw [nI_toInt (by omega), nI_toInt (by omega)] at this
        omega
