def sBm (F : Nat → Int32) : Int32 := if F 3 = 0 then 0 else (F 2 - 50 + 5 - 1) / 5
set_option maxRecDepth 100000 in
set_option maxHeartbeats 2000000 in
theorem t_blockedMinutes {d : Nat} {h : AHp} {F sl : Nat → Int32} {l : List Row} {E Jn : Int64} {sv : Bool} {ep ec : Int32} (e : h 0 = .inr (5, [.ref 1, .ref 11, .ref 21, .int (bI sv), .ref 31, .ref 113, .ref 115, .int ep, .int ec])) (hL : LnAt h 1 F sl l E Jn) : JM mi_X5_blockedMinutes d 0 0 [.ref 0] h (oj_is (.inl (some (.int (sBm F)))) h) := by
  have e1 := hL.1
  refine JM_of gd_X5_blockedMinutes rfl (by decide +kernel) (Nat.le_of_ble_eq_true rfl) (oj_cats rfl) (by decide) ?_
  repeat (first | (refine J_step rfl rfl ?_) | (refine J_getf rfl rfl rfl (by assumption) rfl ?_))
  refine J_if (y := 0) rfl (fun hq => ?_) (fun hq => ?_)
  · repeat (first | (refine J_step rfl rfl ?_) | (refine J_getf rfl rfl rfl (by assumption) rfl ?_))
    refine J_idiv rfl (by decide) ?_
    exact J_iret rfl rfl rfl rfl ⟨ri (if_neg hq).symm, rfl⟩
  · repeat (first | (refine J_step rfl rfl ?_) | (refine J_getf rfl rfl rfl (by assumption) rfl ?_))
    exact J_iret rfl rfl rfl rfl ⟨ri (if_pos (Classical.not_not.mp hq)).symm, rfl⟩
/-- the line at a holds something, all else as it was -/
def LnX (h : AHp) (a : Nat) (h' : AHp) : Prop := (∃ q, LnR h' a q) ∧ ∀ x, x < a ∨ a + 9 < x → h' x = h x
/-- a line that is blocked for m minutes more -/
def BS (s : MS) (m : Nat) : Prop := (m = 0 ∧ s.1 3 = 0) ∨ ∃ t, s.1 3 = 1 ∧ s.1 2 = nI t ∧ 50 < t ∧ t ≤ 200 ∧ (t - 46) / 5 = m
theorem cool_nI : ∀ t, t ≤ 200 → (if 0 < nI t - 5 then nI t - 5 else 0) = nI (t - 5) ∧ (nI (t - 5) ≤ 50 ↔ t - 5 ≤ 50) := by decide +kernel
theorem BS_step {sl : Nat → Int32} {s : MS} {m : Nat} (H : BS s (m + 1)) : BS (sp_min sl s) m := by
  rcases H with ⟨z, -⟩ | ⟨t, h3, h2, ht, ht2, hm⟩
  · omega
  · have hn : ¬ s.1 3 = 0 := by rw [h3]; decide
    obtain ⟨c1, c2⟩ := cool_nI t ht2
    unfold sp_min
    rw [if_neg hn]
    have g2 : fset s.1 0 (s.1 0 + 1) 2 = nI t := h2
    have g3 : fset s.1 0 (s.1 0 + 1) 3 = 1 := h3
    unfold coolF
    rw [g2, c1]
    by_cases q : nI (t - 5) ≤ 50
    · rw [if_pos q]
      refine Or.inl ⟨?_, rfl⟩
      have := c2.mp q
      omega
    · rw [if_neg q]
      have q2 : ¬ t - 5 ≤ 50 := fun z => q (c2.mpr z)
      exact Or.inr ⟨t - 5, g3, rfl, by omega, by omega, by omega⟩
theorem BS_b {s : MS} {m : Nat} (H : BS s m) : ¬ s.1 3 = 0 ↔ 0 < m := by
  rcases H with ⟨z, h⟩ | ⟨t, h3, h2, ht, ht2, hm⟩
  · rw [h, z]; exact ⟨fun q => absurd rfl q, fun q => absurd q (by omega)⟩
  · rw [h3]; exact ⟨fun _ => by omega, fun _ => by decide⟩
set_option maxRecDepth 100000 in
set_option maxHeartbeats 2000000 in
theorem t_byPassing {h : AHp} {q qc : LQ} {m : Nat} {sv : Bool} {ep ec : Int32} (e : h 0 = .inr (5, [.ref 1, .ref 11, .ref 21, .int (bI sv), .ref 31, .ref 113, .ref 115, .int ep, .int ec])) (hL : LnR h 1 q) (hcp : LnR h 11 qc) (hu : gU q.2.1) (hb : gB q.2.1) (hm : BS q.2 m) (hm2 : m ≤ 100) : JM mi_X5_blockedMinutesByPassing 4 0 0 [.ref 0] h (fun r h' => r = .inl (some (.int (nI m))) ∧ LnX h 11 h') := by
  obtain ⟨sl0, -, hcp0⟩ := id hcp
  have ec0 := hcp0.1
  refine JM_of gd_X5_blockedMinutesByPassing rfl (by decide +kernel) (Nat.le_of_ble_eq_true rfl) (oj_cats rfl) (by decide) ?_
  repeat (first | (refine J_step rfl rfl ?_) | (refine J_getf rfl rfl rfl (by assumption) rfl ?_))
  refine J_callV rfl rfl rfl rfl rfl ec0 rfl rfl rfl rfl (c_lnCopy hcp hL (Or.inl (by omega)) hu hb) (Nat.le_refl _) (Nat.le_refl _) (fun E h9 q => by cases q.1) (fun v h9 q => ?_)
  obtain ⟨q1, ⟨sl', -, hcl⟩, hx⟩ := q
  cases q1
  have loop : ∀ m' j (s' : MS) h2, m' + j = m → lnMS h9 11 sl' s' h2 → gU s'.1 → BS s' m' → J mi_X5_blockedMinutesByPassing 4 0 0 (fun r h' => r = .inl (some (.int (nI m))) ∧ LnX h 11 h') 0 0 13 [some (.ref 0), some (.int (nI j))] [] h2 := by
    intro m'
    induction m' with
    | zero =>
      intro j s' h2 hj H hu hB
      obtain rfl : j = m := by omega
      have g0 : h2 0 = _ := ((lnIs_ne H (by omega)).trans (hx 0 (by omega))).trans e
      have g1 := (lnIs_at H).1
      have hz : s'.1 3 = 0 := Classical.not_not.mp fun z => absurd ((BS_b hB).mp z) (by omega)
      repeat (first | (refine J_step rfl rfl ?_) | (refine J_getf rfl rfl rfl (by assumption) rfl ?_))
      refine J_if (y := 0) rfl (fun hq => ?_) (fun hq => absurd hz hq)
      repeat (first | (refine J_step rfl rfl ?_) | (refine J_getf rfl rfl rfl (by assumption) rfl ?_))
      exact J_iret rfl rfl rfl rfl ⟨rfl, ⟨(sl', s'), sl', (fun _ _ => rfl), lnIs_at H⟩, fun x z => (lnIs_ne H z).trans (hx x z)⟩
    | succ m' ih =>
      intro j s' h2 hj H hu hB
      have g0 : h2 0 = _ := ((lnIs_ne H (by omega)).trans (hx 0 (by omega))).trans e
      have g1 := (lnIs_at H).1
      have hz : ¬ s'.1 3 = 0 := (BS_b hB).mpr (by omega)
      repeat (first | (refine J_step rfl rfl ?_) | (refine J_getf rfl rfl rfl (by assumption) rfl ?_))
      refine J_if (y := 0) rfl (fun hq => absurd hq hz) (fun hq => ?_)
      repeat (first | (refine J_step rfl rfl ?_) | (refine J_getf rfl rfl rfl (by assumption) rfl ?_))
      refine J_ic rfl (fun hq => absurd (show nI 1000 ≤ nI j from hq) (nI_ge (by omega) (by omega))) (fun hq => ?_)
      repeat (first | (refine J_step rfl rfl ?_) | (refine J_getf rfl rfl rfl (by assumption) rfl ?_))
      refine J_callV rfl rfl rfl rfl rfl g1 rfl rfl rfl rfl (c_letPass (n := 1) H hu (by omega)) (Nat.le_refl _) (Nat.le_refl _) (fun E h9 q => by cases q.1) (fun v h3 q => ?_)
      obtain ⟨q1, q2⟩ := q
      cases q1
      have hs := ih (j + 1) (sp_min sl' s') h3 (by omega) q2 (sp_min_gU hu) (BS_step hB)
      rw [nI_succ] at hs
      iterate 3 (first | (refine J_step rfl rfl ?_) | (refine J_getf rfl rfl rfl (by assumption) rfl ?_))
      exact hs
  iterate 2 (first | (refine J_step rfl rfl ?_) | (refine J_getf rfl rfl rfl (by assumption) rfl ?_))
  exact loop m 0 q.2 h9 rfl (lnIs_of hcl) hu hm
def sWs (l : List Row) : Nat → Nat
  | 0 => 0
  | n + 1 => sWs l n + if 0 < crWtg l (nI n) then 1 else 0
def sBz (l : List Row) : Nat → Nat × Nat
  | 0 => (0, 0)
  | n + 1 => if (sBz l n).2 < crWtg l (nI n) then (n, crWtg l (nI n)) else sBz l n
theorem crWtg_le {l : List Row} {s : Int32} : crWtg l s ≤ l.length := List.countP_le_length
set_option maxRecDepth 100000 in
set_option maxHeartbeats 2000000 in
theorem t_waitingStations {h : AHp} {F sl : Nat → Int32} {l : List Row} {E Jn : Int64} {sv : Bool} {ep ec : Int32} (e : h 0 = .inr (5, [.ref 1, .ref 11, .ref 21, .int (bI sv), .ref 31, .ref 113, .ref 115, .int ep, .int ec])) (hL : LnAt h 1 F sl l E Jn) : JM mi_X5_waitingStations 2 0 0 [.ref 0] h (oj_is (.inl (some (.int (nI (sWs l 7))))) h) := by
  have e1 := hL.1
  have hC := hL.2.2
  have hC' := hC
  obtain ⟨R, ⟨f0, f1, f2, f3, f4, f5, f6, f7, hc⟩, hR⟩ := hC'
  refine JM_of gd_X5_waitingStations rfl (by decide +kernel) (Nat.le_of_ble_eq_true rfl) (oj_cats rfl) (by decide) ?_
  have loop : ∀ m j, m + j = 7 → J mi_X5_waitingStations 2 0 0 (oj_is (.inl (some (.int (nI (sWs l 7))))) h) 0 0 4 [some (.ref 0), some (.int (nI (sWs l j))), some (.int (nI j))] [] h := by
    intro m
    induction m with
    | zero =>
      intro j hj
      obtain rfl : j = 7 := by omega
      repeat (first | (refine J_step rfl rfl ?_) | (refine J_getf rfl rfl rfl (by assumption) rfl ?_))
      refine J_ic rfl (fun hq => ?_) (fun hq => absurd (oj_ccT (by decide)) hq)
      repeat (first | (refine J_step rfl rfl ?_) | (refine J_getf rfl rfl rfl (by assumption) rfl ?_))
      exact J_iret rfl rfl rfl rfl ⟨rfl, rfl⟩
    | succ m ih =>
      intro j hj
      have hle := crWtg_le (l := l) (s := nI j)
      repeat (first | (refine J_step rfl rfl ?_) | (refine J_getf rfl rfl rfl (by assumption) rfl ?_))
      refine J_ic rfl (fun hq => absurd (show nI 7 ≤ nI j from hq) (nI_ge (by omega) (by omega))) (fun hq => ?_)
      repeat (first | (refine J_step rfl rfl ?_) | (refine J_getf rfl rfl rfl (by assumption) rfl ?_))
      refine J_cV rfl rfl rfl rfl rfl (by assumption) rfl rfl rfl rfl rfl rfl (c_countWaiting hC) ?_
      have hs := ih (j + 1) (by omega)
      have hw : sWs l (j + 1) = sWs l j + (if 0 < crWtg l (nI j) then 1 else 0) := rfl
      rw [nI_succ, hw] at hs
      refine J_if (y := 0) rfl (fun hq => ?_) (fun hq => ?_)
      · have hz : ¬ 0 < crWtg l (nI j) := fun z => absurd (show nI (crWtg l (nI j)) ≤ 0 from hq) (nI_nle z (by omega))
        rw [if_neg hz, Nat.add_zero] at hs
        iterate 2 (first | (refine J_step rfl rfl ?_) | (refine J_getf rfl rfl rfl (by assumption) rfl ?_))
        exact hs
      · have hz : 0 < crWtg l (nI j) := Nat.pos_of_ne_zero fun z => hq (by rw [z]; exact (show nI 0 ≤ 0 by decide))
        rw [if_pos hz, nI_succ] at hs
        iterate 3 (first | (refine J_step rfl rfl ?_) | (refine J_getf rfl rfl rfl (by assumption) rfl ?_))
        exact hs
  iterate 4 (first | (refine J_step rfl rfl ?_) | (refine J_getf rfl rfl rfl (by assumption) rfl ?_))
  exact loop 7 0 rfl
theorem sBz_le {l : List Row} : ∀ n, (sBz l n).2 ≤ l.length
  | 0 => Nat.zero_le _
  | n + 1 => by
    unfold sBz
    split
    · exact crWtg_le
    · exact sBz_le n
set_option maxRecDepth 100000 in
set_option maxHeartbeats 2000000 in
theorem t_busiestStation {h : AHp} {F sl : Nat → Int32} {l : List Row} {E Jn : Int64} {sv : Bool} {ep ec : Int32} (e : h 0 = .inr (5, [.ref 1, .ref 11, .ref 21, .int (bI sv), .ref 31, .ref 113, .ref 115, .int ep, .int ec])) (hL : LnAt h 1 F sl l E Jn) : JM mi_X5_busiestStation 6 1 6 [.ref 0] h (oj_is (if (sBz l 7).2 = 0 then .inr "java/util/NoSuchElementException" else .inl (some (.int (nI (sBz l 7).1)))) h) := by
  have e1 := hL.1
  have hC := hL.2.2
  have hC' := hC
  obtain ⟨R, ⟨f0, f1, f2, f3, f4, f5, f6, f7, hc⟩, hR⟩ := hC'
  refine JM_of gd_X5_busiestStation rfl (by decide +kernel) (Nat.le_of_ble_eq_true rfl) (oj_cats rfl) (by decide) ?_
  have loop : ∀ m j, m + j = 7 → ∀ ow, J mi_X5_busiestStation 6 1 6 (oj_is (if (sBz l 7).2 = 0 then .inr "java/util/NoSuchElementException" else .inl (some (.int (nI (sBz l 7).1)))) h) 0 0 6 [some (.ref 0), some (.int (nI (sBz l j).1)), some (.int (nI (sBz l j).2)), some (.int (nI j)), ow] [] h := by
    intro m
    induction m with
    | zero =>
      intro j hj ow
      obtain rfl : j = 7 := by omega
      have hle := sBz_le (l := l) 7
      repeat (first | (refine J_step rfl rfl ?_) | (refine J_getf rfl rfl rfl (by assumption) rfl ?_))
      refine J_ic rfl (fun hq => ?_) (fun hq => absurd (oj_ccT (by decide)) hq)
      repeat (first | (refine J_step rfl rfl ?_) | (refine J_getf rfl rfl rfl (by assumption) rfl ?_))
      refine J_if (y := 0) rfl (fun hq => ?_) (fun hq => ?_)
      · rw [if_neg (fun z => hq (by rw [z]; rfl))]
        repeat (first | (refine J_step rfl rfl ?_) | (refine J_getf rfl rfl rfl (by assumption) rfl ?_))
        exact J_iret rfl rfl rfl rfl ⟨rfl, rfl⟩
      · rw [if_pos (Classical.not_not.mp fun z => hq (nI_ne0 (Nat.pos_of_ne_zero z) (by omega)))]
        first | (refine J_throwN (text := "nobody waits") (sn := 10) rfl rfl rfl rfl rfl rfl (by decide +kernel) rfl rfl rfl rfl (Nat.le_of_ble_eq_true rfl) (Nat.le_of_ble_eq_true rfl) ?_)
        exact ⟨rfl, rfl⟩
    | succ m ih =>
      intro j hj ow
      have hle := crWtg_le (l := l) (s := nI j)
      have hle2 := sBz_le (l := l) j
      repeat (first | (refine J_step rfl rfl ?_) | (refine J_getf rfl rfl rfl (by assumption) rfl ?_))
      refine J_ic rfl (fun hq => absurd (show nI 7 ≤ nI j from hq) (nI_ge (by omega) (by omega))) (fun hq => ?_)
      repeat (first | (refine J_step rfl rfl ?_) | (refine J_getf rfl rfl rfl (by assumption) rfl ?_))
      refine J_cV rfl rfl rfl rfl rfl (by assumption) rfl rfl rfl rfl rfl rfl (c_countWaiting hC) ?_
      have hs := fun ow => ih (j + 1) (by omega) ow
      have hw : sBz l (j + 1) = if (sBz l j).2 < crWtg l (nI j) then (j, crWtg l (nI j)) else sBz l j := rfl
      rw [nI_succ, hw] at hs
      repeat (first | (refine J_step rfl rfl ?_) | (refine J_getf rfl rfl rfl (by assumption) rfl ?_))
      refine J_ic rfl (fun hq => ?_) (fun hq => ?_)
      · have hz : ¬ (sBz l j).2 < crWtg l (nI j) := fun z => absurd (show nI (crWtg l (nI j)) ≤ nI (sBz l j).2 from hq) (nI_ge z (by omega))
        simp only [if_neg hz] at hs
        iterate 2 (first | (refine J_step rfl rfl ?_) | (refine J_getf rfl rfl rfl (by assumption) rfl ?_))
        exact hs _
      · have hz : (sBz l j).2 < crWtg l (nI j) := by
          rcases Nat.lt_or_ge (sBz l j).2 (crWtg l (nI j)) with z | z
          · exact z
          · exact absurd (nI_le z (by omega)) hq
        simp only [if_pos hz] at hs
        iterate 6 (first | (refine J_step rfl rfl ?_) | (refine J_getf rfl rfl rfl (by assumption) rfl ?_))
        exact hs _
  iterate 6 (first | (refine J_step rfl rfl ?_) | (refine J_getf rfl rfl rfl (by assumption) rfl ?_))
  exact loop 7 0 rfl _
