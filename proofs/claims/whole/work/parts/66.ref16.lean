/-- the reference reads the signs w: at p, m commands begun, the commands' row C -/
def TF (v : Nat → Int32) (R : Nat → Nat → Int32) (w : List Int32) : Prop := v 7 = nI w.length ∧ w.length ≤ 60 ∧ ∀ j x, w[j]? = some x → R 5 j = x
def TP (h : AHp) (v : Nat → Int32) (R : Nat → Nat → Int32) (p m : Nat) (C : Nat → Int32) (h' : AHp) : Prop := MdP h (fset (fset v 8 (nI p)) 9 (nI m)) (aset R 6 C) h'
theorem TP.pos {h h1 : AHp} {v : Nat → Int32} {R : Nat → Nat → Int32} {p m p' m' : Nat} {C : Nat → Int32} (H : TP h v R p m C h1) : TP h v R p' m' C (oj_up h1 121 (rO (fset (fset v 8 (nI p')) 9 (nI m')))) := MdP.trans H (H.1.fld (v' := fset (fset v 8 (nI p')) 9 (nI m')))
def nw (w : List Int32) (p : Nat) : Int32 := if p < w.length then sg w p else -1
theorem nw_eq {w : List Int32} {p : Nat} {c : Int32} (h0 : ¬ c = 0) (h1 : ¬ c = -1) : nw w p = c ↔ sg w p = c := by
  unfold nw
  by_cases z : p < w.length
  · rw [if_pos z]
  · rw [if_neg z, sg_end (by omega)]
    exact ⟨fun q => absurd q.symm h1, fun q => absurd q.symm h0⟩
set_option maxRecDepth 100000 in
set_option maxHeartbeats 2000000 in
theorem m_now {d : Nat} {h h1 : AHp} {v : Nat → Int32} {R : Nat → Nat → Int32} {w : List Int32} {p m : Nat} {C : Nat → Int32} (F : TF v R w) (H : TP h v R p m C h1) (hp : p ≤ w.length) : JM mi_X6_now d 0 0 [.ref 121] h1 (oj_is (.inl (some (.int (nw w p)))) h1) := by
  obtain ⟨f7, f60, fx⟩ := F
  have e0 := H.1.1
  have e6 := H.1.2.2.2.2.2.2.1
  rw [aset_ne (by decide)] at e6
  have hv8 : fset (fset v 8 (nI p)) 9 (nI m) 8 = nI p := rfl
  have hv7 : fset (fset v 8 (nI p)) 9 (nI m) 7 = nI w.length := f7
  refine JM_of gd_X6_now rfl (by decide +kernel) (Nat.le_of_ble_eq_true rfl) (oj_cats rfl) (by decide) ?_
  repeat (first | (refine J_step rfl rfl ?_) | (refine J_getf rfl rfl rfl (by assumption) rfl ?_))
  rw [hv8, hv7]
  refine J_ic rfl (fun hq => ?_) (fun hq => ?_)
  · have hz : ¬ p < w.length := fun z => absurd (show nI w.length ≤ nI p from hq) (nI_ge z (by omega))
    repeat (first | (refine J_step rfl rfl ?_) | (refine J_getf rfl rfl rfl (by assumption) rfl ?_))
    exact J_iret rfl rfl rfl rfl ⟨ri (by rw [nw, if_neg hz]), rfl⟩
  · have hz : p < w.length := by
      rcases Nat.lt_or_ge p w.length with z | z
      · exact z
      · exact absurd (nI_le z (by omega)) hq
    repeat (first | (refine J_step rfl rfl ?_) | (refine J_getf rfl rfl rfl (by assumption) rfl ?_))
    rw [hv8]
    refine J_rs p rfl e6 rfl (by omega) (by decide) (fx p _ (sg_at hz)) ?_
    repeat (first | (refine J_step rfl rfl ?_) | (refine J_getf rfl rfl rfl (by assumption) rfl ?_))
    exact J_iret rfl rfl rfl rfl ⟨ri (by rw [nw, if_pos hz]), rfl⟩
set_option maxRecDepth 100000 in
set_option maxHeartbeats 2000000 in
theorem m_isSign {h h1 : AHp} {v : Nat → Int32} {R : Nat → Nat → Int32} {w : List Int32} {p m : Nat} {C : Nat → Int32} {c : Int32} (F : TF v R w) (H : TP h v R p m C h1) (hp : p ≤ w.length) (h0 : ¬ c = 0) (h1' : ¬ c = -1) : JM mi_X6_isSign 1 0 0 [.ref 121, .int c] h1 (fun r h' => r = .inl (some (.int (bI (decide (sg w p = c))))) ∧ TP h v R (if sg w p = c then p + 1 else p) m C h') := by
  have e0 := H.1.1
  have hv8 : fset (fset v 8 (nI p)) 9 (nI m) 8 = nI p := rfl
  refine JM_of gd_X6_isSign rfl (by decide +kernel) (Nat.le_of_ble_eq_true rfl) (oj_cats rfl) (by decide) ?_
  repeat (first | (refine J_step rfl rfl ?_) | (refine J_getf rfl rfl rfl (by assumption) rfl ?_))
  refine J_cV rfl rfl rfl rfl rfl (by assumption) rfl rfl rfl rfl rfl rfl (m_now (d := 0) F H hp) ?_
  repeat (first | (refine J_step rfl rfl ?_) | (refine J_getf rfl rfl rfl (by assumption) rfl ?_))
  refine J_ic rfl (fun hq => ?_) (fun hq => ?_)
  · have hz : ¬ sg w p = c := fun z => hq ((nw_eq h0 h1').mpr z)
    simp only [if_neg hz, decide_eq_false hz]
    repeat (first | (refine J_step rfl rfl ?_) | (refine J_getf rfl rfl rfl (by assumption) rfl ?_))
    refine J_if (y := 0) rfl (fun _ => ?_) (fun hq => absurd rfl hq)
    repeat (first | (refine J_step rfl rfl ?_) | (refine J_getf rfl rfl rfl (by assumption) rfl ?_))
    rw [hv8]
    refine J_putf rfl rfl rfl e0 rfl rfl (fun _ => rfl) rfl rfl ?_
    rw [Int32.add_zero]
    repeat (first | (refine J_step rfl rfl ?_) | (refine J_getf rfl rfl rfl (by assumption) rfl ?_))
    exact J_zret rfl rfl rfl rfl false rfl ⟨rfl, H.pos⟩
  · have hz : sg w p = c := (nw_eq h0 h1').mp (Classical.not_not.mp hq)
    simp only [if_pos hz, decide_eq_true hz]
    repeat (first | (refine J_step rfl rfl ?_) | (refine J_getf rfl rfl rfl (by assumption) rfl ?_))
    refine J_if (y := 0) rfl (fun hq => absurd hq (show ¬ (1 : Int32) = 0 by decide)) (fun _ => ?_)
    repeat (first | (refine J_step rfl rfl ?_) | (refine J_getf rfl rfl rfl (by assumption) rfl ?_))
    rw [hv8]
    refine J_putf rfl rfl rfl e0 rfl rfl (fun _ => rfl) rfl rfl ?_
    have H2 := H.pos (p' := p + 1) (m' := m)
    unfold TP at H2
    rw [nI_succ] at H2
    repeat (first | (refine J_step rfl rfl ?_) | (refine J_getf rfl rfl rfl (by assumption) rfl ?_))
    refine J_zret rfl rfl rfl rfl true rfl ⟨rfl, ?_⟩
    unfold TP
    rw [nI_succ]
    exact H2
set_option maxRecDepth 100000 in
set_option maxHeartbeats 2000000 in
theorem m_isNumber {h h1 : AHp} {v : Nat → Int32} {R : Nat → Nat → Int32} {w : List Int32} {p m n at_ : Nat} {C : Nat → Int32} (F : TF v R w) (H : TP h v R p m C h1) (hp : p ≤ w.length) (hn : n ≤ 3) (ha : at_ < 124) : JM mi_X6_isNumber 1 0 0 [.ref 121, .int (nI n), .int (nI at_)] h1 (fun r h' => r = .inl (some (.int (bI (decide (0 < (rdD w n 0 0 p).2.1))))) ∧ TP h v R (rdD w n 0 0 p).2.2 m (upd C at_ (rdD w n 0 0 p).1) h') := by
  have fin : ∀ (x : Int32) (k p : Nat) h1, k ≤ 3 → TP h v R p m C h1 → J mi_X6_isNumber 1 0 0 (fun r' h' => r' = .inl (some (.int (bI (decide (0 < k))))) ∧ TP h v R p m (upd C at_ x) h') 0 0 54 [some (.ref 121), some (.int (nI n)), some (.int (nI at_)), some (.int x), some (.int (nI k))] [] h1 := by
    intro x k p h1 hk H
    have e0 := H.1.1
    have e7 := H.1.2.2.2.2.2.2.2
    rw [aset_at] at e7
    repeat (first | (refine J_step rfl rfl ?_) | (refine J_getf rfl rfl rfl (by assumption) rfl ?_))
    refine J_ws at_ rfl e7 rfl ha (by decide) ?_
    have H2 : TP h v R p m (upd C at_ x) (oj_up h1 (122 + 6) (.inl (0, aN 6, .inl (upd C at_ x)))) := by
      have := MdP.trans H (H.1.arr (i := 6) (by decide) (f := upd C at_ x))
      rw [aset_aset] at this
      exact this
    repeat (first | (refine J_step rfl rfl ?_) | (refine J_getf rfl rfl rfl (by assumption) rfl ?_))
    refine J_if (y := 0) rfl (fun hz => ?_) (fun hz => ?_)
    · have hn0 : ¬ 0 < k := fun z => absurd (show nI k ≤ 0 from hz) (nI_nle z (by omega))
      repeat (first | (refine J_step rfl rfl ?_) | (refine J_getf rfl rfl rfl (by assumption) rfl ?_))
      exact J_zret rfl rfl rfl rfl (decide (0 < k)) (by rw [decide_eq_false hn0]; rfl) ⟨rfl, H2⟩
    · have hn0 : 0 < k := Nat.pos_of_ne_zero fun z => hz (by rw [z]; exact (show nI 0 ≤ 0 by decide))
      repeat (first | (refine J_step rfl rfl ?_) | (refine J_getf rfl rfl rfl (by assumption) rfl ?_))
      exact J_zret rfl rfl rfl rfl (decide (0 < k)) (by rw [decide_eq_true hn0]; rfl) ⟨rfl, H2⟩
  have loop : ∀ k (x : Int32) i p h1, k + i = n → p ≤ w.length → TP h v R p m C h1 → ∀ r, rdD w k x i p = r → J mi_X6_isNumber 1 0 0 (fun r' h' => r' = .inl (some (.int (bI (decide (0 < r.2.1))))) ∧ TP h v R r.2.2 m (upd C at_ r.1) h') 0 0 5 [some (.ref 121), some (.int (nI n)), some (.int (nI at_)), some (.int x), some (.int (nI i))] [] h1 := by
    intro k
    induction k with
    | zero =>
      intro x i p h1 hki hp H r hr
      obtain rfl : i = n := by omega
      rw [← hr]
      repeat (first | (refine J_step rfl rfl ?_) | (refine J_getf rfl rfl rfl (by assumption) rfl ?_))
      refine J_ic rfl (fun _ => ?_) (fun hz => absurd (Int32.le_refl _) hz)
      exact fin x i p h1 (by omega) H
    | succ k ih =>
      intro x i p h1 hki hp H r hr
      have e0 := H.1.1
      have hv8 : fset (fset v 8 (nI p)) 9 (nI m) 8 = nI p := rfl
      rw [rdD] at hr
      repeat (first | (refine J_step rfl rfl ?_) | (refine J_getf rfl rfl rfl (by assumption) rfl ?_))
      refine J_ic rfl (fun hz => absurd hz (nI_ge (by omega) (by omega))) (fun _ => ?_)
      repeat (first | (refine J_step rfl rfl ?_) | (refine J_getf rfl rfl rfl (by assumption) rfl ?_))
      refine J_cV rfl rfl rfl rfl rfl (by assumption) rfl rfl rfl rfl rfl rfl (m_now (d := 0) F H hp) ?_
      repeat (first | (refine J_step rfl rfl ?_) | (refine J_getf rfl rfl rfl (by assumption) rfl ?_))
      refine J_cS rfl rfl rfl rfl rfl rfl rfl rfl rfl rfl rfl (m_isIn (d := 0)) ?_
      by_cases hd : 48 ≤ sg w p ∧ sg w p ≤ 57
      · have hlt := sg_dig hd
        have hnw : nw w p = sg w p := by rw [nw, if_pos hlt]
        rw [if_pos hd] at hr
        rw [hnw, decide_eq_true hd]
        refine J_if (y := 0) rfl (fun hz => absurd hz (show ¬ bI true = 0 by decide)) (fun _ => ?_)
        repeat (first | (refine J_step rfl rfl ?_) | (refine J_getf rfl rfl rfl (by assumption) rfl ?_))
        refine J_cV rfl rfl rfl rfl rfl (by assumption) rfl rfl rfl rfl rfl rfl (m_now (d := 0) F H hp) ?_
        rw [hnw]
        repeat (first | (refine J_step rfl rfl ?_) | (refine J_getf rfl rfl rfl (by assumption) rfl ?_))
        rw [hv8]
        refine J_putf rfl rfl rfl e0 rfl rfl (fun _ => rfl) rfl rfl ?_
        have H2 := H.pos (p' := p + 1) (m' := m)
        have hval : 10 * x + sg w p - 48 = x * 10 + (sg w p - 48) := by rw [Int32.mul_comm, Int32.sub_eq_add_neg, Int32.sub_eq_add_neg, Int32.add_assoc]
        have hs := ih (x * 10 + (sg w p - 48)) (i + 1) (p + 1) _ (by omega) (by omega) H2 r hr
        rw [nI_succ, nI_succ, ← hval] at hs
        iterate 2 (first | (refine J_step rfl rfl ?_) | (refine J_getf rfl rfl rfl (by assumption) rfl ?_))
        exact hs
      · have hz : ¬ (48 ≤ nw w p ∧ nw w p ≤ 57) := by
          unfold nw
          split
          · exact hd
          · decide
        rw [if_neg hd] at hr
        rw [decide_eq_false hz, ← hr]
        refine J_if (y := 0) rfl (fun _ => ?_) (fun hz => absurd rfl hz)
        exact fin x i p h1 (by omega) H
  refine JM_of gd_X6_isNumber rfl (by decide +kernel) (Nat.le_of_ble_eq_true rfl) (oj_cats rfl) (by decide) ?_
  iterate 4 (first | (refine J_step rfl rfl ?_) | (refine J_getf rfl rfl rfl (by assumption) rfl ?_))
  exact loop n 0 0 p h1 rfl hp H _ rfl
def bhd (w : List Int32) (c : Int32) (n p : Nat) : Bool × Nat × Int32 := if sg w p = c then (decide (0 < (rdD w n 0 0 (p + 1)).2.1), (rdD w n 0 0 (p + 1)).2.2, (rdD w n 0 0 (p + 1)).1) else (false, p, 0)
theorem bhd_le {w : List Int32} {c : Int32} {n p : Nat} (h0 : ¬ c = 0) (hp : p ≤ w.length) : (bhd w c n p).2.1 ≤ w.length := by
  unfold bhd
  split
  · rename_i e
    exact rdD_le _ _ _ _ (sg_lt (by rw [e]; exact h0))
  · exact hp
set_option maxRecDepth 100000 in
set_option maxHeartbeats 2000000 in
theorem m_isBehind {h h1 : AHp} {v : Nat → Int32} {R : Nat → Nat → Int32} {w : List Int32} {p m n at_ : Nat} {C : Nat → Int32} {c : Int32} (F : TF v R w) (H : TP h v R p m C h1) (hp : p ≤ w.length) (h0 : ¬ c = 0) (h1' : ¬ c = -1) (hn : n ≤ 3) (ha : at_ < 124) : JM mi_X6_isBehind 2 0 0 [.ref 121, .int c, .int (nI n), .int (nI at_)] h1 (fun r h' => r = .inl (some (.int (bI (bhd w c n p).1))) ∧ ∃ C' : Nat → Int32, TP h v R (bhd w c n p).2.1 m C' h' ∧ (∀ i, i ≠ at_ → C' i = C i) ∧ ((bhd w c n p).1 = true → C' at_ = (bhd w c n p).2.2)) := by
  have e0 := H.1.1
  refine JM_of gd_X6_isBehind rfl (by decide +kernel) (Nat.le_of_ble_eq_true rfl) (oj_cats rfl) (by decide) ?_
  repeat (first | (refine J_step rfl rfl ?_) | (refine J_getf rfl rfl rfl (by assumption) rfl ?_))
  refine J_callV rfl rfl rfl rfl rfl e0 rfl rfl rfl rfl (m_isSign F H hp h0 h1') (Nat.zero_le _) (Nat.zero_le _) (fun E h9 q => by cases q.1) (fun v9 h2 q => ?_)
  obtain ⟨q1, H2⟩ := q
  cases q1
  unfold bhd
  by_cases e : sg w p = c
  · have hlt : p < w.length := sg_lt (by rw [e]; exact h0)
    simp only [if_pos e] at H2 ⊢
    rw [decide_eq_true e]
    have g0 := H2.1.1
    refine J_if (y := 0) rfl (fun hz => absurd hz (show ¬ bI true = 0 by decide)) (fun _ => ?_)
    repeat (first | (refine J_step rfl rfl ?_) | (refine J_getf rfl rfl rfl (by assumption) rfl ?_))
    refine J_callV rfl rfl rfl rfl rfl g0 rfl rfl rfl rfl (m_isNumber F H2 hlt hn ha) (Nat.zero_le _) (Nat.zero_le _) (fun E h9 q => by cases q.1) (fun v9 h3 q => ?_)
    obtain ⟨q1, H3⟩ := q
    cases q1
    have XX := fun b => (⟨_, H3, fun i hi => upd_ne hi, fun _ => upd_at⟩ : ∃ C' : Nat → Int32, TP h v R (rdD w n 0 0 (p + 1)).2.2 m C' h3 ∧ (∀ i, i ≠ at_ → C' i = C i) ∧ (b = true → C' at_ = (rdD w n 0 0 (p + 1)).1))
    refine J_if (y := 0) rfl (fun hz => ?_) (fun hz => ?_)
    · repeat (first | (refine J_step rfl rfl ?_) | (refine J_getf rfl rfl rfl (by assumption) rfl ?_))
      exact J_zret rfl rfl rfl rfl false rfl ⟨by rw [bI_f hz], XX _⟩
    · repeat (first | (refine J_step rfl rfl ?_) | (refine J_getf rfl rfl rfl (by assumption) rfl ?_))
      exact J_zret rfl rfl rfl rfl true rfl ⟨by rw [bI_t hz], XX _⟩
  · simp only [if_neg e] at H2 ⊢
    rw [decide_eq_false e]
    refine J_if (y := 0) rfl (fun _ => ?_) (fun hz => absurd rfl hz)
    repeat (first | (refine J_step rfl rfl ?_) | (refine J_getf rfl rfl rfl (by assumption) rfl ?_))
    exact J_zret rfl rfl rfl rfl false rfl ⟨rfl, C, H2, fun _ _ => rfl, fun z => by cases z⟩
theorem wd_ok : ∀ q, q < 36 → ∀ c ∈ wd q, ¬ c = 0 ∧ ¬ c = -1 := by decide +kernel
set_option maxRecDepth 100000 in
set_option maxHeartbeats 2000000 in
theorem m_isWord {h h1 : AHp} {v : Nat → Int32} {R : Nat → Nat → Int32} {w : List Int32} {p m q : Nat} {C : Nat → Int32} (F : TF v R w) (H : TP h v R p m C h1) (hp : p ≤ w.length) (hq : q < 36) : JM mi_X6_isWord 4 0 0 [.ref 121, .ref (oj_sa q)] h1 (fun r h' => r = .inl (some (.int (bI (rdS w (wd q) p).1))) ∧ TP h v R (rdS w (wd q) p).2 m C h') := by
  have hlq := (sc_all q hq).1
  refine JM_of gd_X6_isWord rfl (by decide +kernel) (Nat.le_of_ble_eq_true rfl) (oj_cats rfl) (by decide) ?_
  have loop : ∀ n j p h1, n + j = oj_len.getD q 0 → p ≤ w.length → TP h v R p m C h1 → ∀ r, rdS w ((wd q).drop j) p = r → J mi_X6_isWord 4 0 0 (fun r' h' => r' = .inl (some (.int (bI r.1))) ∧ TP h v R r.2 m C h') 0 0 2 [some (.ref 121), some (.ref (oj_sa q)), some (.int (nI j))] [] h1 := by
    intro n
    induction n with
    | zero =>
      intro j p h1 hn hp H r hr
      obtain rfl : j = oj_len.getD q 0 := by omega
      rw [← wd_len, List.drop_length] at hr
      repeat (first | (refine J_step rfl rfl ?_) | (refine J_getf rfl rfl rfl (by assumption) rfl ?_))
      refine J_slenT hq rfl (by decide +kernel) rfl rfl rfl rfl ?_
      refine J_ic rfl (fun _ => ?_) (fun hz => absurd (Int32.le_refl _) hz)
      repeat (first | (refine J_step rfl rfl ?_) | (refine J_getf rfl rfl rfl (by assumption) rfl ?_))
      rw [← hr]
      exact J_zret rfl rfl rfl rfl true rfl ⟨rfl, H⟩
    | succ n ih =>
      intro j p h1 hn hp H r hr
      have hj : j < oj_len.getD q 0 := by omega
      have e0 := H.1.1
      rw [wd_at hj, rdS] at hr
      obtain ⟨c0, c1⟩ := wd_ok q hq (sCh q j) (List.mem_of_mem_drop (i := j) (by rw [wd_at hj]; exact List.mem_cons_self))
      repeat (first | (refine J_step rfl rfl ?_) | (refine J_getf rfl rfl rfl (by assumption) rfl ?_))
      refine J_slenT hq rfl (by decide +kernel) rfl rfl rfl rfl ?_
      refine J_ic rfl (fun hz => absurd hz (nI_ge hj (by omega))) (fun _ => ?_)
      repeat (first | (refine J_step rfl rfl ?_) | (refine J_getf rfl rfl rfl (by assumption) rfl ?_))
      refine J_schrT hq hj rfl (by decide +kernel) rfl rfl rfl rfl ?_
      refine J_callV rfl rfl rfl rfl rfl e0 rfl rfl rfl rfl (m_isSign F H hp c0 c1) (Nat.zero_le _) (Nat.zero_le _) (fun E h9 q => by cases q.1) (fun v9 h2 q => ?_)
      obtain ⟨q1, H2⟩ := q
      cases q1
      by_cases e : sg w p = sCh q j
      · have hlt : p < w.length := sg_lt (by rw [e]; exact c0)
        rw [if_pos e] at hr H2
        rw [decide_eq_true e]
        refine J_if (y := 0) rfl (fun _ => ?_) (fun hz => absurd (show ¬ bI true = 0 by decide) hz)
        have hs := ih (j + 1) (p + 1) _ (by omega) (by omega) H2 r hr
        rw [nI_succ] at hs
        iterate 2 (first | (refine J_step rfl rfl ?_) | (refine J_getf rfl rfl rfl (by assumption) rfl ?_))
        exact hs
      · rw [if_neg e] at hr H2
        rw [decide_eq_false e]
        refine J_if (y := 0) rfl (fun hz => absurd rfl hz) (fun _ => ?_)
        repeat (first | (refine J_step rfl rfl ?_) | (refine J_getf rfl rfl rfl (by assumption) rfl ?_))
        rw [← hr]
        exact J_zret rfl rfl rfl rfl false rfl ⟨rfl, H2⟩
  iterate 2 (first | (refine J_step rfl rfl ?_) | (refine J_getf rfl rfl rfl (by assumption) rfl ?_))
  exact loop _ 0 p h1 rfl hp H _ rfl
