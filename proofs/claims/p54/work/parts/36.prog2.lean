/-- digits from p on, at most so many: value, how many, where they end -/
def rdD (w : List Int32) : Nat → Int32 → Nat → Nat → Int32 × Nat × Nat
  | 0, v, n, p => (v, n, p)
  | k + 1, v, n, p => if 48 ≤ sg w p ∧ sg w p ≤ 57 then rdD w k (v * 10 + (sg w p - 48)) (n + 1) (p + 1) else (v, n, p)
theorem sg_dig {w : List Int32} {p : Nat} (h : 48 ≤ sg w p ∧ sg w p ≤ 57) : p < w.length := sg_lt fun z => absurd h.1 (by rw [z]; decide)
theorem rdD_le {w : List Int32} : ∀ (k : Nat) (v : Int32) (n p : Nat), p ≤ w.length → (rdD w k v n p).2.2 ≤ w.length
  | 0, _, _, _, h => h
  | k + 1, v, n, p, h => by
    unfold rdD
    split
    · rename_i e
      exact rdD_le k _ _ _ (sg_dig e)
    · exact h
theorem rdD_ge {w : List Int32} : ∀ (k : Nat) (v : Int32) (n p : Nat), p ≤ (rdD w k v n p).2.2 ∧ n ≤ (rdD w k v n p).2.1 ∧ (rdD w k v n p).2.1 ≤ n + k
  | 0, _, _, _ => ⟨Nat.le_refl _, Nat.le_refl _, Nat.le_refl _⟩
  | k + 1, v, n, p => by
    unfold rdD
    split
    · have := rdD_ge (w := w) k (v * 10 + (sg w p - 48)) (n + 1) (p + 1)
      omega
    · exact ⟨Nat.le_refl _, Nat.le_refl _, Nat.le_add_right _ _⟩
set_option maxRecDepth 100000 in
set_option maxHeartbeats 2000000 in
theorem c_readDigits {h h1 : AHp} {P p m most i : Nat} {w : List Int32} {T : Nat → Nat → Int32} (H : PgP h P w T p m h1) (hw : wOk w) (hp : p ≤ w.length) (hi : i < 4) (hm : m < 16) (hmo : most ≤ 3) : JM mi_X4_readDigits 1 0 0 [.ref P, .ref (P + 2 + i), .int (nI most)] h1 (fun r h' => r = .inl (some (.int (bI (decide (0 < (rdD w most 0 0 p).2.1))))) ∧ PgP h P w (tset T i m (rdD w most 0 0 p).1) (rdD w most 0 0 p).2.2 m h') := by
  have hw60 := H.1.2.2.2.2.2.2
  refine JM_of gd_X4_readDigits rfl (by decide +kernel) (Nat.le_of_ble_eq_true rfl) (oj_cats rfl) (by decide) ?_
  have fin : ∀ (v : Int32) (n p : Nat) h1, n ≤ 3 → PgP h P w T p m h1 → J mi_X4_readDigits 1 0 0 (fun r' h' => r' = .inl (some (.int (bI (decide (0 < n))))) ∧ PgP h P w (tset T i m v) p m h') 0 0 58 [some (.ref P), some (.ref (P + 2 + i)), some (.int (nI most)), some (.int v), some (.int (nI n))] [] h1 := by
    intro v n p h1 hn H
    have e0 := H.1.1
    have hcol : h1 (P + 2 + i) = .inl (0, 16, .inl (T i)) := by
      obtain ⟨-, -, e2, e3, e4, e5, -⟩ := H.1
      match i, hi with
      | 0, _ => exact e2
      | 1, _ => exact e3
      | 2, _ => exact e4
      | 3, _ => exact e5
    repeat (first | (refine J_step rfl rfl ?_) | (refine J_getf rfl rfl rfl (by assumption) rfl ?_))
    refine J_iast rfl hcol (vp_in_nI (by omega) (by omega)) ?_
    rw [nI_clamp (by omega)]
    have H2 := H.trans (H.1.col (j := m) (v := v) hi)
    repeat (first | (refine J_step rfl rfl ?_) | (refine J_getf rfl rfl rfl (by assumption) rfl ?_))
    refine J_if (y := 0) rfl (fun hz => ?_) (fun hz => ?_)
    · have hn0 : ¬ 0 < n := fun z => absurd (show nI n ≤ nI 0 from hz) (nI_ge z (by omega))
      repeat (first | (refine J_step rfl rfl ?_) | (refine J_getf rfl rfl rfl (by assumption) rfl ?_))
      exact J_zret rfl rfl rfl rfl (decide (0 < n)) (by rw [decide_eq_false hn0]; rfl) ⟨rfl, H2⟩
    · have hn0 : 0 < n := Nat.pos_of_ne_zero fun z => hz (by rw [z]; exact (show nI 0 ≤ 0 by decide))
      repeat (first | (refine J_step rfl rfl ?_) | (refine J_getf rfl rfl rfl (by assumption) rfl ?_))
      exact J_zret rfl rfl rfl rfl (decide (0 < n)) (by rw [decide_eq_true hn0]; rfl) ⟨rfl, H2⟩
  have loop : ∀ k (v : Int32) n p h1, k + n = most → p ≤ w.length → PgP h P w T p m h1 → ∀ r, rdD w k v n p = r → J mi_X4_readDigits 1 0 0 (fun r' h' => r' = .inl (some (.int (bI (decide (0 < r.2.1))))) ∧ PgP h P w (tset T i m r.1) r.2.2 m h') 0 0 5 [some (.ref P), some (.ref (P + 2 + i)), some (.int (nI most)), some (.int v), some (.int (nI n))] [] h1 := by
    intro k
    induction k with
    | zero =>
      intro v n p h1 hn hp H r hr
      obtain rfl : n = most := by omega
      rw [← hr]
      repeat (first | (refine J_step rfl rfl ?_) | (refine J_getf rfl rfl rfl (by assumption) rfl ?_))
      refine J_ic rfl (fun _ => ?_) (fun hz => absurd (Int32.le_refl _) hz)
      exact fin v n p h1 (by omega) H
    | succ k ih =>
      intro v n p h1 hn hp H r hr
      have e0 := H.1.1
      rw [rdD] at hr
      repeat (first | (refine J_step rfl rfl ?_) | (refine J_getf rfl rfl rfl (by assumption) rfl ?_))
      refine J_ic rfl (fun hz => absurd hz (nI_ge (by omega) (by omega))) (fun _ => ?_)
      repeat (first | (refine J_step rfl rfl ?_) | (refine J_getf rfl rfl rfl (by assumption) rfl ?_))
      refine J_cV rfl rfl rfl rfl rfl (by assumption) rfl rfl rfl rfl rfl rfl (c_signAt (d := 0) H.1 hw (by omega)) ?_
      refine J_cS rfl rfl rfl rfl rfl rfl rfl rfl rfl rfl rfl (c_isDigit (d := 0)) ?_
      refine J_if (y := 0) rfl (fun hz => ?_) (fun hz => ?_)
      · have hd : ¬ (48 ≤ sg w p ∧ sg w p ≤ 57) := fun z => by rw [decide_eq_true z] at hz; exact absurd hz (show ¬ bI true = 0 by decide)
        rw [if_neg hd] at hr
        rw [← hr]
        exact fin v n p h1 (by omega) H
      · have hd : 48 ≤ sg w p ∧ sg w p ≤ 57 := by
          by_cases z : 48 ≤ sg w p ∧ sg w p ≤ 57
          · exact z
          · rw [decide_eq_false z] at hz; exact absurd (show bI false = 0 from rfl) hz
        rw [if_pos hd] at hr
        have hlt := sg_dig hd
        repeat (first | (refine J_step rfl rfl ?_) | (refine J_getf rfl rfl rfl (by assumption) rfl ?_))
        refine J_cV rfl rfl rfl rfl rfl (by assumption) rfl rfl rfl rfl rfl rfl (c_signAt (d := 0) H.1 hw (by omega)) ?_
        repeat (first | (refine J_step rfl rfl ?_) | (refine J_getf rfl rfl rfl (by assumption) rfl ?_))
        refine J_putf rfl rfl rfl e0 rfl rfl (fun _ => rfl) rfl rfl ?_
        have H2 := H.trans (H.1.fld (w' := w) (p' := p + 1) (m' := m) (fun _ _ z => z) hw60)
        rw [nI_succ] at H2
        have hs := ih (v * 10 + (sg w p - 48)) (n + 1) (p + 1) _ (by omega) (by omega) H2 r hr
        rw [nI_succ] at hs
        iterate 2 (first | (refine J_step rfl rfl ?_) | (refine J_getf rfl rfl rfl (by assumption) rfl ?_))
        exact hs
  iterate 4 (first | (refine J_step rfl rfl ?_) | (refine J_getf rfl rfl rfl (by assumption) rfl ?_))
  exact loop most 0 0 p h1 rfl hp H _ rfl
set_option maxRecDepth 100000 in
set_option maxHeartbeats 2000000 in
theorem c_readMinutes {h h1 : AHp} {P p m : Nat} {w : List Int32} {T : Nat → Nat → Int32} (H : PgP h P w T p m h1) (hw : wOk w) (hp : p ≤ w.length) (hm : m < 16) : JM mi_X4_readMinutes 2 0 0 [.ref P] h1 (fun r h' => if sg w p = 32 then r = .inl (some (.int (bI (decide (0 < (rdD w 3 0 0 (p + 1)).2.1))))) ∧ PgP h P w (tset T 1 m (rdD w 3 0 0 (p + 1)).1) (rdD w 3 0 0 (p + 1)).2.2 m h' else r = .inl (some (.int (bI true))) ∧ PgP h P w (tset T 1 m 1) p m h') := by
  have hw60 := H.1.2.2.2.2.2.2
  have e0 := H.1.1
  refine JM_of gd_X4_readMinutes rfl (by decide +kernel) (Nat.le_of_ble_eq_true rfl) (oj_cats rfl) (by decide) ?_
  repeat (first | (refine J_step rfl rfl ?_) | (refine J_getf rfl rfl rfl (by assumption) rfl ?_))
  refine J_cV rfl rfl rfl rfl rfl (by assumption) rfl rfl rfl rfl rfl rfl (c_signAt (d := 0) H.1 hw (by omega)) ?_
  repeat (first | (refine J_step rfl rfl ?_) | (refine J_getf rfl rfl rfl (by assumption) rfl ?_))
  refine J_ic rfl (fun hz => ?_) (fun hz => ?_)
  · have hz : ¬ sg w p = 32 := hz
    repeat (first | (refine J_step rfl rfl ?_) | (refine J_getf rfl rfl rfl (by assumption) rfl ?_))
    refine J_iast rfl H.1.2.2.2.1 (vp_in_nI (by omega) (by omega)) ?_
    rw [nI_clamp (by omega)]
    have H2 := H.trans (H.1.col (i := 1) (j := m) (v := 1) (by omega))
    repeat (first | (refine J_step rfl rfl ?_) | (refine J_getf rfl rfl rfl (by assumption) rfl ?_))
    refine J_zret rfl rfl rfl rfl true rfl ?_
    rw [if_neg hz]
    exact ⟨rfl, H2⟩
  · have hz : sg w p = 32 := by simpa [oj_cc] using hz
    have hlt : p < w.length := sg_lt (by rw [hz]; decide)
    repeat (first | (refine J_step rfl rfl ?_) | (refine J_getf rfl rfl rfl (by assumption) rfl ?_))
    refine J_putf rfl rfl rfl e0 rfl rfl (fun _ => rfl) rfl rfl ?_
    have H2 := H.trans (H.1.fld (w' := w) (p' := p + 1) (m' := m) (fun _ _ z => z) hw60)
    rw [nI_succ] at H2
    refine J_heap (h2 := oj_up h1 P (.inr (4, [.ref (P + 1), .ref (P + 2), .ref (P + 3), .ref (P + 4), .ref (P + 5), .int (nI w.length), .int (nI p + 1), .int (nI m)]))) rfl ?_
    generalize oj_up h1 P (.inr (4, [.ref (P + 1), .ref (P + 2), .ref (P + 3), .ref (P + 4), .ref (P + 5), .int (nI w.length), .int (nI p + 1), .int (nI m)])) = h2 at H2 ⊢
    have g0 := H2.1.1
    clear e0
    repeat (first | (refine J_step rfl rfl ?_) | (refine J_getf rfl rfl rfl (by assumption) rfl ?_))
    refine J_callV rfl rfl rfl rfl rfl g0 rfl rfl rfl rfl (c_readDigits (i := 1) (most := 3) H2 hw (by omega) (by omega) hm (by omega)) (Nat.le_refl _) (Nat.le_refl _) (fun E h9 q => by cases q.1) (fun v h9 q => ?_)
    obtain ⟨q1, q2⟩ := q
    cases q1
    refine J_zret rfl rfl rfl rfl _ rfl ?_
    rw [if_pos hz]
    exact ⟨rfl, q2⟩
set_option maxRecDepth 100000 in
set_option maxHeartbeats 2000000 in
theorem c_readStart {h h1 : AHp} {P p m q k : Nat} {w : List Int32} {T : Nat → Nat → Int32} (H : PgP h P w T p m h1) (hw : wOk w) (hp : p ≤ w.length) (hm : m < 16) (hq : q < 32) : JM mi_X4_readStart 5 0 0 [.ref P, .int (nI k), .ref (oj_sa q)] h1 (fun r h' => r = .inl (some (.int (bI (rdS w (wd q) p).1))) ∧ PgP h P w (tset T 0 m (nI k)) (rdS w (wd q) p).2 m h') := by
  have e0 := H.1.1
  refine JM_of gd_X4_readStart rfl (by decide +kernel) (Nat.le_of_ble_eq_true rfl) (oj_cats rfl) (by decide) ?_
  repeat (first | (refine J_step rfl rfl ?_) | (refine J_getf rfl rfl rfl (by assumption) rfl ?_))
  refine J_iast rfl H.1.2.2.1 (vp_in_nI (by omega) (by omega)) ?_
  rw [nI_clamp (by omega)]
  have H2 := H.trans (H.1.col (i := 0) (j := m) (v := nI k) (by omega))
  have g0 := H2.1.1
  repeat (first | (refine J_step rfl rfl ?_) | (refine J_getf rfl rfl rfl (by assumption) rfl ?_))
  refine J_callV rfl rfl rfl rfl rfl g0 rfl rfl rfl rfl (c_readWord H2 hw hp hq) (Nat.le_refl _) (Nat.le_refl _) (fun E h9 q => by cases q.1) (fun v h9 q => ?_)
  obtain ⟨q1, q2⟩ := q
  cases q1
  exact J_zret rfl rfl rfl rfl _ rfl ⟨rfl, q2⟩
