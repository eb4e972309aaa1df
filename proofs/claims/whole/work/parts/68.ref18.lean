def chK : Nat → Int32
  | 0 => 112
  | 1 => 114
  | 2 => 115
  | 3 => 116
  | 4 => 99
  | _ => 119
theorem rdC_ch {w : List Int32} {p : Nat} : (rdC w p).1 = true → chK (rdC w p).2.2.1 = sg w p := by
  have A : ∀ (q p' : Nat) (k : Nat → RC) (c : Int32), (∀ p'', (k p'').1 = true → chK (k p'').2.2.1 = c) → (gW w q p' k).1 = true → chK (gW w q p' k).2.2.1 = c := fun q p' k c hk => gW_P (fun R => R.1 = true → chK R.2.2.1 = c) (fun z => by cases z) (fun _ => hk _)
  have B : ∀ (n p' : Nat) (k : Int32 → Nat → RC) (c : Int32), (∀ x p'', (k x p'').1 = true → chK (k x p'').2.2.1 = c) → (gD w n p' k).1 = true → chK (gD w n p' k).2.2.1 = c := fun n p' k c hk => gD_P (fun R => R.1 = true → chK R.2.2.1 = c) (fun z => by cases z) (hk _ _)
  unfold rdC
  by_cases s0 : sg w p = 112
  · rw [if_pos s0, s0]
    exact A _ _ _ _ fun p1 => B _ _ _ _ fun x p2 => A _ _ _ _ fun p3 => B _ _ _ _ fun y p4 => A _ _ _ _ fun p5 => B _ _ _ _ fun z p6 _ => rfl
  rw [if_neg s0]
  by_cases s1 : sg w p = 114
  · rw [if_pos s1, s1]
    exact A _ _ _ _ fun p1 => B _ _ _ _ fun x p2 _ => rfl
  rw [if_neg s1]
  by_cases s2 : sg w p = 115
  · rw [if_pos s2, s2]
    exact A _ _ _ _ fun p1 => B _ _ _ _ fun x p2 => A _ _ _ _ fun p3 => B _ _ _ _ fun y p4 _ => rfl
  rw [if_neg s2]
  by_cases s3 : sg w p = 116
  · rw [if_pos s3, s3]
    exact A _ _ _ _ fun p1 _ => rfl
  rw [if_neg s3]
  by_cases s4 : sg w p = 99
  · rw [if_pos s4, s4]
    exact A _ _ _ _ fun p1 => B _ _ _ _ fun x p2 _ => rfl
  rw [if_neg s4]
  by_cases s5 : sg w p = 119
  · rw [if_pos s5, s5]
    refine A _ _ _ _ fun p1 => ?_
    by_cases e : sg w p1 = 32
    · rw [if_pos e]
      exact B _ _ _ _ fun x p2 _ => rfl
    · rw [if_neg e]
      exact fun _ => rfl
  rw [if_neg s5]
  exact fun z => by cases z
theorem rdC_no {w : List Int32} {p : Nat} (h : ¬ (sg w p = 112 ∨ sg w p = 114 ∨ sg w p = 115 ∨ sg w p = 116 ∨ sg w p = 99 ∨ sg w p = 119)) : rdC w p = (false, p, 0, 0, 0, 0) := by
  simp only [not_or] at h
  obtain ⟨s0, s1, s2, s3, s4, s5⟩ := h
  unfold rdC
  rw [if_neg s0, if_neg s1, if_neg s2, if_neg s3, if_neg s4, if_neg s5]
set_option maxRecDepth 100000 in
set_option maxHeartbeats 2000000 in
theorem m_readsCommand {h h1 : AHp} {v : Nat → Int32} {R : Nat → Nat → Int32} {w : List Int32} {p m : Nat} {C : Nat → Int32} (F : TF v R w) (H : TP h v R p m C h1) (hp : p ≤ w.length) (hm : m ≤ 28) : JM mi_X6_readsCommand 7 0 0 [.ref 121] h1 (fun r h' => r = .inl (some (.int (bI (rdC w p).1))) ∧ ∃ (m' : Nat) (C' : Nat → Int32), TP h v R (rdC w p).2.1 m' C' h' ∧ (∀ i, i < 4 * m → C' i = C i) ∧ ((rdC w p).1 = true → m' = m + 1 ∧ C' (4 * m) = chK (rdC w p).2.2.1 ∧ nc (rdC w p).2.2.1 (C' (4 * m + 1)) (C' (4 * m + 2)) (C' (4 * m + 3)) = nc (rdC w p).2.2.1 (rdC w p).2.2.2.1 (rdC w p).2.2.2.2.1 (rdC w p).2.2.2.2.2)) := by
  have e0 := H.1.1
  have hv9 : fset (fset v 8 (nI p)) 9 (nI m) 9 = nI m := rfl
  have hx4 : 4 * nI m = nI (4 * m) := nI_mul 4 m
  refine JM_of gd_X6_readsCommand rfl (by decide +kernel) (Nat.le_of_ble_eq_true rfl) (oj_cats rfl) (by decide) ?_
  repeat (first | (refine J_step rfl rfl ?_) | (refine J_getf rfl rfl rfl (by assumption) rfl ?_))
  rw [hv9, hx4]
  repeat (first | (refine J_step rfl rfl ?_) | (refine J_getf rfl rfl rfl (by assumption) rfl ?_))
  refine J_cV rfl rfl rfl rfl rfl (by assumption) rfl rfl rfl rfl rfl rfl (m_now (d := 0) F H hp) ?_
  repeat (first | (refine J_step rfl rfl ?_) | (refine J_getf rfl rfl rfl (by assumption) rfl ?_))
  refine J_cS rfl rfl rfl rfl rfl rfl rfl rfl rfl rfl rfl (m_isFirst (d := 0)) ?_
  have hiff : (nw w p = 112 ∨ nw w p = 114 ∨ nw w p = 115 ∨ nw w p = 116 ∨ nw w p = 99 ∨ nw w p = 119) ↔ (sg w p = 112 ∨ sg w p = 114 ∨ sg w p = 115 ∨ sg w p = 116 ∨ sg w p = 99 ∨ sg w p = 119) := by
    rw [nw_eq (c := 112) (by decide) (by decide), nw_eq (c := 114) (by decide) (by decide), nw_eq (c := 115) (by decide) (by decide), nw_eq (c := 116) (by decide) (by decide), nw_eq (c := 99) (by decide) (by decide), nw_eq (c := 119) (by decide) (by decide)]
  by_cases hf : sg w p = 112 ∨ sg w p = 114 ∨ sg w p = 115 ∨ sg w p = 116 ∨ sg w p = 99 ∨ sg w p = 119
  · have hlt : p < w.length := by
      refine sg_lt fun z => ?_
      rw [z] at hf
      rcases hf with q | q | q | q | q | q <;> exact absurd q (by decide)
    have hnw : nw w p = sg w p := by rw [nw, if_pos hlt]
    rw [decide_eq_true (hiff.mpr hf)]
    refine J_if (y := 0) rfl (fun _ => ?_) (fun hz => absurd (show ¬ bI true = 0 by decide) hz)
    have e7 := H.1.2.2.2.2.2.2.2
    rw [aset_at] at e7
    repeat (first | (refine J_step rfl rfl ?_) | (refine J_getf rfl rfl rfl (by assumption) rfl ?_))
    refine J_ws (4 * m) rfl e7 rfl (by omega) (by decide) ?_
    have K1 : TP h v R p m (upd C (4 * m) (nw w p)) (oj_up h1 (122 + 6) (.inl (0, aN 6, .inl (upd C (4 * m) (nw w p))))) := by
      have := MdP.trans H (H.1.arr (i := 6) (by decide) (f := upd C (4 * m) (nw w p)))
      rw [aset_aset] at this
      exact this
    refine J_heap (h2 := oj_up h1 (122 + 6) (.inl (0, aN 6, .inl (upd C (4 * m) (nw w p))))) rfl ?_
    generalize oj_up h1 (122 + 6) (.inl (0, aN 6, .inl (upd C (4 * m) (nw w p)))) = k1 at K1 ⊢
    have D0 : ∀ i, i < 4 * m → upd C (4 * m) (nw w p) i = C i := fun i hi => upd_ne (by omega)
    have D1 : upd C (4 * m) (nw w p) (4 * m) = sg w p := upd_at.trans hnw
    generalize upd C (4 * m) (nw w p) = D at K1 D0 D1
    clear e0 e7
    have e0 := K1.1.1
    have hv8 : fset (fset v 8 (nI p)) 9 (nI m) 8 = nI p := rfl
    repeat (first | (refine J_step rfl rfl ?_) | (refine J_getf rfl rfl rfl (by assumption) rfl ?_))
    rw [hv8]
    refine J_putf rfl rfl rfl e0 rfl rfl (fun _ => rfl) rfl rfl ?_
    have K2 := K1.pos (p' := p + 1) (m' := m)
    have hx : rO (fset (fset v 8 (nI p + 1)) 9 (nI m)) = rO (fset (fset v 8 (nI (p + 1))) 9 (nI m)) := by rw [nI_succ]
    refine J_heap (h2 := oj_up k1 121 (rO (fset (fset v 8 (nI (p + 1))) 9 (nI m)))) (by rw [← hx]; rfl) ?_
    generalize oj_up k1 121 (rO (fset (fset v 8 (nI (p + 1))) 9 (nI m))) = k2 at K2 ⊢
    clear e0
    have e0 := K2.1.1
    have hv9' : fset (fset v 8 (nI (p + 1))) 9 (nI m) 9 = nI m := rfl
    repeat (first | (refine J_step rfl rfl ?_) | (refine J_getf rfl rfl rfl (by assumption) rfl ?_))
    rw [hv9']
    refine J_putf rfl rfl rfl e0 rfl rfl (fun _ => rfl) rfl rfl ?_
    have K3 := K2.pos (p' := p + 1) (m' := m + 1)
    have hx2 : rO (fset (fset v 8 (nI (p + 1))) 9 (nI m + 1)) = rO (fset (fset v 8 (nI (p + 1))) 9 (nI (m + 1))) := by rw [nI_succ m]
    refine J_heap (h2 := oj_up k2 121 (rO (fset (fset v 8 (nI (p + 1))) 9 (nI (m + 1))))) (by rw [← hx2]; rfl) ?_
    generalize oj_up k2 121 (rO (fset (fset v 8 (nI (p + 1))) 9 (nI (m + 1)))) = k3 at K3 ⊢
    clear e0
    have e0 := K3.1.1
    repeat (first | (refine J_step rfl rfl ?_) | (refine J_getf rfl rfl rfl (by assumption) rfl ?_))
    rw [hnw]
    refine J_callV rfl rfl rfl rfl rfl e0 rfl rfl rfl rfl (m_readsRest F K3 hlt hm hf) (Nat.zero_le _) (Nat.zero_le _) (fun E h9 q => by cases q.1) (fun v9 h5 q => ?_)
    obtain ⟨q1, C', K5, N5, V5⟩ := q
    cases q1
    exact J_zret rfl rfl rfl rfl _ rfl ⟨rfl, m + 1, C', K5, fun i hi => (N5 i (by omega)).trans (D0 i hi), fun z => ⟨rfl, ((N5 _ (by omega)).trans D1).trans (rdC_ch z).symm, V5 z⟩⟩
  · rw [decide_eq_false (fun z => hf (hiff.mp z)), rdC_no hf]
    refine J_if (y := 0) rfl (fun hz => absurd rfl hz) (fun _ => ?_)
    repeat (first | (refine J_step rfl rfl ?_) | (refine J_getf rfl rfl rfl (by assumption) rfl ?_))
    exact J_zret rfl rfl rfl rfl false rfl ⟨rfl, m, C, H, fun _ _ => rfl, fun z => by cases z⟩
def CmC (C : Nat → Int32) (cs : List CMD) : Prop := ∀ j c, cs[j]? = some c → C (4 * j) = chK c.1 ∧ nc c.1 (C (4 * j + 1)) (C (4 * j + 2)) (C (4 * j + 3)) = nc c.1 c.2.1 c.2.2.1 c.2.2.2 ∧ c.1 ≤ 5
theorem cmC_ext {C C' : Nat → Int32} {cs : List CMD} {c : CMD} {m : Nat} (hm : m = cs.length) (hC : CmC C cs) (hT : ∀ i, i < 4 * m → C' i = C i) (hk : C' (4 * m) = chK c.1 ∧ nc c.1 (C' (4 * m + 1)) (C' (4 * m + 2)) (C' (4 * m + 3)) = nc c.1 c.2.1 c.2.2.1 c.2.2.2) (h5 : c.1 ≤ 5) : CmC C' (cs ++ [c]) := by
  intro j c' hj
  by_cases z : j = m
  · subst z
    rw [hm, List.getElem?_append_right (Nat.le_refl _)] at hj
    have : c = c' := by simpa using hj
    subst this
    exact ⟨hk.1, hk.2, h5⟩
  · have hlt : j < cs.length := by
      have := (List.getElem?_eq_some_iff.mp hj).1
      rw [List.length_append] at this
      have : j < cs.length + 1 := this
      omega
    rw [List.getElem?_append_left hlt] at hj
    have := hC j c' hj
    rw [hT _ (by omega), hT _ (by omega), hT _ (by omega), hT _ (by omega)]
    exact this
set_option maxRecDepth 100000 in
set_option maxHeartbeats 2000000 in
theorem m_isProgramA {h : AHp} {v : Nat → Int32} {R : Nat → Nat → Int32} {w : List Int32} (F : TF v R w) (HA : MdAt h v R) : JM mi_X6_isProgram 8 0 0 [.ref 121] h (fun r h' => r = .inl (some (.int (bI (rdP w).1))) ∧ ∃ (m' : Nat) (C' : Nat → Int32), TP h v R (rdP w).2.1 m' C' h' ∧ ((rdP w).1 = true → m' = (rdP w).2.2.length ∧ CmC C' (rdP w).2.2)) := by
  have e0 := HA.1
  have w60 := F.2.1
  have f7 := F.1
  refine JM_of gd_X6_isProgram rfl (by decide +kernel) (Nat.le_of_ble_eq_true rfl) (oj_cats rfl) (by decide) ?_
  -- the end of the loop
  have fin : ∀ (h2 : AHp) p m C (ok : Bool) (r : Bool × Nat × List CMD), TP h v R p m C h2 → p ≤ w.length → r.2.1 = p → r.1 = (ok && decide (p = w.length)) → (r.1 = true → m = r.2.2.length ∧ CmC C r.2.2) → J mi_X6_isProgram 8 0 0 (fun r' h' => r' = .inl (some (.int (bI r.1))) ∧ ∃ (m' : Nat) (C' : Nat → Int32), TP h v R r.2.1 m' C' h' ∧ (r.1 = true → m' = r.2.2.length ∧ CmC C' r.2.2)) 0 0 36 [some (.ref 121), some (.int (bI ok))] [] h2 := by
    intro h2 p m C ok r H2 hp hr hr1 hok
    have e0 := H2.1.1
    have hv8 : fset (fset v 8 (nI p)) 9 (nI m) 8 = nI p := rfl
    have hv7 : fset (fset v 8 (nI p)) 9 (nI m) 7 = nI w.length := f7
    repeat (first | (refine J_step rfl rfl ?_) | (refine J_getf rfl rfl rfl (by assumption) rfl ?_))
    refine J_if (y := 0) rfl (fun hz => ?_) (fun hz => ?_)
    · have hb := bI_f hz
      rw [hb] at hr1
      repeat (first | (refine J_step rfl rfl ?_) | (refine J_getf rfl rfl rfl (by assumption) rfl ?_))
      exact J_zret rfl rfl rfl rfl false rfl ⟨by rw [hr1]; rfl, m, C, by rw [hr]; exact H2, hok⟩
    · have hb := bI_t hz
      rw [hb] at hr1
      repeat (first | (refine J_step rfl rfl ?_) | (refine J_getf rfl rfl rfl (by assumption) rfl ?_))
      rw [hv8, hv7]
      refine J_ic rfl (fun hq => ?_) (fun hq => ?_)
      · have hz : ¬ p = w.length := fun z => hq (by rw [z])
        rw [decide_eq_false hz] at hr1
        repeat (first | (refine J_step rfl rfl ?_) | (refine J_getf rfl rfl rfl (by assumption) rfl ?_))
        exact J_zret rfl rfl rfl rfl false rfl ⟨by rw [hr1]; rfl, m, C, by rw [hr]; exact H2, hok⟩
      · have hz : p = w.length := (nI_eq (by omega) (by omega)).mp (Classical.not_not.mp hq)
        rw [decide_eq_true hz] at hr1
        repeat (first | (refine J_step rfl rfl ?_) | (refine J_getf rfl rfl rfl (by assumption) rfl ?_))
        exact J_zret rfl rfl rfl rfl true rfl ⟨by rw [hr1]; rfl, m, C, by rw [hr]; exact H2, hok⟩
  have loop : ∀ n ok p cs m C h2, p ≤ w.length → (ok = true → w.length < p + n) → TP h v R p m C h2 → (ok = true → m = cs.length ∧ CmC C cs ∧ 5 * cs.length ≤ p + 1) → ∀ r, rdL w n ok p cs = r → J mi_X6_isProgram 8 0 0 (fun r' h' => r' = .inl (some (.int (bI r.1))) ∧ ∃ (m' : Nat) (C' : Nat → Int32), TP h v R r.2.1 m' C' h' ∧ (r.1 = true → m' = r.2.2.length ∧ CmC C' r.2.2)) 0 0 15 [some (.ref 121), some (.int (bI ok))] [] h2 := by
    intro n
    induction n with
    | zero =>
      intro ok p cs m C h2 hp hn H hok r hr
      cases ok with
      | true => exact absurd (hn rfl) (by omega)
      | false =>
        repeat (first | (refine J_step rfl rfl ?_) | (refine J_getf rfl rfl rfl (by assumption) rfl ?_))
        refine J_if (y := 0) rfl (fun _ => ?_) (fun hz => absurd rfl hz)
        subst hr
        exact fin h2 p m C false (false, p, cs) H hp rfl rfl (fun z => by cases z)
    | succ n ih =>
      intro ok p cs m C h2 hp hn H hok r hr
      cases ok with
      | false =>
        rw [rdL, if_neg (fun z => by cases z.1)] at hr
        repeat (first | (refine J_step rfl rfl ?_) | (refine J_getf rfl rfl rfl (by assumption) rfl ?_))
        refine J_if (y := 0) rfl (fun _ => ?_) (fun hz => absurd rfl hz)
        subst hr
        exact fin h2 p m C false (false, p, cs) H hp rfl rfl (fun z => by cases z)
      | true =>
        obtain ⟨k1, k2, k3⟩ := hok rfl
        have hn := hn rfl
        have e0 := H.1.1
        rw [rdL] at hr
        repeat (first | (refine J_step rfl rfl ?_) | (refine J_getf rfl rfl rfl (by assumption) rfl ?_))
        refine J_if (y := 0) rfl (fun hz => absurd hz (show ¬ bI true = 0 by decide)) (fun _ => ?_)
        repeat (first | (refine J_step rfl rfl ?_) | (refine J_getf rfl rfl rfl (by assumption) rfl ?_))
        refine J_callV rfl rfl rfl rfl rfl e0 rfl rfl rfl rfl (m_isSign (c := 59) F H hp (by decide) (by decide)) (Nat.zero_le _) (Nat.zero_le _) (fun E h9 q => by cases q.1) (fun v9 h3 q => ?_)
        obtain ⟨q1, H3⟩ := q
        cases q1
        by_cases e : sg w p = 59
        · have hlt : p < w.length := sg_lt (by rw [e]; decide)
          rw [if_pos ⟨rfl, hlt⟩, if_pos e] at hr
          rw [if_pos e] at H3
          rw [decide_eq_true e]
          have g0 := H3.1.1
          have hadv := rdC_adv (w := w) (p := p + 1) hlt
          refine J_if (y := 0) rfl (fun hz => absurd hz (show ¬ bI true = 0 by decide)) (fun _ => ?_)
          repeat (first | (refine J_step rfl rfl ?_) | (refine J_getf rfl rfl rfl (by assumption) rfl ?_))
          refine J_callV rfl rfl rfl rfl rfl g0 rfl rfl rfl rfl (m_readsCommand F H3 hlt (by omega)) (Nat.zero_le _) (Nat.zero_le _) (fun E h9 q => by cases q.1) (fun v9 h4 q => ?_)
          obtain ⟨q1, m', C', H4, N4, V4⟩ := q
          cases q1
          generalize rdC w (p + 1) = Q at *
          have hs := ih Q.1 Q.2.1 (cadd Q cs) m' C' h4 hadv.2.1 (fun z => by have := hadv.2.2.2 z; omega) H4 (fun z => by
            obtain ⟨a1, a2, a3⟩ := V4 z
            have h4 := hadv.2.2.2 z
            rw [cadd, if_pos z]
            have hl : (cs ++ [Q.2.2]).length = cs.length + 1 := by rw [List.length_append]; rfl
            exact ⟨by omega, cmC_ext k1 k2 N4 ⟨a2, a3⟩ hadv.2.2.1, by omega⟩) r hr
          iterate 2 (first | (refine J_step rfl rfl ?_) | (refine J_getf rfl rfl rfl (by assumption) rfl ?_))
          exact hs
        · rw [decide_eq_false e]
          rw [if_neg e] at H3
          refine J_if (y := 0) rfl (fun _ => ?_) (fun hz => absurd rfl hz)
          by_cases hlt : p < w.length
          · rw [if_pos ⟨rfl, hlt⟩, if_neg e] at hr
            subst hr
            exact fin h3 p m C true (false, p, cs) H3 hp rfl (by rw [decide_eq_false (by omega)]; rfl) (fun z => by cases z)
          · rw [if_neg (fun z => hlt z.2)] at hr
            subst hr
            exact fin h3 p m C true (true, p, cs) H3 hp rfl (by rw [decide_eq_true (by omega)]; rfl) (fun _ => ⟨k1, k2⟩)
  repeat (first | (refine J_step rfl rfl ?_) | (refine J_getf rfl rfl rfl (by assumption) rfl ?_))
  refine J_putf rfl rfl rfl e0 rfl rfl (fun _ => rfl) rfl rfl ?_
  have H1 := HA.fld (v' := fset v 8 (nI 0))
  refine J_heap (h2 := oj_up h 121 (rO (fset v 8 (nI 0)))) rfl ?_
  generalize oj_up h 121 (rO (fset v 8 (nI 0))) = h2 at H1 ⊢
  clear e0
  have e0 := H1.1.1
  repeat (first | (refine J_step rfl rfl ?_) | (refine J_getf rfl rfl rfl (by assumption) rfl ?_))
  refine J_putf rfl rfl rfl e0 rfl rfl (fun _ => rfl) rfl rfl ?_
  have H2 : TP h v R 0 0 (R 6) (oj_up h2 121 (rO (fset (fset v 8 (nI 0)) 9 (nI 0)))) := by
    unfold TP
    rw [aset_self]
    exact H1.trans (H1.1.fld (v' := fset (fset v 8 (nI 0)) 9 (nI 0)))
  refine J_heap (h2 := oj_up h2 121 (rO (fset (fset v 8 (nI 0)) 9 (nI 0)))) rfl ?_
  generalize oj_up h2 121 (rO (fset (fset v 8 (nI 0)) 9 (nI 0))) = h3 at H2 ⊢
  clear e0
  have e0 := H2.1.1
  have hadv := rdC_adv (w := w) (p := 0) (Nat.zero_le _)
  repeat (first | (refine J_step rfl rfl ?_) | (refine J_getf rfl rfl rfl (by assumption) rfl ?_))
  refine J_callV rfl rfl rfl rfl rfl e0 rfl rfl rfl rfl (m_readsCommand F H2 (Nat.zero_le _) (by omega)) (Nat.zero_le _) (Nat.zero_le _) (fun E h9 q => by cases q.1) (fun v9 h4 q => ?_)
  obtain ⟨q1, m', C', H4, N4, V4⟩ := q
  cases q1
  have hs := loop 60 (rdC w 0).1 (rdC w 0).2.1 (cadd (rdC w 0) []) m' C' h4 hadv.2.1 (fun z => by have := hadv.2.2.2 z; omega) H4 (fun z => by
    obtain ⟨a1, a2, a3⟩ := V4 z
    have h4 := hadv.2.2.2 z
    rw [cadd, if_pos z]
    have hE := cmC_ext (cs := []) rfl (fun j c hj => by cases hj) (fun i hi => by omega : ∀ i, i < 4 * 0 → C' i = C' i) ⟨a2, a3⟩ hadv.2.2.1
    exact ⟨by rw [a1]; rfl, hE, by show 5 * 1 ≤ _; omega⟩) (rdP w) rfl
  iterate 1 (first | (refine J_step rfl rfl ?_) | (refine J_getf rfl rfl rfl (by assumption) rfl ?_))
  exact hs
