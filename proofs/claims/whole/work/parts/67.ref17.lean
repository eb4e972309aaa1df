def gBh (w : List Int32) (c : Int32) (n p : Nat) (k : Int32 → Nat → RC) : RC := if (bhd w c n p).1 = true then k (bhd w c n p).2.2 (bhd w c n p).2.1 else (false, (bhd w c n p).2.1, 0, 0, 0, 0)
theorem rdS_app {w : List Int32} : ∀ (a b : List Int32) (p : Nat), rdS w (a ++ b) p = if (rdS w a p).1 = true then rdS w b (rdS w a p).2 else (false, (rdS w a p).2)
  | [], b, p => by rw [if_pos (show (rdS w [] p).1 = true from rfl)]; rfl
  | c :: a, b, p => by
    show rdS w (c :: (a ++ b)) p = _
    rw [rdS, rdS]
    by_cases e : sg w p = c
    · rw [if_pos e, if_pos e]
      exact rdS_app a b (p + 1)
    · rw [if_neg e, if_neg e]
      exact (if_neg (fun z => absurd (show false = true from z) (by decide))).symm
theorem gBh_eq {w : List Int32} {c : Int32} {n p : Nat} {k : Int32 → Nat → RC} : (if (rdS w [c] p).1 = true then gD w n (rdS w [c] p).2 k else (false, (rdS w [c] p).2, 0, 0, 0, 0)) = gBh w c n p k := by
  unfold gBh bhd gD
  by_cases e : sg w p = c
  · have h1 : rdS w [c] p = (true, p + 1) := by rw [rdS, if_pos e]; rfl
    simp only [h1, if_pos e, if_true, decide_eq_true_eq]
  · have h1 : rdS w [c] p = (false, p) := by rw [rdS, if_neg e]
    simp only [h1, if_neg e]
    rfl
theorem gW1 {w : List Int32} {q n p : Nat} {c : Int32} {k : Int32 → Nat → RC} (hq : wd q = [c]) : gW w q p (fun p => gD w n p k) = gBh w c n p k := by
  rw [gW, hq]
  exact gBh_eq
theorem gWt {w : List Int32} {q q' p : Nat} {c : Int32} {k : Nat → RC} (hq : wd q = c :: wd q') (h : sg w p = c) : gW w q p k = gW w q' (p + 1) k := by
  rw [gW, gW, hq, rdS, if_pos h]
theorem gWs {w : List Int32} {q q' n p : Nat} {c c' : Int32} {k : Int32 → Nat → RC} (hq : wd q = c :: (wd q' ++ [c'])) (h : sg w p = c) : gW w q p (fun p => gD w n p k) = gW w q' (p + 1) (fun p => gBh w c' n p k) := by
  rw [gW, gW, hq, rdS, if_pos h, rdS_app]
  by_cases e : (rdS w (wd q') (p + 1)).1 = true
  · rw [if_pos e, if_pos e]
    exact gBh_eq
  · rw [if_neg e, if_neg e]
    exact if_neg (fun z => absurd (show false = true from z) (by decide))
theorem gW_t {w : List Int32} {q p : Nat} {k : Nat → RC} (h : (rdS w (wd q) p).1 = true) : gW w q p k = k (rdS w (wd q) p).2 := if_pos h
theorem gW_f {w : List Int32} {q p : Nat} {k : Nat → RC} (h : (rdS w (wd q) p).1 = false) : gW w q p k = (false, (rdS w (wd q) p).2, 0, 0, 0, 0) := if_neg (by rw [h]; decide)
theorem gBh_t {w : List Int32} {c : Int32} {n p : Nat} {k : Int32 → Nat → RC} (h : (bhd w c n p).1 = true) : gBh w c n p k = k (bhd w c n p).2.2 (bhd w c n p).2.1 := if_pos h
theorem gBh_f {w : List Int32} {c : Int32} {n p : Nat} {k : Int32 → Nat → RC} (h : (bhd w c n p).1 = false) : gBh w c n p k = (false, (bhd w c n p).2.1, 0, 0, 0, 0) := if_neg (by rw [h]; decide)
theorem gD_t {w : List Int32} {n p : Nat} {k : Int32 → Nat → RC} (h : 0 < (rdD w n 0 0 p).2.1) : gD w n p k = k (rdD w n 0 0 p).1 (rdD w n 0 0 p).2.2 := if_pos h
theorem gD_f {w : List Int32} {n p : Nat} {k : Int32 → Nat → RC} (h : ¬ 0 < (rdD w n 0 0 p).2.1) : gD w n p k = (false, (rdD w n 0 0 p).2.2, 0, 0, 0, 0) := if_neg h
theorem wds : wd 14 = 112 :: (wd 30 ++ [32]) ∧ wd 17 = 114 :: (wd 31 ++ [32]) ∧ wd 18 = 115 :: (wd 32 ++ [32]) ∧ wd 20 = 116 :: wd 33 ∧ wd 21 = 99 :: (wd 34 ++ [32]) ∧ wd 22 = 119 :: wd 35 ∧ wd 15 = [32] ∧ wd 16 = [62] ∧ wd 19 = [61] := by decide +kernel
/-- what the rest of a command leaves -/
def RR (h : AHp) (v : Nat → Int32) (R : Nat → Nat → Int32) (m m' : Nat) (C : Nat → Int32) (Q : RC) : QT := fun r h' => r = .inl (some (.int (bI Q.1))) ∧ ∃ C' : Nat → Int32, TP h v R Q.2.1 m' C' h' ∧ (∀ i, i < 4 * m + 1 → C' i = C i) ∧ (Q.1 = true → nc Q.2.2.1 (C' (4 * m + 1)) (C' (4 * m + 2)) (C' (4 * m + 3)) = nc Q.2.2.1 Q.2.2.2.1 Q.2.2.2.2.1 Q.2.2.2.2.2)
theorem i4 (m k : Nat) : nI (4 * m) + nI k = nI (4 * m + k) := nI_add _ _
set_option maxRecDepth 100000 in
set_option maxHeartbeats 2000000 in
theorem m_readsWait {h h1 : AHp} {v : Nat → Int32} {R : Nat → Nat → Int32} {w : List Int32} {p m m' : Nat} {C : Nat → Int32} (F : TF v R w) (H : TP h v R (p + 1) m' C h1) (hp : p < w.length) (hm : m ≤ 28) (hs : sg w p = 119) : JM mi_X6_readsWait 5 0 0 [.ref 121, .int (nI (4 * m))] h1 (RR h v R m m' C (rdC w p)) := by
  have hR : rdC w p = gW w 35 (p + 1) fun p => if sg w p = 32 then gD w 3 (p + 1) fun x p => (true, p, 5, x, 0, 0) else (true, p, 5, 1, 0, 0) := by
    unfold rdC
    rw [if_neg (by rw [hs]; decide), if_neg (by rw [hs]; decide), if_neg (by rw [hs]; decide), if_neg (by rw [hs]; decide), if_neg (by rw [hs]; decide), if_pos hs]
    exact gWt wds.2.2.2.2.2.1 hs
  rw [hR]
  have e0 := H.1.1
  have e7 := H.1.2.2.2.2.2.2.2
  rw [aset_at] at e7
  have ea : nI (4 * m) + 1 = nI (4 * m + 1) := i4 m 1
  refine JM_of gd_X6_readsWait rfl (by decide +kernel) (Nat.le_of_ble_eq_true rfl) (oj_cats rfl) (by decide) ?_
  repeat (first | (refine J_step rfl rfl ?_) | (refine J_getf rfl rfl rfl (by assumption) rfl ?_))
  rw [ea]
  refine J_ws (4 * m + 1) rfl e7 rfl (by omega) (by decide) ?_
  have K1 : TP h v R (p + 1) m' (upd C (4 * m + 1) 1) (oj_up h1 (122 + 6) (.inl (0, aN 6, .inl (upd C (4 * m + 1) 1)))) := by
    have := MdP.trans H (H.1.arr (i := 6) (by decide) (f := upd C (4 * m + 1) 1))
    rw [aset_aset] at this
    exact this
  refine J_heap (h2 := oj_up h1 (122 + 6) (.inl (0, aN 6, .inl (upd C (4 * m + 1) 1)))) rfl ?_
  generalize oj_up h1 (122 + 6) (.inl (0, aN 6, .inl (upd C (4 * m + 1) 1))) = k1 at K1 ⊢
  have C1 : ∀ i, i < 4 * m + 1 → upd C (4 * m + 1) 1 i = C i := fun i hi => upd_ne (by omega)
  have C1v : upd C (4 * m + 1) 1 (4 * m + 1) = 1 := upd_at
  generalize upd C (4 * m + 1) 1 = D at K1 C1 C1v
  clear e0 e7
  have e0 := K1.1.1
  repeat (first | (refine J_step rfl rfl ?_) | (refine J_getf rfl rfl rfl (by assumption) rfl ?_))
  refine J_ldcS (text := "ait") (sn := 35) rfl (by decide +kernel) ?_
  refine J_callV rfl rfl rfl rfl rfl e0 rfl rfl rfl rfl (m_isWord (q := 35) F K1 hp (by decide)) (Nat.zero_le _) (Nat.zero_le _) (fun E h9 q => by cases q.1) (fun v9 h2 q => ?_)
  obtain ⟨q1, H2⟩ := q
  cases q1
  have hp2 : (rdS w (wd 35) (p + 1)).2 ≤ w.length := rdS_le _ _ (wd_nz 35 (by decide)) hp
  by_cases hW : (rdS w (wd 35) (p + 1)).1 = true
  · rw [gW_t hW, hW]
    generalize (rdS w (wd 35) (p + 1)).2 = p2 at H2 hp2
    clear e0
    have e0 := H2.1.1
    refine J_if (y := 0) rfl (fun hz => absurd hz (show ¬ bI true = 0 by decide)) (fun _ => ?_)
    repeat (first | (refine J_step rfl rfl ?_) | (refine J_getf rfl rfl rfl (by assumption) rfl ?_))
    refine J_callV rfl rfl rfl rfl rfl e0 rfl rfl rfl rfl (m_isSign F H2 hp2 (by decide) (by decide)) (Nat.zero_le _) (Nat.zero_le _) (fun E h9 q => by cases q.1) (fun v9 h3 q => ?_)
    obtain ⟨q1, H3⟩ := q
    cases q1
    by_cases hs32 : sg w p2 = 32
    · have hlt : p2 < w.length := sg_lt (by rw [hs32]; decide)
      rw [if_pos hs32] at H3 ⊢
      rw [decide_eq_true hs32]
      clear e0
      have e0 := H3.1.1
      refine J_if (y := 0) rfl (fun hz => absurd hz (show ¬ bI true = 0 by decide)) (fun _ => ?_)
      repeat (first | (refine J_step rfl rfl ?_) | (refine J_getf rfl rfl rfl (by assumption) rfl ?_))
      rw [ea]
      refine J_callV rfl rfl rfl rfl rfl e0 rfl rfl rfl rfl (m_isNumber (n := 3) (at_ := 4 * m + 1) F H3 hlt (by decide) (by omega)) (Nat.zero_le _) (Nat.zero_le _) (fun E h9 q => by cases q.1) (fun v9 h4 q => ?_)
      obtain ⟨q1, H4⟩ := q
      cases q1
      by_cases hn : 0 < (rdD w 3 0 0 (p2 + 1)).2.1
      · rw [gD_t hn, decide_eq_true hn]
        refine J_if (y := 0) rfl (fun hz => absurd hz (show ¬ bI true = 0 by decide)) (fun _ => ?_)
        repeat (first | (refine J_step rfl rfl ?_) | (refine J_getf rfl rfl rfl (by assumption) rfl ?_))
        exact J_zret rfl rfl rfl rfl true rfl ⟨rfl, _, H4, fun i hi => (upd_ne (by omega)).trans (C1 i hi), fun _ => by simp only [nc]; rw [upd_at]⟩
      · rw [gD_f hn, decide_eq_false hn]
        refine J_if (y := 0) rfl (fun _ => ?_) (fun hz => absurd rfl hz)
        repeat (first | (refine J_step rfl rfl ?_) | (refine J_getf rfl rfl rfl (by assumption) rfl ?_))
        exact J_zret rfl rfl rfl rfl false rfl ⟨rfl, _, H4, fun i hi => (upd_ne (by omega)).trans (C1 i hi), fun z => by cases z⟩
    · rw [if_neg hs32] at H3 ⊢
      rw [decide_eq_false hs32]
      refine J_if (y := 0) rfl (fun _ => ?_) (fun hz => absurd rfl hz)
      repeat (first | (refine J_step rfl rfl ?_) | (refine J_getf rfl rfl rfl (by assumption) rfl ?_))
      exact J_zret rfl rfl rfl rfl true rfl ⟨rfl, _, H3, C1, fun _ => by simp only [nc]; rw [C1v]⟩
  · have hW : (rdS w (wd 35) (p + 1)).1 = false := by simpa using hW
    rw [gW_f hW, hW]
    refine J_if (y := 0) rfl (fun _ => ?_) (fun hz => absurd rfl hz)
    repeat (first | (refine J_step rfl rfl ?_) | (refine J_getf rfl rfl rfl (by assumption) rfl ?_))
    exact J_zret rfl rfl rfl rfl false rfl ⟨rfl, _, H2, C1, fun z => by cases z⟩
set_option maxRecDepth 100000 in
set_option maxHeartbeats 2000000 in
theorem m_rest0 {h h1 : AHp} {v : Nat → Int32} {R : Nat → Nat → Int32} {w : List Int32} {p m m' : Nat} {C : Nat → Int32} (F : TF v R w) (H : TP h v R (p + 1) m' C h1) (hp : p < w.length) (hm : m ≤ 28) (hs : sg w p = 112) : J mi_X6_readsRest 6 0 0 (RR h v R m m' C (rdC w p)) 0 0 52 [some (.ref 121), some (.int 112), some (.int (nI (4 * m)))] [] h1 := by
  have hR : rdC w p = gW w 30 (p + 1) fun p => gBh w 32 3 p fun x p => gBh w 32 1 p fun y p => gBh w 62 1 p fun z p => (true, p, 0, x, y, z) := by
    unfold rdC
    rw [if_pos hs]
    simp only [gW1 wds.2.2.2.2.2.2.1, gW1 wds.2.2.2.2.2.2.2.1]
    exact gWs wds.1 hs
  rw [hR]
  have e0 := H.1.1
  have ea1 : nI (4 * m) + 1 = nI (4 * m + 1) := i4 m 1
  have ea2 : nI (4 * m) + 2 = nI (4 * m + 2) := i4 m 2
  have ea3 : nI (4 * m) + 3 = nI (4 * m + 3) := i4 m 3
  have C0 : ∀ i, i < 4 * m + 1 → C i = C i := fun _ _ => rfl
  repeat (first | (refine J_step rfl rfl ?_) | (refine J_getf rfl rfl rfl (by assumption) rfl ?_))
  refine J_ldcS (text := "icker") (sn := 30) rfl (by decide +kernel) ?_
  refine J_callV rfl rfl rfl rfl rfl e0 rfl rfl rfl rfl (m_isWord (q := 30) F H hp (by decide)) (Nat.zero_le _) (Nat.zero_le _) (fun E h9 q => by cases q.1) (fun v9 g0 q => ?_)
  obtain ⟨q1, K0⟩ := q
  cases q1
  have p0l : (rdS w (wd 30) (p + 1)).2 ≤ w.length := rdS_le _ _ (wd_nz 30 (by decide)) hp
  by_cases hW : (rdS w (wd 30) (p + 1)).1 = true
  case neg =>
    have hW : (rdS w (wd 30) (p + 1)).1 = false := by simpa using hW
    rw [gW_f hW, hW]
    refine J_if (y := 0) rfl (fun _ => ?_) (fun hz => absurd rfl hz)
    repeat (first | (refine J_step rfl rfl ?_) | (refine J_getf rfl rfl rfl (by assumption) rfl ?_))
    exact J_zret rfl rfl rfl rfl false rfl ⟨rfl, _, K0, C0, fun z => by cases z⟩
  rw [gW_t hW, hW]
  generalize (rdS w (wd 30) (p + 1)).2 = p0 at K0 p0l
  clear e0
  have e0 := K0.1.1
  refine J_if (y := 0) rfl (fun hz => absurd hz (show ¬ bI true = 0 by decide)) (fun _ => ?_)
  repeat (first | (refine J_step rfl rfl ?_) | (refine J_getf rfl rfl rfl (by assumption) rfl ?_))
  rw [ea1]
  refine J_callV rfl rfl rfl rfl rfl e0 rfl rfl rfl rfl (m_isBehind (n := 3) (at_ := 4 * m + 1) F K0 p0l (by decide) (by decide) (by decide) (by omega)) (Nat.zero_le _) (Nat.zero_le _) (fun E h9 q => by cases q.1) (fun v9 g1 q => ?_)
  obtain ⟨q1, D1, K1, N1, V1⟩ := q
  cases q1
  have p1l : (bhd w 32 3 p0).2.1 ≤ w.length := bhd_le (by decide) p0l
  have C1 : ∀ i, i < 4 * m + 1 → D1 i = C i := fun i hi => (N1 i (by omega)).trans (C0 i hi)
  by_cases hB1 : (bhd w 32 3 p0).1 = true
  case neg =>
    have hB1 : (bhd w 32 3 p0).1 = false := by simpa using hB1
    rw [gBh_f hB1, hB1]
    refine J_if (y := 0) rfl (fun _ => ?_) (fun hz => absurd rfl hz)
    repeat (first | (refine J_step rfl rfl ?_) | (refine J_getf rfl rfl rfl (by assumption) rfl ?_))
    exact J_zret rfl rfl rfl rfl false rfl ⟨rfl, _, K1, C1, fun z => by cases z⟩
  have W1_1 := V1 hB1
  rw [gBh_t hB1, hB1]
  generalize (bhd w 32 3 p0).2.1 = p1 at K1 p1l
  generalize (bhd w 32 3 p0).2.2 = x1 at W1_1
  clear e0
  have e0 := K1.1.1
  refine J_if (y := 0) rfl (fun hz => absurd hz (show ¬ bI true = 0 by decide)) (fun _ => ?_)
  repeat (first | (refine J_step rfl rfl ?_) | (refine J_getf rfl rfl rfl (by assumption) rfl ?_))
  rw [ea2]
  refine J_callV rfl rfl rfl rfl rfl e0 rfl rfl rfl rfl (m_isBehind (n := 1) (at_ := 4 * m + 2) F K1 p1l (by decide) (by decide) (by decide) (by omega)) (Nat.zero_le _) (Nat.zero_le _) (fun E h9 q => by cases q.1) (fun v9 g2 q => ?_)
  obtain ⟨q1, D2, K2, N2, V2⟩ := q
  cases q1
  have p2l : (bhd w 32 1 p1).2.1 ≤ w.length := bhd_le (by decide) p1l
  have C2 : ∀ i, i < 4 * m + 1 → D2 i = C i := fun i hi => (N2 i (by omega)).trans (C1 i hi)
  have W1_2 := (N2 (4 * m + 1) (by omega)).trans W1_1
  by_cases hB2 : (bhd w 32 1 p1).1 = true
  case neg =>
    have hB2 : (bhd w 32 1 p1).1 = false := by simpa using hB2
    rw [gBh_f hB2, hB2]
    refine J_if (y := 0) rfl (fun _ => ?_) (fun hz => absurd rfl hz)
    repeat (first | (refine J_step rfl rfl ?_) | (refine J_getf rfl rfl rfl (by assumption) rfl ?_))
    exact J_zret rfl rfl rfl rfl false rfl ⟨rfl, _, K2, C2, fun z => by cases z⟩
  have W2_2 := V2 hB2
  rw [gBh_t hB2, hB2]
  generalize (bhd w 32 1 p1).2.1 = p2 at K2 p2l
  generalize (bhd w 32 1 p1).2.2 = x2 at W2_2
  clear e0
  have e0 := K2.1.1
  refine J_if (y := 0) rfl (fun hz => absurd hz (show ¬ bI true = 0 by decide)) (fun _ => ?_)
  repeat (first | (refine J_step rfl rfl ?_) | (refine J_getf rfl rfl rfl (by assumption) rfl ?_))
  rw [ea3]
  refine J_callV rfl rfl rfl rfl rfl e0 rfl rfl rfl rfl (m_isBehind (n := 1) (at_ := 4 * m + 3) F K2 p2l (by decide) (by decide) (by decide) (by omega)) (Nat.zero_le _) (Nat.zero_le _) (fun E h9 q => by cases q.1) (fun v9 g3 q => ?_)
  obtain ⟨q1, D3, K3, N3, V3⟩ := q
  cases q1
  have p3l : (bhd w 62 1 p2).2.1 ≤ w.length := bhd_le (by decide) p2l
  have C3 : ∀ i, i < 4 * m + 1 → D3 i = C i := fun i hi => (N3 i (by omega)).trans (C2 i hi)
  have W1_3 := (N3 (4 * m + 1) (by omega)).trans W1_2
  have W2_3 := (N3 (4 * m + 2) (by omega)).trans W2_2
  by_cases hB3 : (bhd w 62 1 p2).1 = true
  case neg =>
    have hB3 : (bhd w 62 1 p2).1 = false := by simpa using hB3
    rw [gBh_f hB3, hB3]
    refine J_if (y := 0) rfl (fun _ => ?_) (fun hz => absurd rfl hz)
    repeat (first | (refine J_step rfl rfl ?_) | (refine J_getf rfl rfl rfl (by assumption) rfl ?_))
    exact J_zret rfl rfl rfl rfl false rfl ⟨rfl, _, K3, C3, fun z => by cases z⟩
  have W3_3 := V3 hB3
  rw [gBh_t hB3, hB3]
  generalize (bhd w 62 1 p2).2.1 = p3 at K3 p3l
  generalize (bhd w 62 1 p2).2.2 = x3 at W3_3
  refine J_if (y := 0) rfl (fun hz => absurd hz (show ¬ bI true = 0 by decide)) (fun _ => ?_)
  repeat (first | (refine J_step rfl rfl ?_) | (refine J_getf rfl rfl rfl (by assumption) rfl ?_))
  exact J_zret rfl rfl rfl rfl true rfl ⟨rfl, _, K3, C3, fun _ => by simp only [nc]; rw [W1_3, W2_3, W3_3]⟩
set_option maxRecDepth 100000 in
set_option maxHeartbeats 2000000 in
theorem m_rest1 {h h1 : AHp} {v : Nat → Int32} {R : Nat → Nat → Int32} {w : List Int32} {p m m' : Nat} {C : Nat → Int32} (F : TF v R w) (H : TP h v R (p + 1) m' C h1) (hp : p < w.length) (hm : m ≤ 28) (hs : sg w p = 114) : J mi_X6_readsRest 6 0 0 (RR h v R m m' C (rdC w p)) 0 0 106 [some (.ref 121), some (.int 114), some (.int (nI (4 * m)))] [] h1 := by
  have hR : rdC w p = gW w 31 (p + 1) fun p => gBh w 32 3 p fun x p => (true, p, 1, x, 0, 0) := by
    unfold rdC
    rw [if_neg (by rw [hs]; decide), if_pos hs]
    exact gWs wds.2.1 hs
  rw [hR]
  have e0 := H.1.1
  have ea1 : nI (4 * m) + 1 = nI (4 * m + 1) := i4 m 1
  have C0 : ∀ i, i < 4 * m + 1 → C i = C i := fun _ _ => rfl
  repeat (first | (refine J_step rfl rfl ?_) | (refine J_getf rfl rfl rfl (by assumption) rfl ?_))
  refine J_ldcS (text := "emove") (sn := 31) rfl (by decide +kernel) ?_
  refine J_callV rfl rfl rfl rfl rfl e0 rfl rfl rfl rfl (m_isWord (q := 31) F H hp (by decide)) (Nat.zero_le _) (Nat.zero_le _) (fun E h9 q => by cases q.1) (fun v9 g0 q => ?_)
  obtain ⟨q1, K0⟩ := q
  cases q1
  have p0l : (rdS w (wd 31) (p + 1)).2 ≤ w.length := rdS_le _ _ (wd_nz 31 (by decide)) hp
  by_cases hW : (rdS w (wd 31) (p + 1)).1 = true
  case neg =>
    have hW : (rdS w (wd 31) (p + 1)).1 = false := by simpa using hW
    rw [gW_f hW, hW]
    refine J_if (y := 0) rfl (fun _ => ?_) (fun hz => absurd rfl hz)
    repeat (first | (refine J_step rfl rfl ?_) | (refine J_getf rfl rfl rfl (by assumption) rfl ?_))
    exact J_zret rfl rfl rfl rfl false rfl ⟨rfl, _, K0, C0, fun z => by cases z⟩
  rw [gW_t hW, hW]
  generalize (rdS w (wd 31) (p + 1)).2 = p0 at K0 p0l
  clear e0
  have e0 := K0.1.1
  refine J_if (y := 0) rfl (fun hz => absurd hz (show ¬ bI true = 0 by decide)) (fun _ => ?_)
  repeat (first | (refine J_step rfl rfl ?_) | (refine J_getf rfl rfl rfl (by assumption) rfl ?_))
  rw [ea1]
  refine J_callV rfl rfl rfl rfl rfl e0 rfl rfl rfl rfl (m_isBehind (n := 3) (at_ := 4 * m + 1) F K0 p0l (by decide) (by decide) (by decide) (by omega)) (Nat.zero_le _) (Nat.zero_le _) (fun E h9 q => by cases q.1) (fun v9 g1 q => ?_)
  obtain ⟨q1, D1, K1, N1, V1⟩ := q
  cases q1
  have p1l : (bhd w 32 3 p0).2.1 ≤ w.length := bhd_le (by decide) p0l
  have C1 : ∀ i, i < 4 * m + 1 → D1 i = C i := fun i hi => (N1 i (by omega)).trans (C0 i hi)
  by_cases hB1 : (bhd w 32 3 p0).1 = true
  case neg =>
    have hB1 : (bhd w 32 3 p0).1 = false := by simpa using hB1
    rw [gBh_f hB1, hB1]
    refine J_if (y := 0) rfl (fun _ => ?_) (fun hz => absurd rfl hz)
    repeat (first | (refine J_step rfl rfl ?_) | (refine J_getf rfl rfl rfl (by assumption) rfl ?_))
    exact J_zret rfl rfl rfl rfl false rfl ⟨rfl, _, K1, C1, fun z => by cases z⟩
  have W1_1 := V1 hB1
  rw [gBh_t hB1, hB1]
  generalize (bhd w 32 3 p0).2.1 = p1 at K1 p1l
  generalize (bhd w 32 3 p0).2.2 = x1 at W1_1
  refine J_if (y := 0) rfl (fun hz => absurd hz (show ¬ bI true = 0 by decide)) (fun _ => ?_)
  repeat (first | (refine J_step rfl rfl ?_) | (refine J_getf rfl rfl rfl (by assumption) rfl ?_))
  exact J_zret rfl rfl rfl rfl true rfl ⟨rfl, _, K1, C1, fun _ => by simp only [nc]; rw [W1_1]⟩
set_option maxRecDepth 100000 in
set_option maxHeartbeats 2000000 in
theorem m_rest2 {h h1 : AHp} {v : Nat → Int32} {R : Nat → Nat → Int32} {w : List Int32} {p m m' : Nat} {C : Nat → Int32} (F : TF v R w) (H : TP h v R (p + 1) m' C h1) (hp : p < w.length) (hm : m ≤ 28) (hs : sg w p = 115) : J mi_X6_readsRest 6 0 0 (RR h v R m m' C (rdC w p)) 0 0 134 [some (.ref 121), some (.int 115), some (.int (nI (4 * m)))] [] h1 := by
  have hR : rdC w p = gW w 32 (p + 1) fun p => gBh w 32 1 p fun x p => gBh w 61 1 p fun y p => (true, p, 2, x, y, 0) := by
    unfold rdC
    rw [if_neg (by rw [hs]; decide), if_neg (by rw [hs]; decide), if_pos hs]
    simp only [gW1 wds.2.2.2.2.2.2.2.2]
    exact gWs wds.2.2.1 hs
  rw [hR]
  have e0 := H.1.1
  have ea1 : nI (4 * m) + 1 = nI (4 * m + 1) := i4 m 1
  have ea2 : nI (4 * m) + 2 = nI (4 * m + 2) := i4 m 2
  have C0 : ∀ i, i < 4 * m + 1 → C i = C i := fun _ _ => rfl
  repeat (first | (refine J_step rfl rfl ?_) | (refine J_getf rfl rfl rfl (by assumption) rfl ?_))
  refine J_ldcS (text := "lope") (sn := 32) rfl (by decide +kernel) ?_
  refine J_callV rfl rfl rfl rfl rfl e0 rfl rfl rfl rfl (m_isWord (q := 32) F H hp (by decide)) (Nat.zero_le _) (Nat.zero_le _) (fun E h9 q => by cases q.1) (fun v9 g0 q => ?_)
  obtain ⟨q1, K0⟩ := q
  cases q1
  have p0l : (rdS w (wd 32) (p + 1)).2 ≤ w.length := rdS_le _ _ (wd_nz 32 (by decide)) hp
  by_cases hW : (rdS w (wd 32) (p + 1)).1 = true
  case neg =>
    have hW : (rdS w (wd 32) (p + 1)).1 = false := by simpa using hW
    rw [gW_f hW, hW]
    refine J_if (y := 0) rfl (fun _ => ?_) (fun hz => absurd rfl hz)
    repeat (first | (refine J_step rfl rfl ?_) | (refine J_getf rfl rfl rfl (by assumption) rfl ?_))
    exact J_zret rfl rfl rfl rfl false rfl ⟨rfl, _, K0, C0, fun z => by cases z⟩
  rw [gW_t hW, hW]
  generalize (rdS w (wd 32) (p + 1)).2 = p0 at K0 p0l
  clear e0
  have e0 := K0.1.1
  refine J_if (y := 0) rfl (fun hz => absurd hz (show ¬ bI true = 0 by decide)) (fun _ => ?_)
  repeat (first | (refine J_step rfl rfl ?_) | (refine J_getf rfl rfl rfl (by assumption) rfl ?_))
  rw [ea1]
  refine J_callV rfl rfl rfl rfl rfl e0 rfl rfl rfl rfl (m_isBehind (n := 1) (at_ := 4 * m + 1) F K0 p0l (by decide) (by decide) (by decide) (by omega)) (Nat.zero_le _) (Nat.zero_le _) (fun E h9 q => by cases q.1) (fun v9 g1 q => ?_)
  obtain ⟨q1, D1, K1, N1, V1⟩ := q
  cases q1
  have p1l : (bhd w 32 1 p0).2.1 ≤ w.length := bhd_le (by decide) p0l
  have C1 : ∀ i, i < 4 * m + 1 → D1 i = C i := fun i hi => (N1 i (by omega)).trans (C0 i hi)
  by_cases hB1 : (bhd w 32 1 p0).1 = true
  case neg =>
    have hB1 : (bhd w 32 1 p0).1 = false := by simpa using hB1
    rw [gBh_f hB1, hB1]
    refine J_if (y := 0) rfl (fun _ => ?_) (fun hz => absurd rfl hz)
    repeat (first | (refine J_step rfl rfl ?_) | (refine J_getf rfl rfl rfl (by assumption) rfl ?_))
    exact J_zret rfl rfl rfl rfl false rfl ⟨rfl, _, K1, C1, fun z => by cases z⟩
  have W1_1 := V1 hB1
  rw [gBh_t hB1, hB1]
  generalize (bhd w 32 1 p0).2.1 = p1 at K1 p1l
  generalize (bhd w 32 1 p0).2.2 = x1 at W1_1
  clear e0
  have e0 := K1.1.1
  refine J_if (y := 0) rfl (fun hz => absurd hz (show ¬ bI true = 0 by decide)) (fun _ => ?_)
  repeat (first | (refine J_step rfl rfl ?_) | (refine J_getf rfl rfl rfl (by assumption) rfl ?_))
  rw [ea2]
  refine J_callV rfl rfl rfl rfl rfl e0 rfl rfl rfl rfl (m_isBehind (n := 1) (at_ := 4 * m + 2) F K1 p1l (by decide) (by decide) (by decide) (by omega)) (Nat.zero_le _) (Nat.zero_le _) (fun E h9 q => by cases q.1) (fun v9 g2 q => ?_)
  obtain ⟨q1, D2, K2, N2, V2⟩ := q
  cases q1
  have p2l : (bhd w 61 1 p1).2.1 ≤ w.length := bhd_le (by decide) p1l
  have C2 : ∀ i, i < 4 * m + 1 → D2 i = C i := fun i hi => (N2 i (by omega)).trans (C1 i hi)
  have W1_2 := (N2 (4 * m + 1) (by omega)).trans W1_1
  by_cases hB2 : (bhd w 61 1 p1).1 = true
  case neg =>
    have hB2 : (bhd w 61 1 p1).1 = false := by simpa using hB2
    rw [gBh_f hB2, hB2]
    refine J_if (y := 0) rfl (fun _ => ?_) (fun hz => absurd rfl hz)
    repeat (first | (refine J_step rfl rfl ?_) | (refine J_getf rfl rfl rfl (by assumption) rfl ?_))
    exact J_zret rfl rfl rfl rfl false rfl ⟨rfl, _, K2, C2, fun z => by cases z⟩
  have W2_2 := V2 hB2
  rw [gBh_t hB2, hB2]
  generalize (bhd w 61 1 p1).2.1 = p2 at K2 p2l
  generalize (bhd w 61 1 p1).2.2 = x2 at W2_2
  refine J_if (y := 0) rfl (fun hz => absurd hz (show ¬ bI true = 0 by decide)) (fun _ => ?_)
  repeat (first | (refine J_step rfl rfl ?_) | (refine J_getf rfl rfl rfl (by assumption) rfl ?_))
  exact J_zret rfl rfl rfl rfl true rfl ⟨rfl, _, K2, C2, fun _ => by simp only [nc]; rw [W1_2, W2_2]⟩
set_option maxRecDepth 100000 in
set_option maxHeartbeats 2000000 in
theorem m_rest3 {h h1 : AHp} {v : Nat → Int32} {R : Nat → Nat → Int32} {w : List Int32} {p m m' : Nat} {C : Nat → Int32} (F : TF v R w) (H : TP h v R (p + 1) m' C h1) (hp : p < w.length) (hm : m ≤ 28) (hs : sg w p = 116) : J mi_X6_readsRest 6 0 0 (RR h v R m m' C (rdC w p)) 0 0 175 [some (.ref 121), some (.int 116), some (.int (nI (4 * m)))] [] h1 := by
  have hR : rdC w p = gW w 33 (p + 1) fun p => (true, p, 3, 0, 0, 0) := by
    unfold rdC
    rw [if_neg (by rw [hs]; decide), if_neg (by rw [hs]; decide), if_neg (by rw [hs]; decide), if_pos hs]
    exact gWt wds.2.2.2.1 hs
  rw [hR]
  have e0 := H.1.1
  have C0 : ∀ i, i < 4 * m + 1 → C i = C i := fun _ _ => rfl
  repeat (first | (refine J_step rfl rfl ?_) | (refine J_getf rfl rfl rfl (by assumption) rfl ?_))
  refine J_ldcS (text := "urn") (sn := 33) rfl (by decide +kernel) ?_
  refine J_callV rfl rfl rfl rfl rfl e0 rfl rfl rfl rfl (m_isWord (q := 33) F H hp (by decide)) (Nat.zero_le _) (Nat.zero_le _) (fun E h9 q => by cases q.1) (fun v9 g0 q => ?_)
  obtain ⟨q1, K0⟩ := q
  cases q1
  have p0l : (rdS w (wd 33) (p + 1)).2 ≤ w.length := rdS_le _ _ (wd_nz 33 (by decide)) hp
  by_cases hW : (rdS w (wd 33) (p + 1)).1 = true
  case neg =>
    have hW : (rdS w (wd 33) (p + 1)).1 = false := by simpa using hW
    rw [gW_f hW, hW]
    exact J_zret rfl rfl rfl rfl false rfl ⟨rfl, _, K0, C0, fun z => by cases z⟩
  rw [gW_t hW, hW]
  generalize (rdS w (wd 33) (p + 1)).2 = p0 at K0 p0l
  exact J_zret rfl rfl rfl rfl true rfl ⟨rfl, _, K0, C0, fun _ => by simp only [nc]⟩
set_option maxRecDepth 100000 in
set_option maxHeartbeats 2000000 in
theorem m_rest4 {h h1 : AHp} {v : Nat → Int32} {R : Nat → Nat → Int32} {w : List Int32} {p m m' : Nat} {C : Nat → Int32} (F : TF v R w) (H : TP h v R (p + 1) m' C h1) (hp : p < w.length) (hm : m ≤ 28) (hs : sg w p = 99) : J mi_X6_readsRest 6 0 0 (RR h v R m m' C (rdC w p)) 0 0 182 [some (.ref 121), some (.int 99), some (.int (nI (4 * m)))] [] h1 := by
  have hR : rdC w p = gW w 34 (p + 1) fun p => gBh w 32 1 p fun x p => (true, p, 4, x, 0, 0) := by
    unfold rdC
    rw [if_neg (by rw [hs]; decide), if_neg (by rw [hs]; decide), if_neg (by rw [hs]; decide), if_neg (by rw [hs]; decide), if_pos hs]
    exact gWs wds.2.2.2.2.1 hs
  rw [hR]
  have e0 := H.1.1
  have ea1 : nI (4 * m) + 1 = nI (4 * m + 1) := i4 m 1
  have C0 : ∀ i, i < 4 * m + 1 → C i = C i := fun _ _ => rfl
  repeat (first | (refine J_step rfl rfl ?_) | (refine J_getf rfl rfl rfl (by assumption) rfl ?_))
  refine J_ldcS (text := "apacity") (sn := 34) rfl (by decide +kernel) ?_
  refine J_callV rfl rfl rfl rfl rfl e0 rfl rfl rfl rfl (m_isWord (q := 34) F H hp (by decide)) (Nat.zero_le _) (Nat.zero_le _) (fun E h9 q => by cases q.1) (fun v9 g0 q => ?_)
  obtain ⟨q1, K0⟩ := q
  cases q1
  have p0l : (rdS w (wd 34) (p + 1)).2 ≤ w.length := rdS_le _ _ (wd_nz 34 (by decide)) hp
  by_cases hW : (rdS w (wd 34) (p + 1)).1 = true
  case neg =>
    have hW : (rdS w (wd 34) (p + 1)).1 = false := by simpa using hW
    rw [gW_f hW, hW]
    refine J_if (y := 0) rfl (fun _ => ?_) (fun hz => absurd rfl hz)
    repeat (first | (refine J_step rfl rfl ?_) | (refine J_getf rfl rfl rfl (by assumption) rfl ?_))
    exact J_zret rfl rfl rfl rfl false rfl ⟨rfl, _, K0, C0, fun z => by cases z⟩
  rw [gW_t hW, hW]
  generalize (rdS w (wd 34) (p + 1)).2 = p0 at K0 p0l
  clear e0
  have e0 := K0.1.1
  refine J_if (y := 0) rfl (fun hz => absurd hz (show ¬ bI true = 0 by decide)) (fun _ => ?_)
  repeat (first | (refine J_step rfl rfl ?_) | (refine J_getf rfl rfl rfl (by assumption) rfl ?_))
  rw [ea1]
  refine J_callV rfl rfl rfl rfl rfl e0 rfl rfl rfl rfl (m_isBehind (n := 1) (at_ := 4 * m + 1) F K0 p0l (by decide) (by decide) (by decide) (by omega)) (Nat.zero_le _) (Nat.zero_le _) (fun E h9 q => by cases q.1) (fun v9 g1 q => ?_)
  obtain ⟨q1, D1, K1, N1, V1⟩ := q
  cases q1
  have p1l : (bhd w 32 1 p0).2.1 ≤ w.length := bhd_le (by decide) p0l
  have C1 : ∀ i, i < 4 * m + 1 → D1 i = C i := fun i hi => (N1 i (by omega)).trans (C0 i hi)
  by_cases hB1 : (bhd w 32 1 p0).1 = true
  case neg =>
    have hB1 : (bhd w 32 1 p0).1 = false := by simpa using hB1
    rw [gBh_f hB1, hB1]
    refine J_if (y := 0) rfl (fun _ => ?_) (fun hz => absurd rfl hz)
    repeat (first | (refine J_step rfl rfl ?_) | (refine J_getf rfl rfl rfl (by assumption) rfl ?_))
    exact J_zret rfl rfl rfl rfl false rfl ⟨rfl, _, K1, C1, fun z => by cases z⟩
  have W1_1 := V1 hB1
  rw [gBh_t hB1, hB1]
  generalize (bhd w 32 1 p0).2.1 = p1 at K1 p1l
  generalize (bhd w 32 1 p0).2.2 = x1 at W1_1
  refine J_if (y := 0) rfl (fun hz => absurd hz (show ¬ bI true = 0 by decide)) (fun _ => ?_)
  repeat (first | (refine J_step rfl rfl ?_) | (refine J_getf rfl rfl rfl (by assumption) rfl ?_))
  exact J_zret rfl rfl rfl rfl true rfl ⟨rfl, _, K1, C1, fun _ => by simp only [nc]; rw [W1_1]⟩
set_option maxRecDepth 100000 in
set_option maxHeartbeats 2000000 in
theorem m_readsRest {h h1 : AHp} {v : Nat → Int32} {R : Nat → Nat → Int32} {w : List Int32} {p m m' : Nat} {C : Nat → Int32} (F : TF v R w) (H : TP h v R (p + 1) m' C h1) (hp : p < w.length) (hm : m ≤ 28) (hs : sg w p = 112 ∨ sg w p = 114 ∨ sg w p = 115 ∨ sg w p = 116 ∨ sg w p = 99 ∨ sg w p = 119) : JM mi_X6_readsRest 6 0 0 [.ref 121, .int (sg w p), .int (nI (4 * m))] h1 (RR h v R m m' C (rdC w p)) := by
  refine JM_of gd_X6_readsRest rfl (by decide +kernel) (Nat.le_of_ble_eq_true rfl) (oj_cats rfl) (by decide) ?_
  repeat (first | (refine J_step rfl rfl ?_) | (refine J_getf rfl rfl rfl (by assumption) rfl ?_))
  rcases hs with hs | hs | hs | hs | hs | hs
  · have X := m_rest0 F H hp hm hs
    rw [hs]
    refine J_lsw (tgt := 52) (off := 51) rfl (by decide) (by decide) (by decide) ?_
    exact X
  · have X := m_rest1 F H hp hm hs
    rw [hs]
    refine J_lsw (tgt := 106) (off := 105) rfl (by decide) (by decide) (by decide) ?_
    exact X
  · have X := m_rest2 F H hp hm hs
    rw [hs]
    refine J_lsw (tgt := 134) (off := 133) rfl (by decide) (by decide) (by decide) ?_
    exact X
  · have X := m_rest3 F H hp hm hs
    rw [hs]
    refine J_lsw (tgt := 175) (off := 174) rfl (by decide) (by decide) (by decide) ?_
    exact X
  · have X := m_rest4 F H hp hm hs
    rw [hs]
    refine J_lsw (tgt := 182) (off := 181) rfl (by decide) (by decide) (by decide) ?_
    exact X
  · have X := m_readsWait F H hp hm hs
    have e0 := H.1.1
    rw [hs]
    refine J_lsw (tgt := 210) (off := 209) rfl (by decide) (by decide) (by decide) ?_
    repeat (first | (refine J_step rfl rfl ?_) | (refine J_getf rfl rfl rfl (by assumption) rfl ?_))
    refine J_callV rfl rfl rfl rfl rfl e0 rfl rfl rfl rfl X (Nat.zero_le _) (Nat.zero_le _) (fun E h9 q => by cases q.1) (fun v9 h2 q => ?_)
    have q0 := q
    obtain ⟨q1, -⟩ := q
    cases q1
    exact J_zret rfl rfl rfl rfl _ rfl q0
set_option maxRecDepth 100000 in
set_option maxHeartbeats 2000000 in
theorem m_isFirst {d : Nat} {h : AHp} {c : Int32} : JM mi_X6_isFirst d 0 0 [.int c] h (oj_is (.inl (some (.int (bI (decide (c = 112 ∨ c = 114 ∨ c = 115 ∨ c = 116 ∨ c = 99 ∨ c = 119)))))) h) := by
  refine JM_of gd_X6_isFirst rfl (by decide +kernel) (Nat.le_of_ble_eq_true rfl) (oj_cats rfl) (by decide) ?_
  repeat' (first | (refine J_step rfl rfl ?_) | (refine J_getf rfl rfl rfl (by assumption) rfl ?_) | (refine J_if (y := 0) rfl (fun _ => ?_) (fun _ => ?_)) | (refine J_ic rfl (fun _ => ?_) (fun _ => ?_)))
  all_goals (refine J_zret rfl rfl rfl rfl (decide (c = 112 ∨ c = 114 ∨ c = 115 ∨ c = 116 ∨ c = 99 ∨ c = 119)) ?_ ⟨rfl, rfl⟩)
  all_goals simp_all [oj_cz, oj_cc, ne_bI0, ltn, -Int32.not_le, -Int32.not_lt, -ne_eq, bI]
