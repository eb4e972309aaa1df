-- QQ: (fun r h' => r = .inl (some (.int (bI true))) ∧ CStep h A h')
def lastW (l : List Row) (s : Nat) (k : Nat) (x : Int32) : Prop := (k = 0 ∧ x = -1) ∨ ∃ i, i < l.length ∧ x = rNum (rAt l i) ∧ (l.take i).countP (crW (nI s)) + 1 = k
theorem lastW_lt {l : List Row} {cm t nb : Nat} (hR : ∀ r ∈ l, RowOk cm t nb r) (hP : l.Pairwise PW) (hcm : cm ≤ 600) {s k i : Nat} {x : Int32} (H : lastW l s k x) (hi : i < l.length) (hk : (l.take i).countP (crW (nI s)) = k) : ¬ rNum (rAt l i) ≤ x := by
  rw [Int32.not_le]
  rcases H with ⟨-, rfl⟩ | ⟨i', hi', rfl, e⟩
  · obtain ⟨n, w, a, b, ca, ⟨e1, l1⟩, -⟩ := hR _ (rAt_mem hi)
    show -1 < (rAt l i).1
    rw [e1, Int32.lt_iff_toInt_lt, nI_toInt (by omega), show (-1 : Int32).toInt = -1 by decide]
    omega
  · have hii : i' < i := by
      rcases Nat.lt_or_ge i' i with z | z
      · exact z
      · have := take_count_le (l := l) (p := crW (nI s)) z
        omega
    exact (PW_at hP hii hi).1
set_option maxRecDepth 100000 in
set_option maxHeartbeats 2000000 in
theorem c_isWell {n : Nat} {A : AS} {h : AHp} (C : CRep h A) (HA : AI A n) : JM mi_L_isWell 9 400 2600 [.ref 0] h (fun r h' => r = .inl (some (.int (bI true))) ∧ CStep h A h') := by
  have hli := AI_cur HA
  have hu := LI.gU hli
  have hgB := LI.gB hli
  obtain ⟨m, hm, hBS, hsBm⟩ := LI_BS hli
  have hSV := LI_SV hli
  have hSC := LI_SC hli
  have hSO := LI_SO hli
  have hPt := LI_parts hli
  have hcab := fun c (hc : c < 2) => cab_fact hli (c := c) hc
  have hPU := PU_2 hli
  obtain ⟨t, c, ht, p, cm, ar, gn, mt, nb, en, jo, b, u, ⟨⟨v0, v1, v2, v3, v4, v5⟩, -⟩, ⟨⟨a1, a2, a3, a4⟩, hc6, hb, hp, hcm, -, -, -, hnb, r0, r1, h20⟩, ⟨hS, hR, hP⟩, -⟩ := LI_bnd hli
  have huB := uB_of v5
  have rid6 : ∀ c, c < 2 → crRid A.1.2.2.1 (nI c) ≤ 6 := by
    intro c hc
    obtain rfl | rfl : c = 0 ∨ c = 1 := by omega
    · exact Nat.le_trans r0 hc6.2
    · exact Nat.le_trans r1 hc6.2
  have ridc : ∀ c', c' < 2 → crRid A.1.2.2.1 (nI c') ≤ c := by
    intro c' hc'
    obtain rfl | rfl : c' = 0 ∨ c' = 1 := by omega
    · exact r0
    · exact r1
  have hv0 : ∀ v, v < 2 → ¬ nI v = -1 := fun v _ z => absurd (nI_pos' (n := v) (by omega)) (by rw [z]; decide)
  have hparts := parts_len _ hR
  have hp0 : sPl A.1.2.1 (nI 0) = nI p := by
    show (if (0 : Int32) = 0 then A.1.2.1 4 else _) = _
    rw [if_pos rfl, v4]
  have hp1 : sPl A.1.2.1 (nI 1) = nI (24 - p) := by
    show (if (1 : Int32) = 0 then _ else 24 - A.1.2.1 4) = _
    rw [if_neg (by decide), v4, pl_24 p hp.1]
  have hu0 : sUp (uB A.1.2.1) (nI 0) = u := by
    show (if (0 : Int32) = 0 then uB A.1.2.1 else _) = _
    rw [if_pos rfl, huB]
  have hu1 : sUp (uB A.1.2.1) (nI 1) = !u := by
    show (if (1 : Int32) = 0 then _ else !uB A.1.2.1) = _
    rw [if_neg (by decide), huB]
  have hposm := bs_pos hBS hm v3
  -- after the minutes by passing
  have last : ∀ k9 n9 o1 o2 o3 o5 o6 o7 o8 o9, k9 ≤ 390 → n9 ≤ 2500 → J mi_L_isWell 9 400 2600 (fun r h' => r = .inl (some (.int (bI true))) ∧ CStep h A h') k9 n9 540 [some (.ref 0), o1, o2, o3, some (.int (nI m)), o5, o6, o7, o8, o9] [] h := by
    intro k9 n9 o1 o2 o3 o5 o6 o7 o8 o9 hk hn
    iterate 2 (refine J_step rfl rfl ?_)
    refine J_callV rfl rfl rfl rfl rfl C.1 rfl rfl rfl rfl (t_byPassingA C hu hgB hBS hm) (by omega) (by omega) (fun E h9 q => by cases q.1) (fun v9 h1 q => ?_)
    obtain ⟨q1, S1⟩ := q
    cases q1
    refine J_ic rfl (fun z => absurd rfl z) (fun _ => ?_)
    have C1 := S1.1
    refine J_step rfl rfl ?_
    have tail : ∀ k9 n9, k9 ≤ 400 → n9 ≤ 2600 → J mi_L_isWell 9 400 2600 (fun r h' => r = .inl (some (.int (bI true))) ∧ CStep h A h') k9 n9 594 [some (.ref 0), o1, o2, o3, some (.int (nI m)), o5, o6, o7, o8, o9] [] h1 := by
      intro k9 n9 hk hn
      refine J_step rfl rfl ?_
      refine J_callV rfl rfl rfl rfl rfl C1.1 rfl rfl rfl rfl (t_isConsistent C1 hu hgB hBS hm hSV hSC hSO hPt.1 hsBm) (by omega) (by omega) (fun E h9 q => by cases q.1) (fun v9 h2 q => ?_)
      obtain ⟨q1, S2⟩ := q
      cases q1
      refine J_if (y := 0) rfl (fun z => absurd z (by unfold oj_cz; decide)) (fun _ => ?_)
      iterate 2 (refine J_step rfl rfl ?_)
      exact J_ret (v := some (.int (bI true))) rfl (rets_z rfl) hk hn ⟨rfl, S1.trans S2⟩ rfl
    have heat : J mi_L_isWell 9 400 2600 (fun r h' => r = .inl (some (.int (bI true))) ∧ CStep h A h') k9 n9 566 [some (.ref 0), o1, o2, o3, some (.int (nI m)), o5, o6, o7, o8, o9] [] h1 := by
      refine J_step rfl rfl ?_
      refine J_callV rfl rfl rfl rfl rfl C1.1 rfl rfl rfl rfl (us_q_isBlocked (d := 0) C1 v3) (by omega) (by omega) (fun E h9 q => by cases q.1) (fun v9 h9 q => ?_)
      obtain ⟨q1, q2⟩ := q
      cases q1
      obtain rfl := q2.symm
      have hbb := hb
      cases b with
      | true =>
        refine J_if (y := 0) rfl (fun z => absurd z (by unfold oj_cz; decide)) (fun _ => ?_)
        refine J_step rfl rfl ?_
        refine J_callV rfl rfl rfl rfl rfl C1.1 rfl rfl rfl rfl (us_q_heat (d := 0) C1) (by omega) (by omega) (fun E h9 q => by cases q.1) (fun v9 h9 q => ?_)
        obtain ⟨q1, q2⟩ := q
        cases q1
        obtain rfl := q2.symm
        refine J_step rfl rfl ?_
        rw [v2]
        refine J_ic rfl (fun z => absurd (show nI ht ≤ nI 50 from z) (nI_ge (by have := hbb.1 rfl; omega) (by have := hbb.1 rfl; omega))) (fun _ => ?_)
        refine J_step rfl rfl ?_
        exact tail _ _ (by omega) (by omega)
      | false =>
        refine J_if (y := 0) rfl (fun _ => ?_) (fun z => absurd rfl z)
        refine J_step rfl rfl ?_
        refine J_callV rfl rfl rfl rfl rfl C1.1 rfl rfl rfl rfl (us_q_heat (d := 0) C1) (by omega) (by omega) (fun E h9 q => by cases q.1) (fun v9 h9 q => ?_)
        obtain ⟨q1, q2⟩ := q
        cases q1
        obtain rfl := q2.symm
        refine J_step rfl rfl ?_
        rw [v2]
        refine J_ic rfl (fun z => absurd (show nI 100 ≤ nI ht from z) (nI_ge (by have := hbb.2 rfl; omega) (by omega))) (fun _ => ?_)
        exact tail _ _ (by omega) (by omega)
    have isb : ∀ x : Bool, x = b → J mi_L_isWell 9 400 2600 (fun r h' => r = .inl (some (.int (bI true))) ∧ CStep h A h') k9 n9 559 [some (.ref 0), o1, o2, o3, some (.int (nI m)), o5, o6, o7, o8, o9] [.int (bI x)] h1 := by
      intro x hx
      subst hx
      refine J_step rfl rfl ?_
      refine J_callV rfl rfl rfl rfl rfl C1.1 rfl rfl rfl rfl (us_q_isBlocked (d := 0) C1 v3) (by omega) (by omega) (fun E h9 q => by cases q.1) (fun v9 h9 q => ?_)
      obtain ⟨q1, q2⟩ := q
      cases q1
      obtain rfl := q2.symm
      refine J_ic rfl (fun z => absurd rfl z) (fun _ => ?_)
      exact heat
    refine J_if (y := 0) rfl (fun z => ?_) (fun z => ?_)
    · have h0 : ¬ 0 < m := fun w => absurd (show nI m ≤ nI 0 from z) (nI_ge w (by omega))
      refine J_step rfl rfl ?_
      refine isb false ?_
      cases b with
      | false => rfl
      | true => exact absurd (hposm.mpr rfl) h0
    · have h0 : 0 < m := by
        rcases Nat.eq_zero_or_pos m with w | w
        · exact absurd (show nI m ≤ 0 from by rw [w]; exact Int32.le_refl _) z
        · exact w
      iterate 2 (refine J_step rfl rfl ?_)
      exact isb true (hposm.mp h0).symm
  -- the sums
  have sums : ∀ k9 n9 o5 o6 o7 o8 o9, k9 ≤ 330 → n9 ≤ 2200 → J mi_L_isWell 9 400 2600 (fun r h' => r = .inl (some (.int (bI true))) ∧ CStep h A h') k9 n9 412 [some (.ref 0), some (.int (nI (cWS A.1.2.2.1 7))), some (.int (nI (sWs A.1.2.2.1 7))), some (.int (PU A.1 2)), some (.int (nI 7)), o5, o6, o7, o8, o9] [] h := by
    intro k9 n9 o5 o6 o7 o8 o9 hk hn
    refine J_step rfl rfl ?_
    refine J_callV rfl rfl rfl rfl rfl C.1 rfl rfl rfl rfl (us_q_blockedMinutes (d := 0) C) (by omega) (by omega) (fun E h9 q => by cases q.1) (fun v9 h9 q => ?_)
    obtain ⟨q1, q2⟩ := q
    cases q1
    obtain rfl := q2.symm
    rw [hsBm]
    have next : ∀ k9 n9, k9 ≤ 350 → n9 ≤ 2300 → J mi_L_isWell 9 400 2600 (fun r h' => r = .inl (some (.int (bI true))) ∧ CStep h A h') k9 n9 456 [some (.ref 0), some (.int (nI (cWS A.1.2.2.1 7))), some (.int (nI (sWs A.1.2.2.1 7))), some (.int (PU A.1 2)), some (.int (nI m)), o5, o6, o7, o8, o9] [] h := by
      intro k9 n9 hk hn
      iterate 3 (refine J_step rfl rfl ?_)
      refine J_if (y := 0) rfl (fun z => absurd rfl z) (fun _ => ?_)
      refine J_step rfl rfl ?_
      refine J_callV rfl rfl rfl rfl rfl C.1 rfl rfl rfl rfl (us_q_imbalance C hu) (by omega) (by omega) (fun E h9 q => by cases q.1) (fun v9 h9 q => ?_)
      obtain ⟨q1, q2⟩ := q
      cases q1
      obtain rfl := q2.symm
      refine J_step rfl rfl ?_
      refine J_ic rfl (fun z => absurd hPU z) (fun _ => ?_)
      iterate 2 (refine J_step rfl rfl ?_)
      refine J_callV rfl rfl rfl rfl rfl C.1 rfl rfl rfl rfl (us_q_place (c := 0) C (by omega)) (by omega) (by omega) (fun E h9 q => by cases q.1) (fun v9 h9 q => ?_)
      obtain ⟨q1, q2⟩ := q
      cases q1
      obtain rfl := q2.symm
      iterate 2 (refine J_step rfl rfl ?_)
      refine J_callV rfl rfl rfl rfl rfl C.1 rfl rfl rfl rfl (us_q_place (c := 1) C (by omega)) (by omega) (by omega) (fun E h9 q => by cases q.1) (fun v9 h9 q => ?_)
      obtain ⟨q1, q2⟩ := q
      cases q1
      obtain rfl := q2.symm
      rw [hp0, hp1]
      refine J_step rfl rfl ?_
      rw [nI_add, show p + (24 - p) = 24 by have := hp.1; omega]
      refine J_step rfl rfl ?_
      refine J_ic rfl (fun z => absurd rfl z) (fun _ => ?_)
      iterate 2 (refine J_step rfl rfl ?_)
      refine J_callV rfl rfl rfl rfl rfl C.1 rfl rfl rfl rfl (us_q_goesUp (c := 0) C (by omega) hu) (by omega) (by omega) (fun E h9 q => by cases q.1) (fun v9 h9 q => ?_)
      obtain ⟨q1, q2⟩ := q
      cases q1
      obtain rfl := q2.symm
      iterate 2 (refine J_step rfl rfl ?_)
      refine J_callV rfl rfl rfl rfl rfl C.1 rfl rfl rfl rfl (us_q_goesUp (c := 1) C (by omega) hu) (by omega) (by omega) (fun E h9 q => by cases q.1) (fun v9 h9 q => ?_)
      obtain ⟨q1, q2⟩ := q
      cases q1
      obtain rfl := q2.symm
      rw [hu0, hu1]
      refine J_ic rfl (fun z => absurd (show bI u = bI (!u) from z) (by cases u <;> decide)) (fun _ => ?_)
      iterate 3 (refine J_step rfl rfl ?_)
      refine J_callV rfl rfl rfl rfl rfl C.1 rfl rfl rfl rfl (us_q_riders (c := 0) C (by omega)) (by omega) (by omega) (fun E h9 q => by cases q.1) (fun v9 h9 q => ?_)
      obtain ⟨q1, q2⟩ := q
      cases q1
      obtain rfl := q2.symm
      refine J_step rfl rfl ?_
      rw [nI_add]
      iterate 2 (refine J_step rfl rfl ?_)
      refine J_callV rfl rfl rfl rfl rfl C.1 rfl rfl rfl rfl (us_q_riders (c := 1) C (by omega)) (by omega) (by omega) (fun E h9 q => by cases q.1) (fun v9 h9 q => ?_)
      obtain ⟨q1, q2⟩ := q
      cases q1
      obtain rfl := q2.symm
      refine J_step rfl rfl ?_
      rw [nI_add]
      refine J_step rfl rfl ?_
      refine J_callV rfl rfl rfl rfl rfl C.1 rfl rfl rfl rfl (us_q_pickers (d := 0) C) (by omega) (by omega) (fun E h9 q => by cases q.1) (fun v9 h9 q => ?_)
      obtain ⟨q1, q2⟩ := q
      cases q1
      obtain rfl := q2.symm
      refine J_ic rfl (fun z => absurd (congrArg nI hparts) z) (fun _ => ?_)
      iterate 2 (refine J_step rfl rfl ?_)
      refine J_callV rfl rfl rfl rfl rfl C.1 rfl rfl rfl rfl (us_q_waitingStations C) (by omega) (by omega) (fun E h9 q => by cases q.1) (fun v9 h9 q => ?_)
      obtain ⟨q1, q2⟩ := q
      cases q1
      obtain rfl := q2.symm
      refine J_ic rfl (fun z => absurd rfl z) (fun _ => ?_)
      refine J_step rfl rfl ?_
      refine J_callV rfl rfl rfl rfl rfl C.1 rfl rfl rfl rfl (us_q_came (d := 0) C) (by omega) (by omega) (fun E h9 q => by cases q.1) (fun v9 h9 q => ?_)
      obtain ⟨q1, q2⟩ := q
      cases q1
      obtain rfl := q2.symm
      refine J_step rfl rfl ?_
      refine J_callV rfl rfl rfl rfl rfl C.1 rfl rfl rfl rfl (us_q_cameByParts C) (by omega) (by omega) (fun E h9 q => by cases q.1) (fun v9 h9 q => ?_)
      obtain ⟨q1, q2⟩ := q
      cases q1
      obtain rfl := q2.symm
      refine J_ic rfl (fun z => absurd hPt.1.symm z) (fun _ => ?_)
      exact last _ _ _ _ _ _ _ _ _ _ (by omega) (by omega)
    iterate 3 (refine J_step rfl rfl ?_)
    refine J_callV rfl rfl rfl rfl rfl C.1 rfl rfl rfl rfl (us_q_place (c := 0) C (by omega)) (by omega) (by omega) (fun E h9 q => by cases q.1) (fun v9 h9 q => ?_)
    obtain ⟨q1, q2⟩ := q
    cases q1
    obtain rfl := q2.symm
    rw [hp0]
    have upper : ∀ k9 n9, k9 ≤ 340 → n9 ≤ 2240 → J mi_L_isWell 9 400 2600 (fun r h' => r = .inl (some (.int (bI true))) ∧ CStep h A h') k9 n9 434 [some (.ref 0), some (.int (nI (cWS A.1.2.2.1 7))), some (.int (nI (sWs A.1.2.2.1 7))), some (.int (PU A.1 2)), some (.int (nI m)), o5, o6, o7, o8, o9] [] h := by
      intro k9 n9 hk hn
      iterate 2 (refine J_step rfl rfl ?_)
      refine J_callV rfl rfl rfl rfl rfl C.1 rfl rfl rfl rfl (us_q_place (c := 0) C (by omega)) (by omega) (by omega) (fun E h9 q => by cases q.1) (fun v9 h9 q => ?_)
      obtain ⟨q1, q2⟩ := q
      cases q1
      obtain rfl := q2.symm
      rw [hp0]
      refine J_step rfl rfl ?_
      refine J_ic rfl (fun _ => ?_) (fun z => ?_)
      · exact next _ _ (by omega) (by omega)
      · have z : nI p = nI 24 := Decidable.not_not.mp z
        have hp24 : p = 24 := (nI_eq (by have := hp.1; omega) (by omega)).mp z
        iterate 2 (refine J_step rfl rfl ?_)
        refine J_callV rfl rfl rfl rfl rfl C.1 rfl rfl rfl rfl (us_q_goesUp (c := 0) C (by omega) hu) (by omega) (by omega) (fun E h9 q => by cases q.1) (fun v9 h9 q => ?_)
        obtain ⟨q1, q2⟩ := q
        cases q1
        obtain rfl := q2.symm
        rw [hu0, hp.2.2 hp24]
        refine J_if (y := 0) rfl (fun _ => ?_) (fun z => absurd rfl z)
        exact next _ _ (by omega) (by omega)
    refine J_if (y := 0) rfl (fun _ => ?_) (fun z => ?_)
    · exact upper _ _ (by omega) (by omega)
    · have z : nI p = nI 0 := Decidable.not_not.mp z
      have hp00 : p = 0 := (nI_eq (by have := hp.1; omega) (by omega)).mp z
      iterate 2 (refine J_step rfl rfl ?_)
      refine J_callV rfl rfl rfl rfl rfl C.1 rfl rfl rfl rfl (us_q_goesUp (c := 0) C (by omega) hu) (by omega) (by omega) (fun E h9 q => by cases q.1) (fun v9 h9 q => ?_)
      obtain ⟨q1, q2⟩ := q
      cases q1
      obtain rfl := q2.symm
      rw [hu0, hp.2.1 hp00]
      refine J_if (y := 0) rfl (fun z => absurd z (by unfold oj_cz; decide)) (fun _ => ?_)
      exact upper _ _ (by omega) (by omega)
  -- the stations
  have loopS : ∀ m j k9 n9 o5 o6 o7 o8 o9, m + j = 7 → k9 ≤ 130 + 4 * cWS A.1.2.2.1 j + 3 * j → n9 ≤ 780 + 24 * cWS A.1.2.2.1 j + 18 * j → J mi_L_isWell 9 400 2600 (fun r h' => r = .inl (some (.int (bI true))) ∧ CStep h A h') k9 n9 305 [some (.ref 0), some (.int (nI (cWS A.1.2.2.1 j))), some (.int (nI (sWs A.1.2.2.1 j))), some (.int (PU A.1 2)), some (.int (nI j)), o5, o6, o7, o8, o9] [] h := by
    intro m
    induction m with
    | zero =>
      intro j k9 n9 o5 o6 o7 o8 o9 hj hk hn
      obtain rfl : j = 7 := by omega
      iterate 2 (refine J_step rfl rfl ?_)
      refine J_ic rfl (fun _ => ?_) (fun z => absurd (show nI 7 ≤ nI 7 from Int32.le_refl _) z)
      exact sums _ _ _ _ _ _ _ (by omega) (by omega)
    | succ m ih =>
      intro s k9 n9 o5 o6 o7 o8 o9 hj hk hn
      have hs : s < 7 := by omega
      have hWs : cWS A.1.2.2.1 (s + 1) = cWS A.1.2.2.1 s + crWtg A.1.2.2.1 (nI s) := rfl
      have hWm : ∀ j, j ≤ 7 → cWS A.1.2.2.1 j ≤ cWS A.1.2.2.1 7 := by
        intro j hj
        have mono : ∀ d a, cWS A.1.2.2.1 a ≤ cWS A.1.2.2.1 (a + d) := by
          intro d
          induction d with
          | zero => intro a; exact Nat.le_refl _
          | succ d ih => intro a; exact Nat.le_trans (ih a) (Nat.le_add_right _ _)
        have := mono (7 - j) j
        rwa [show j + (7 - j) = 7 by omega] at this
      have hW7 := hWm (s + 1) (by omega)
      have hwt : crWtg A.1.2.2.1 (nI s) ≤ 20 := by omega
      have loopW : ∀ m j k8 n8 x o7, m + j = crWtg A.1.2.2.1 (nI s) → lastW A.1.2.2.1 s j x → k8 ≤ k9 + 4 * j → n8 ≤ n9 + 24 * j → J mi_L_isWell 9 400 2600 (fun r h' => r = .inl (some (.int (bI true))) ∧ CStep h A h') k8 n8 318 [some (.ref 0), some (.int (nI (cWS A.1.2.2.1 s))), some (.int (nI (sWs A.1.2.2.1 s))), some (.int (PU A.1 2)), some (.int (nI s)), some (.int x), some (.int (nI j)), o7, o8, o9] [] h := by
        intro m
        induction m with
        | zero =>
          intro j k8 n8 x o7 hj2 hx hk8 hn8
          obtain rfl : j = crWtg A.1.2.2.1 (nI s) := by omega
          iterate 3 (refine J_step rfl rfl ?_)
          refine J_callV rfl rfl rfl rfl rfl C.1 rfl rfl rfl rfl (us_q_waiting (s := s) C hs) (by omega) (by omega) (fun E h9 q => by cases q.1) (fun v9 h9 q => ?_)
          obtain ⟨q1, q2⟩ := q
          cases q1
          obtain rfl := q2.symm
          refine J_ic rfl (fun _ => ?_) (fun z => absurd (Int32.le_refl _) z)
          iterate 3 (refine J_step rfl rfl ?_)
          refine J_callV rfl rfl rfl rfl rfl C.1 rfl rfl rfl rfl (us_q_waiting (s := s) C hs) (by omega) (by omega) (fun E h9 q => by cases q.1) (fun v9 h9 q => ?_)
          obtain ⟨q1, q2⟩ := q
          cases q1
          obtain rfl := q2.symm
          refine J_step rfl rfl ?_
          rw [nI_add]
          iterate 4 (refine J_step rfl rfl ?_)
          refine J_callV rfl rfl rfl rfl rfl C.1 rfl rfl rfl rfl (us_q_waiting (s := s) C hs) (by omega) (by omega) (fun E h9 q => by cases q.1) (fun v9 h9 q => ?_)
          obtain ⟨q1, q2⟩ := q
          cases q1
          obtain rfl := q2.symm
          refine J_if (y := 0) rfl (fun z => ?_) (fun z => ?_)
          · have hw0 : ¬ 0 < crWtg A.1.2.2.1 (nI s) := fun w => absurd (show nI (crWtg A.1.2.2.1 (nI s)) ≤ nI 0 from z) (nI_ge w (by omega))
            iterate 3 (refine J_step rfl rfl ?_)
            have e9 : nI (sWs A.1.2.2.1 s) + 0 = nI (sWs A.1.2.2.1 (s + 1)) := by
              show nI (sWs A.1.2.2.1 s) + nI 0 = nI (sWs A.1.2.2.1 s + _)
              rw [if_neg hw0, nI_add]
            rw [e9]
            refine J_step rfl rfl ?_
            rw [nI_1]
            refine J_step rfl rfl ?_
            exact ih (s + 1) _ _ _ _ _ _ _ (by omega) (by omega) (by omega)
          · have hw0 : 0 < crWtg A.1.2.2.1 (nI s) := by
              rcases Nat.eq_zero_or_pos (crWtg A.1.2.2.1 (nI s)) with w | w
              · exact absurd (show nI (crWtg A.1.2.2.1 (nI s)) ≤ 0 from by rw [w]; exact Int32.le_refl _) z
              · exact w
            iterate 4 (refine J_step rfl rfl ?_)
            have e9 : nI (sWs A.1.2.2.1 s) + 1 = nI (sWs A.1.2.2.1 (s + 1)) := by
              show nI (sWs A.1.2.2.1 s) + nI 1 = nI (sWs A.1.2.2.1 s + _)
              rw [if_pos hw0, nI_add]
            rw [e9]
            refine J_step rfl rfl ?_
            rw [nI_1]
            refine J_step rfl rfl ?_
            exact ih (s + 1) _ _ _ _ _ _ _ (by omega) (by omega) (by omega)
        | succ m ih2 =>
          intro j k8 n8 x o7 hj2 hx hk8 hn8
          iterate 3 (refine J_step rfl rfl ?_)
          refine J_callV rfl rfl rfl rfl rfl C.1 rfl rfl rfl rfl (us_q_waiting (s := s) C hs) (by omega) (by omega) (fun E h9 q => by cases q.1) (fun v9 h9 q => ?_)
          obtain ⟨q1, q2⟩ := q
          cases q1
          obtain rfl := q2.symm
          refine J_ic rfl (fun z => absurd (show nI (crWtg A.1.2.2.1 (nI s)) ≤ nI j from z) (nI_ge (by omega) (by omega))) (fun _ => ?_)
          obtain ⟨i, hi, e1, ew, ec⟩ := wr_at h20 (s := nI s) (k := j) (by omega)
          have e2 : lnRow A.1.2.2.1 (rNum (rAt A.1.2.2.1 i)) = nI i := num_row hP hi
          obtain ⟨f1, f2⟩ := Bool.and_eq_true_iff.mp ew
          have f1 : rCab (rAt A.1.2.2.1 i) = -1 := eq_of_beq f1
          have f2 : (rAt A.1.2.2.1 i).2.2.1 = nI s := eq_of_beq f2
          have f3 : ¬ rDst (rAt A.1.2.2.1 i) = nI s := fun z => hSO.2.1 i hi (by rw [f2]; exact z.symm)
          iterate 3 (refine J_step rfl rfl ?_)
          refine J_callS rfl rfl rfl rfl (Or.inl rfl) rfl rfl rfl rfl (us_w_waitingAt C hs e1 (by omega)) (by omega) (by omega) (fun E h9 q => by cases q.1) (fun v9 h9 q => ?_)
          obtain ⟨q1, q2⟩ := q
          cases q1
          obtain rfl := q2.symm
          iterate 3 (refine J_step rfl rfl ?_)
          refine J_ic rfl (fun z => absurd z (lastW_lt hR hP (by omega) hx hi ec)) (fun _ => ?_)
          iterate 2 (refine J_step rfl rfl ?_)
          refine J_callS rfl rfl rfl rfl (Or.inl rfl) rfl rfl rfl rfl (us_w_cabinOf C e2 (by omega)) (by omega) (by omega) (fun E h9 q => by cases q.1) (fun v9 h9 q => ?_)
          obtain ⟨q1, q2⟩ := q
          cases q1
          obtain rfl := q2.symm
          rw [if_pos f1]
          refine J_ldcI (v := -900001) rfl (by decide +kernel) ?_
          refine J_ic rfl (fun z => absurd rfl z) (fun _ => ?_)
          iterate 2 (refine J_step rfl rfl ?_)
          refine J_callV rfl rfl rfl rfl rfl C.1 rfl rfl rfl rfl (us_q_destination C e2 (by omega)) (by omega) (by omega) (fun E h9 q => by cases q.1) (fun v9 h9 q => ?_)
          obtain ⟨q1, q2⟩ := q
          cases q1
          obtain rfl := q2.symm
          refine J_step rfl rfl ?_
          refine J_ic rfl (fun _ => ?_) (fun z => absurd f3 z)
          iterate 3 (refine J_step rfl rfl ?_)
          rw [nI_1]
          refine J_step rfl rfl ?_
          exact ih2 (j + 1) _ _ _ _ (by omega) (Or.inr ⟨i, hi, rfl, by omega⟩) (by omega) (by omega)
      iterate 2 (refine J_step rfl rfl ?_)
      refine J_ic rfl (fun z => absurd (show nI 7 ≤ nI s from z) (nI_ge (by omega) (by omega))) (fun _ => ?_)
      iterate 4 (refine J_step rfl rfl ?_)
      exact loopW _ 0 _ _ _ _ (Nat.add_zero _) (Or.inl ⟨rfl, rfl⟩) (by omega) (by omega)
  -- the cabins
  have loopC : ∀ m j k9 n9 o5 o6 o7 o8 o9, m + j = 2 → k9 ≤ 60 * j → n9 ≤ 360 * j → J mi_L_isWell 9 400 2600 (fun r h' => r = .inl (some (.int (bI true))) ∧ CStep h A h') k9 n9 9 [some (.ref 0), some (.int (nI 0)), some (.int (nI 0)), some (.int (PU A.1 j)), some (.int (nI j)), o5, o6, o7, o8, o9] [] h := by
    intro m
    induction m with
    | zero =>
      intro j k9 n9 o5 o6 o7 o8 o9 hj hk hn
      obtain rfl : j = 2 := by omega
      iterate 2 (refine J_step rfl rfl ?_)
      refine J_ic rfl (fun _ => ?_) (fun z => absurd (show nI 2 ≤ nI 2 from Int32.le_refl _) z)
      iterate 2 (refine J_step rfl rfl ?_)
      exact loopS 7 0 _ _ _ _ _ _ _ (by omega) (by omega) (by omega)
    | succ m ih =>
      intro c' k9 n9 o5 o6 o7 o8 o9 hj hk hn
      have hc : c' < 2 := by omega
      have h6 := rid6 c' hc
      have h6c := ridc c' hc
      obtain ⟨P, g, U, hP24, hg, eP, eU, eg, eA, hat⟩ := hcab c' hc
      have hfull : ridW A.1.2.2.1 (nI c') (crRid A.1.2.2.1 (nI c')) = crFull A.1.2.2.1 (nI c') := rid_sum (hv0 c' hc) (by omega) h20 hR hP
      obtain ⟨d1, -⟩ := div4_tab P hP24
      -- the stations of a cabin
      have loopU : ∀ m j k8 n8 o5 o7 o9, m + j = 7 → k8 ≤ k9 + 36 + 3 * j → n8 ≤ n9 + 216 + 18 * j → J mi_L_isWell 9 400 2600 (fun r h' => r = .inl (some (.int (bI true))) ∧ CStep h A h') k8 n8 229 [some (.ref 0), some (.int (nI 0)), some (.int (nI 0)), some (.int (PU A.1 (c' + 1))), some (.int (nI c')), o5, some (.int (nI P)), o7, some (.int (nI j)), o9] [] h := by
        intro m
        induction m with
        | zero =>
          intro j k8 n8 o5 o7 o9 hj2 hk8 hn8
          obtain rfl : j = 7 := by omega
          iterate 2 (refine J_step rfl rfl ?_)
          refine J_ic rfl (fun _ => ?_) (fun z => absurd (show nI 7 ≤ nI 7 from Int32.le_refl _) z)
          refine J_step rfl rfl ?_
          rw [nI_1]
          refine J_step rfl rfl ?_
          exact ih (c' + 1) _ _ _ _ _ _ _ (by omega) (by omega) (by omega)
        | succ m ih2 =>
          intro s k8 n8 o5 o7 o9 hj2 hk8 hn8
          have hs : s < 7 := by omega
          iterate 2 (refine J_step rfl rfl ?_)
          refine J_ic rfl (fun z => absurd (show nI 7 ≤ nI s from z) (nI_ge (by omega) (by omega))) (fun _ => ?_)
          iterate 3 (refine J_step rfl rfl ?_)
          refine J_callV rfl rfl rfl rfl rfl C.1 rfl rfl rfl rfl (us_q_unitsUntil C hc hs hu) (by omega) (by omega) (fun E h9 q => by cases q.1) (fun v9 h9 q => ?_)
          obtain ⟨q1, q2⟩ := q
          cases q1
          obtain rfl := q2.symm
          iterate 3 (refine J_step rfl rfl ?_)
          refine J_callV rfl rfl rfl rfl rfl C.1 rfl rfl rfl rfl (us_q_unitsUntilByMoving C hc hs hu) (by omega) (by omega) (fun E h9 q => by cases q.1) (fun v9 h9 q => ?_)
          obtain ⟨q1, q2⟩ := q
          cases q1
          obtain rfl := q2.symm
          refine J_ic rfl (fun z => absurd (sc_units hSC hc hs) z) (fun _ => ?_)
          iterate 3 (refine J_step rfl rfl ?_)
          refine J_callV rfl rfl rfl rfl rfl C.1 rfl rfl rfl rfl (us_q_unitsUntil C hc hs hu) (by omega) (by omega) (fun E h9 q => by cases q.1) (fun v9 h9 q => ?_)
          obtain ⟨q1, q2⟩ := q
          cases q1
          obtain rfl := q2.symm
          rw [eP, eU]
          have hz := uz_tab P hP24 U s hs
          have fin : ∀ k7 n7, k7 ≤ k8 + 3 → n7 ≤ n8 + 18 → J mi_L_isWell 9 400 2600 (fun r h' => r = .inl (some (.int (bI true))) ∧ CStep h A h') k7 n7 290 [some (.ref 0), some (.int (nI 0)), some (.int (nI 0)), some (.int (PU A.1 (c' + 1))), some (.int (nI c')), o5, some (.int (nI P)), o7, some (.int (nI s)), o9] [] h := by
            intro k7 n7 hk7 hn7
            refine J_step rfl rfl ?_
            rw [nI_1]
            refine J_step rfl rfl ?_
            exact ih2 (s + 1) _ _ _ _ _ (by omega) (by omega) (by omega)
          refine J_if (y := 0) rfl (fun z => ?_) (fun z => ?_)
          · have z : ¬ nI P = 4 * nI s := fun w => z (hz.mpr w)
            iterate 5 (refine J_step rfl rfl ?_)
            refine J_ic rfl (fun _ => ?_) (fun w => absurd z w)
            refine J_step rfl rfl ?_
            refine J_ic rfl (fun _ => ?_) (fun w => absurd rfl w)
            exact fin _ _ (by omega) (by omega)
          · have z : nI P = 4 * nI s := hz.mp (Decidable.not_not.mp z)
            iterate 6 (refine J_step rfl rfl ?_)
            refine J_ic rfl (fun w => absurd z w) (fun _ => ?_)
            iterate 2 (refine J_step rfl rfl ?_)
            refine J_ic rfl (fun _ => ?_) (fun w => absurd rfl w)
            exact fin _ _ (by omega) (by omega)
      -- the checks of a cabin
      have chk : ∀ k8 n8 o8 o9, k8 ≤ k9 + 29 → n8 ≤ n9 + 174 → J mi_L_isWell 9 400 2600 (fun r h' => r = .inl (some (.int (bI true))) ∧ CStep h A h') k8 n8 147 [some (.ref 0), some (.int (nI 0)), some (.int (nI 0)), some (.int (PU A.1 (c' + 1))), some (.int (nI c')), some (.int (crFull A.1.2.2.1 (nI c'))), some (.int (nI P)), some (.int (nI g)), o8, o9] [] h := by
        intro k8 n8 o8 o9 hk8 hn8
        iterate 2 (refine J_step rfl rfl ?_)
        refine J_callV rfl rfl rfl rfl rfl C.1 rfl rfl rfl rfl (us_q_cabinWeight C hc) (by omega) (by omega) (fun E h9 q => by cases q.1) (fun v9 h9 q => ?_)
        obtain ⟨q1, q2⟩ := q
        cases q1
        obtain rfl := q2.symm
        refine J_step rfl rfl ?_
        refine J_ic rfl (fun z => absurd rfl z) (fun _ => ?_)
        iterate 2 (refine J_step rfl rfl ?_)
        refine J_callV rfl rfl rfl rfl rfl C.1 rfl rfl rfl rfl (us_q_nextSegment C hc hu) (by omega) (by omega) (fun E h9 q => by cases q.1) (fun v9 h9 q => ?_)
        obtain ⟨q1, q2⟩ := q
        cases q1
        obtain rfl := q2.symm
        refine J_step rfl rfl ?_
        refine J_ic rfl (fun z => absurd eA z) (fun _ => ?_)
        iterate 2 (refine J_step rfl rfl ?_)
        refine J_callS rfl rfl rfl rfl (Or.inl rfl) rfl rfl rfl rfl (us_w_station C hc) (by omega) (by omega) (fun E h9 q => by cases q.1) (fun v9 h9 q => ?_)
        obtain ⟨q1, q2⟩ := q
        cases q1
        obtain rfl := q2.symm
        iterate 2 (refine J_step rfl rfl ?_)
        refine J_irem rfl (by decide) ?_
        rw [d1]
        have rest : ∀ x : Int32, J mi_L_isWell 9 400 2600 (fun r h' => r = .inl (some (.int (bI true))) ∧ CStep h A h') (k8 + 1 + 1 + 1) (n8 + 6 + 6 + 6) 191 [some (.ref 0), some (.int (nI 0)), some (.int (nI 0)), some (.int (PU A.1 (c' + 1))), some (.int (nI c')), some (.int (crFull A.1.2.2.1 (nI c'))), some (.int (nI P)), some (.int (nI g)), o8, o9] [.int x, .int x] h := by
          intro x
          refine J_ic rfl (fun z => absurd rfl z) (fun _ => ?_)
          iterate 2 (refine J_step rfl rfl ?_)
          refine J_callV rfl rfl rfl rfl rfl C.1 rfl rfl rfl rfl (us_q_riders C hc) (by omega) (by omega) (fun E h9 q => by cases q.1) (fun v9 h9 q => ?_)
          obtain ⟨q1, q2⟩ := q
          cases q1
          obtain rfl := q2.symm
          refine J_step rfl rfl ?_
          refine J_callV rfl rfl rfl rfl rfl C.1 rfl rfl rfl rfl (us_q_capacity (d := 0) C) (by omega) (by omega) (fun E h9 q => by cases q.1) (fun v9 h9 q => ?_)
          obtain ⟨q1, q2⟩ := q
          cases q1
          obtain rfl := q2.symm
          rw [v1]
          refine J_ic rfl (fun z => absurd z (Int32.not_lt.mpr (nI_le h6c (by omega)))) (fun _ => ?_)
          iterate 4 (refine J_step rfl rfl ?_)
          refine J_callV rfl rfl rfl rfl rfl C.1 rfl rfl rfl rfl (us_q_riders C hc) (by omega) (by omega) (fun E h9 q => by cases q.1) (fun v9 h9 q => ?_)
          obtain ⟨q1, q2⟩ := q
          cases q1
          obtain rfl := q2.symm
          refine J_callS rfl rfl rfl rfl (Or.inl rfl) rfl rfl rfl rfl (us_w_riderAtN C hc (rr_none h20)) (by omega) (by omega) (fun E h9 q => by cases q.1) (fun v9 h9 q => ?_)
          obtain ⟨q1, q2⟩ := q
          cases q1
          obtain rfl := q2.symm
          refine J_ldcI (v := -900002) rfl (by decide +kernel) ?_
          refine J_ic rfl (fun _ => ?_) (fun z => absurd rfl z)
          iterate 2 (refine J_step rfl rfl ?_)
          exact loopU 7 0 _ _ _ _ _ (by omega) (by omega) (by omega)
        refine J_if (y := 0) rfl (fun z => ?_) (fun z => ?_)
        · have z : ¬ P % 4 = 0 := fun w => z (by rw [w]; rfl)
          rw [if_neg (fun w => z (hat.mp w))]
          refine J_ldcI (v := -900002) rfl (by decide +kernel) ?_
          exact rest _
        · have z : nI (P % 4) = nI 0 := Decidable.not_not.mp z
          have z : P % 4 = 0 := (nI_eq (by omega) (by omega)).mp z
          rw [if_pos (hat.mpr z), eP]
          iterate 2 (refine J_step rfl rfl ?_)
          refine J_idiv rfl (by decide) ?_
          refine J_step rfl rfl ?_
          exact rest _
      -- the riders
      have loopR : ∀ m j k8 n8 o9, m + j = crRid A.1.2.2.1 (nI c') → k8 ≤ k9 + 2 + 4 * j → n8 ≤ n9 + 12 + 24 * j → J mi_L_isWell 9 400 2600 (fun r h' => r = .inl (some (.int (bI true))) ∧ CStep h A h') k8 n8 55 [some (.ref 0), some (.int (nI 0)), some (.int (nI 0)), some (.int (PU A.1 c')), some (.int (nI c')), some (.int (ridW A.1.2.2.1 (nI c') j)), some (.int (nI P)), some (.int (nI g)), some (.int (nI j)), o9] [] h := by
        intro m
        induction m with
        | zero =>
          intro j k8 n8 o9 hj2 hk8 hn8
          obtain rfl : j = crRid A.1.2.2.1 (nI c') := by omega
          iterate 3 (refine J_step rfl rfl ?_)
          refine J_callV rfl rfl rfl rfl rfl C.1 rfl rfl rfl rfl (us_q_riders C hc) (by omega) (by omega) (fun E h9 q => by cases q.1) (fun v9 h9 q => ?_)
          obtain ⟨q1, q2⟩ := q
          cases q1
          obtain rfl := q2.symm
          refine J_ic rfl (fun _ => ?_) (fun z => absurd (Int32.le_refl _) z)
          iterate 3 (refine J_step rfl rfl ?_)
          refine J_callV rfl rfl rfl rfl rfl C.1 rfl rfl rfl rfl (us_q_goesUp C hc hu) (by omega) (by omega) (fun E h9 q => by cases q.1) (fun v9 h9 q => ?_)
          obtain ⟨q1, q2⟩ := q
          cases q1
          obtain rfl := q2.symm
          rw [eU, hfull]
          have tail : ∀ x : Int32, x = (if U then 1 else -1) → J mi_L_isWell 9 400 2600 (fun r h' => r = .inl (some (.int (bI true))) ∧ CStep h A h') (k8 + 1 + 1) (n8 + 6 + 6) 135 [some (.ref 0), some (.int (nI 0)), some (.int (nI 0)), some (.int (PU A.1 c')), some (.int (nI c')), some (.int (crFull A.1.2.2.1 (nI c'))), some (.int (nI P)), some (.int (nI g)), some (.int (nI (crRid A.1.2.2.1 (nI c')))), o9] [.int x, .int (PU A.1 c')] h := by
            intro x hx
            iterate 4 (refine J_step rfl rfl ?_)
            refine J_callV rfl rfl rfl rfl rfl C.1 rfl rfl rfl rfl (us_q_slope (g := g) C hg) (by omega) (by omega) (fun E h9 q => by cases q.1) (fun v9 h9 q => ?_)
            obtain ⟨q1, q2⟩ := q
            cases q1
            obtain rfl := q2.symm
            iterate 2 (refine J_step rfl rfl ?_)
            have e9 : PU A.1 c' + x * crFull A.1.2.2.1 (nI c') * A.1.1 g = PU A.1 (c' + 1) := by
              rw [PU, eU, eA, nI_clamp (by omega), hx]
            rw [e9]
            refine J_step rfl rfl ?_
            exact chk _ _ _ _ (by omega) (by omega)
          cases U with
          | true =>
            refine J_if (y := 0) rfl (fun z => absurd z (by unfold oj_cz; decide)) (fun _ => ?_)
            iterate 2 (refine J_step rfl rfl ?_)
            exact tail _ rfl
          | false =>
            refine J_if (y := 0) rfl (fun _ => ?_) (fun z => absurd rfl z)
            refine J_step rfl rfl ?_
            exact tail _ rfl
        | succ m ih2 =>
          intro j k8 n8 o9 hj2 hk8 hn8
          iterate 3 (refine J_step rfl rfl ?_)
          refine J_callV rfl rfl rfl rfl rfl C.1 rfl rfl rfl rfl (us_q_riders C hc) (by omega) (by omega) (fun E h9 q => by cases q.1) (fun v9 h9 q => ?_)
          obtain ⟨q1, q2⟩ := q
          cases q1
          obtain rfl := q2.symm
          refine J_ic rfl (fun z => absurd (show nI (crRid A.1.2.2.1 (nI c')) ≤ nI j from z) (nI_ge (by omega) (by omega))) (fun _ => ?_)
          obtain ⟨i, hi, e1, ec, -⟩ := rr_at (hv0 c' hc) (by omega) h20 hR hP (k := j) (by omega)
          have e2 : lnRow A.1.2.2.1 (rNum (rAt A.1.2.2.1 i)) = nI i := num_row hP hi
          have ec : rCab (rAt A.1.2.2.1 i) = nI c' := ec
          obtain ⟨nn, w, a, b', ca, ⟨x1, l1⟩, -⟩ := hR _ (rAt_mem hi)
          have hnn : ¬ rNum (rAt A.1.2.2.1 i) < 0 := by
            rw [Int32.not_lt]
            show 0 ≤ (rAt A.1.2.2.1 i).1
            rw [x1]
            exact nI_pos' (by omega)
          iterate 3 (refine J_step rfl rfl ?_)
          refine J_callS rfl rfl rfl rfl (Or.inl rfl) rfl rfl rfl rfl (us_w_riderAt C hc e1 (by omega)) (by omega) (by omega) (fun E h9 q => by cases q.1) (fun v9 h9 q => ?_)
          obtain ⟨q1, q2⟩ := q
          cases q1
          obtain rfl := q2.symm
          iterate 2 (refine J_step rfl rfl ?_)
          refine J_if (y := 0) rfl (fun z => absurd z hnn) (fun _ => ?_)
          iterate 2 (refine J_step rfl rfl ?_)
          refine J_callS rfl rfl rfl rfl (Or.inl rfl) rfl rfl rfl rfl (us_w_cabinOf C e2 (by omega)) (by omega) (by omega) (fun E h9 q => by cases q.1) (fun v9 h9 q => ?_)
          obtain ⟨q1, q2⟩ := q
          cases q1
          obtain rfl := q2.symm
          rw [if_neg (by rw [ec]; exact hv0 c' hc), ec]
          refine J_step rfl rfl ?_
          refine J_ic rfl (fun z => absurd rfl z) (fun _ => ?_)
          iterate 2 (refine J_step rfl rfl ?_)
          refine J_callV rfl rfl rfl rfl rfl C.1 rfl rfl rfl rfl (us_q_isPresent C e2 (by omega)) (by omega) (by omega) (fun E h9 q => by cases q.1) (fun v9 h9 q => ?_)
          obtain ⟨q1, q2⟩ := q
          cases q1
          obtain rfl := q2.symm
          refine J_if (y := 0) rfl (fun _ => ?_) (fun z => absurd (show ¬ bI true = 0 by decide) z)
          iterate 3 (refine J_step rfl rfl ?_)
          refine J_callV rfl rfl rfl rfl rfl C.1 rfl rfl rfl rfl (us_q_weight C e2 (by omega)) (by omega) (by omega) (fun E h9 q => by cases q.1) (fun v9 h9 q => ?_)
          obtain ⟨q1, q2⟩ := q
          cases q1
          obtain rfl := q2.symm
          refine J_step rfl rfl ?_
          have e9 : ridW A.1.2.2.1 (nI c') j + rWt (rAt A.1.2.2.1 i) = ridW A.1.2.2.1 (nI c') (j + 1) := by
            rw [ridW, e1, nI_clamp (by omega)]
          rw [e9]
          iterate 2 (refine J_step rfl rfl ?_)
          rw [nI_1]
          refine J_step rfl rfl ?_
          exact ih2 (j + 1) _ _ _ (by omega) (by omega) (by omega)
      iterate 2 (refine J_step rfl rfl ?_)
      refine J_ic rfl (fun z => absurd (show nI 2 ≤ nI c' from z) (nI_ge (by omega) (by omega))) (fun _ => ?_)
      iterate 4 (refine J_step rfl rfl ?_)
      refine J_callV rfl rfl rfl rfl rfl C.1 rfl rfl rfl rfl (us_q_place C hc) (by omega) (by omega) (fun E h9 q => by cases q.1) (fun v9 h9 q => ?_)
      obtain ⟨q1, q2⟩ := q
      cases q1
      obtain rfl := q2.symm
      rw [eP]
      iterate 3 (refine J_step rfl rfl ?_)
      refine J_callV rfl rfl rfl rfl rfl C.1 rfl rfl rfl rfl (us_q_goesUp C hc hu) (by omega) (by omega) (fun E h9 q => by cases q.1) (fun v9 h9 q => ?_)
      obtain ⟨q1, q2⟩ := q
      cases q1
      obtain rfl := q2.symm
      rw [eU]
      cases U with
      | true =>
        refine J_if (y := 0) rfl (fun z => absurd z (by unfold oj_cz; decide)) (fun _ => ?_)
        iterate 2 (refine J_step rfl rfl ?_)
        refine J_idiv rfl (by decide) ?_
        rw [show nI P / 4 = nI g from eg]
        iterate 4 (refine J_step rfl rfl ?_)
        exact loopR _ 0 _ _ _ (Nat.add_zero _) (by omega) (by omega)
      | false =>
        refine J_if (y := 0) rfl (fun _ => ?_) (fun z => absurd rfl z)
        iterate 4 (refine J_step rfl rfl ?_)
        refine J_idiv rfl (by decide) ?_
        rw [show (nI P - 1) / 4 = nI g from eg]
        iterate 3 (refine J_step rfl rfl ?_)
        exact loopR _ 0 _ _ _ (Nat.add_zero _) (by omega) (by omega)
  refine JM_of gd_L_isWell rfl (by decide +kernel) (Nat.le_of_ble_eq_true rfl) (oj_cats rfl) (by decide) ?_
  iterate 8 (refine J_step rfl rfl ?_)
  exact loopC 2 0 _ _ _ _ _ _ _ (by omega) (by omega) (by omega)
