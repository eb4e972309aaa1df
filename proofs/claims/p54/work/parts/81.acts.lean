theorem wa_S : ∀ x ∈ wsV (oj_cls (mO mi_L_acts)) 127 (oj_hc 6) (mY mi_J4_append_15ec4) [oj_cw mi_J4_append_15ec4], x ∈ lwG := by decide +kernel
theorem wa_I : ∀ x ∈ wsV (oj_cls (mO mi_L_acts)) 131 (oj_hc 6) (mY mi_J4_append_bf812) [oj_cw mi_J4_append_bf812], x ∈ lwG := by decide +kernel
theorem wa_T : ∀ x ∈ wsV (oj_cls (mO mi_L_acts)) 136 (oj_hc 6) (mY mi_J4_toString_0e30d) [oj_cw mi_J4_toString_0e30d], x ∈ lwG := by decide +kernel
theorem wa_N : ∀ x ∈ [Cond.methodLink (oj_cls (mO mi_L_acts)) 124 (mY mi_J4_init_da8c8), .instanceMethod (mY mi_J4_init_da8c8), .initialized (mY mi_J4_init_da8c8).cls] ++ [oj_cw mi_J4_init_da8c8], x ∈ lwG := by decide +kernel
theorem wa_1 : Cond.classLink (oj_cls (mO mi_L_acts)) 122 (oj_hc 6) ∈ lwG := by decide +kernel
theorem wa_2 : Cond.instantiable (oj_hc 6) 4 ∈ lwG := by decide +kernel
theorem wa_3 : Cond.initialized (oj_hc 6) ∈ lwG := by decide +kernel
theorem SBx.mv {hb h h' : AHp} {a B0 M M' n : Nat} (H : SBx hb h a B0 M n) (hB : B0 ≤ M) (hM : M ≤ M') (hbd : oj_bd M' h') (hk : ∀ x, (x < M ∨ 999999 ≤ x) → h' x = h x) : SBx hb h' a B0 M' n := by
  obtain ⟨b, m, f, ⟨e, e2, r⟩, g1, g2, g3, g4, -, g6⟩ := H
  exact ⟨b, m, f, ⟨(hk a (Or.inl g2)).trans e, (hk b (Or.inl g4)).trans e2, r⟩, g1, by omega, g3, by omega, hbd, fun x hx => (hk x (by omega)).trans (g6 x hx)⟩
theorem SBx.bd {hb h : AHp} {a B0 M n : Nat} (H : SBx hb h a B0 M n) : oj_bd M h := by
  obtain ⟨b, m, f, -, -, -, -, -, h5, -⟩ := H
  exact h5
theorem SBx.nn {hb h : AHp} {a B0 M n : Nat} (H : SBx hb h a B0 M n) : (a < M) ∧ (h a ≠ nilc ∨ 999999 ≤ a) := by
  obtain ⟨b, m, f, ⟨e, -⟩, -, h2, -⟩ := H
  exact ⟨h2, nnR e (by decide)⟩
theorem sgN2 (v : Nat) : sgN v ≤ 2 := (sgN_le v).2
set_option maxRecDepth 100000 in
set_option maxHeartbeats 8000000 in
set_option maxRecDepth 100000 in
set_option maxHeartbeats 2000000 in
theorem c_acts {N M n i : Nat} {xs : Nat → Int32} {A : AS} {h : AHp} (hN : N ≤ 260) (H : LWs N xs A M h) (HA : AI A n) (hn : n ≤ 470) (ht : A.2.2.2.2.1 = []) (hM : M < 999000) (hi : i < 1000) : JM mi_L_acts 14 120 3000 [.ref 0, .ref 999999, .int (nI i)] h (fun r h' => ∃ v B M' n', r = .inl (some (.int v)) ∧ ActR A v B ∧ LWs N xs B M' h' ∧ AI B n' ∧ n' ≤ n + 26 ∧ M ≤ M' ∧ M' ≤ M + 40 ∧ ∀ x, 120 < x → x < M → h' x = h x) := by
  refine JM_ofL gd_L_acts rfl (by decide +kernel) (Nat.le_of_ble_eq_true rfl) (oj_cats rfl) ?_
  obtain ⟨HC, hbd, hM1, hs⟩ := id H
  obtain ⟨e, ⟨sl, hsl, hL⟩, -⟩ := id HC
  have ok0 : okB h M 0 := ⟨Or.inl (by omega), nnR e (by decide)⟩
  have okS : okB h M 999999 := ⟨Or.inr (Nat.le_refl _), Or.inr (Nat.le_refl _)⟩
  have main : ∀ a b c v : Nat, a < 8 → b < 8 → c < 60 → v < 24 → J mi_L_acts 14 120 3000 (fun r h' => ∃ v B M' n', r = .inl (some (.int v)) ∧ ActR A v B ∧ LWs N xs B M' h' ∧ AI B n' ∧ n' ≤ n + 26 ∧ M ≤ M' ∧ M' ≤ M + 40 ∧ ∀ x, 120 < x → x < M → h' x = h x) 0 0 39 [some (.ref 0), some (.ref 999999), some (.int (nI i)), some (.int (nI a)), some (.int (nI b)), some (.int (nI c))] [.int (nI v)] h := by
    intro a b c v ha hb hc hv
    have t132 : J mi_L_acts 14 120 3000 (fun r h' => ∃ v B M' n', r = .inl (some (.int v)) ∧ ActR A v B ∧ LWs N xs B M' h' ∧ AI B n' ∧ n' ≤ n + 26 ∧ M ≤ M' ∧ M' ≤ M + 40 ∧ ∀ x, 120 < x → x < M → h' x = h x) 0 0 132 [some (.ref 0), some (.ref 999999), some (.int (nI i)), some (.int (nI a)), some (.int (nI b)), some (.int (nI c))] [] h := by
      iterate 8 (refine J_step rfl rfl ?_)
      obtain ⟨w, B, hJ, hact, hAI⟩ := us_addPicker (p0 := 38 + 2 * nI c) (p1 := nI a) (p2 := nI b) HC HA (by omega) ht
      refine J_callS rfl rfl rfl rfl (Or.inl rfl) rfl rfl rfl rfl hJ (by omega) (by omega) (fun E h9 q => by cases q.1) (fun v h4 q => ?_)
      obtain ⟨q1, q2⟩ := q
      cases q1
      exact J_ret (v := some (.int w)) rfl (rets_i rfl) (by omega) (by omega) ⟨w, B, M, n + 1, rfl, hact, H.step q2, hAI, by omega, Nat.le_refl _, by omega, fun x z _ => q2.2 x z⟩ rfl
    have t176 : ∀ p : Int32, J mi_L_acts 14 120 3000 (fun r h' => ∃ v B M' n', r = .inl (some (.int v)) ∧ ActR A v B ∧ LWs N xs B M' h' ∧ AI B n' ∧ n' ≤ n + 26 ∧ M ≤ M' ∧ M' ≤ M + 40 ∧ ∀ x, 120 < x → x < M → h' x = h x) 0 0 176 [some (.ref 0), some (.ref 999999), some (.int (nI i)), some (.int (nI a)), some (.int (nI b)), some (.int (nI c))] [.int p, .ref 0] h := by
      intro p
      obtain ⟨w, B, hJ, hact, hAI⟩ := us_removePicker (p0 := p) HC HA (by omega) ht
      refine J_callS rfl rfl rfl rfl (Or.inl rfl) rfl rfl rfl rfl hJ (by omega) (by omega) (fun E h9 q => by cases q.1) (fun v h4 q => ?_)
      obtain ⟨q1, q2⟩ := q
      cases q1
      exact J_ret (v := some (.int w)) rfl (rets_i rfl) (by omega) (by omega) ⟨w, B, M, n + 1, rfl, hact, H.step q2, hAI, by omega, Nat.le_refl _, by omega, fun x z _ => q2.2 x z⟩ rfl
    have t171 : J mi_L_acts 14 120 3000 (fun r h' => ∃ v B M' n', r = .inl (some (.int v)) ∧ ActR A v B ∧ LWs N xs B M' h' ∧ AI B n' ∧ n' ≤ n + 26 ∧ M ≤ M' ∧ M' ≤ M + 40 ∧ ∀ x, 120 < x → x < M → h' x = h x) 0 0 171 [some (.ref 0), some (.ref 999999), some (.int (nI i)), some (.int (nI a)), some (.int (nI b)), some (.int (nI c))] [.ref 0] h := by
      iterate 2 (refine J_step rfl rfl ?_)
      refine J_irem rfl (by decide) ?_
      exact t176 _
    have t147 : J mi_L_acts 14 120 3000 (fun r h' => ∃ v B M' n', r = .inl (some (.int v)) ∧ ActR A v B ∧ LWs N xs B M' h' ∧ AI B n' ∧ n' ≤ n + 26 ∧ M ≤ M' ∧ M' ≤ M + 40 ∧ ∀ x, 120 < x → x < M → h' x = h x) 0 0 147 [some (.ref 0), some (.ref 999999), some (.int (nI i)), some (.int (nI a)), some (.int (nI b)), some (.int (nI c))] [] h := by
      iterate 3 (refine J_step rfl rfl ?_)
      refine J_irem rfl (by decide) ?_
      refine J_if (y := 0) rfl (fun _ => t171) (fun _ => ?_)
      refine J_step rfl rfl ?_
      refine J_cV rfl rfl rfl rfl rfl (by assumption) rfl rfl rfl rfl rfl rfl (t_came (d := 0) e hL) ?_
      refine J_if (y := 0) rfl (fun _ => t171) (fun _ => ?_)
      refine J_step rfl rfl ?_
      refine J_cV rfl rfl rfl rfl rfl (by assumption) rfl rfl rfl rfl rfl rfl (t_came (d := 0) e hL) ?_
      iterate 3 (refine J_step rfl rfl ?_)
      exact t176 _
    have t180 : J mi_L_acts 14 120 3000 (fun r h' => ∃ v B M' n', r = .inl (some (.int v)) ∧ ActR A v B ∧ LWs N xs B M' h' ∧ AI B n' ∧ n' ≤ n + 26 ∧ M ≤ M' ∧ M' ≤ M + 40 ∧ ∀ x, 120 < x → x < M → h' x = h x) 0 0 180 [some (.ref 0), some (.ref 999999), some (.int (nI i)), some (.int (nI a)), some (.int (nI b)), some (.int (nI c))] [] h := by
      iterate 4 (refine J_step rfl rfl ?_)
      refine J_irem rfl (by decide) ?_
      generalize nI c - nI c / 11 * 11 = p
      obtain ⟨w, B, hJ, hact, hAI⟩ := us_setSlope (p0 := nI a) (p1 := p) HC HA (by omega) ht
      refine J_callS rfl rfl rfl rfl (Or.inl rfl) rfl rfl rfl rfl hJ (by omega) (by omega) (fun E h9 q => by cases q.1) (fun v h4 q => ?_)
      obtain ⟨q1, q2⟩ := q
      cases q1
      exact J_ret (v := some (.int w)) rfl (rets_i rfl) (by omega) (by omega) ⟨w, B, M, n + 1, rfl, hact, H.step q2, hAI, by omega, Nat.le_refl _, by omega, fun x z _ => q2.2 x z⟩ rfl
    have t191 : J mi_L_acts 14 120 3000 (fun r h' => ∃ v B M' n', r = .inl (some (.int v)) ∧ ActR A v B ∧ LWs N xs B M' h' ∧ AI B n' ∧ n' ≤ n + 26 ∧ M ≤ M' ∧ M' ≤ M + 40 ∧ ∀ x, 120 < x → x < M → h' x = h x) 0 0 191 [some (.ref 0), some (.ref 999999), some (.int (nI i)), some (.int (nI a)), some (.int (nI b)), some (.int (nI c))] [] h := by
      refine J_step rfl rfl ?_
      obtain ⟨w, B, hJ, hact, hAI⟩ := us_turn HC HA (by omega) ht
      refine J_callS rfl rfl rfl rfl (Or.inl rfl) rfl rfl rfl rfl hJ (by omega) (by omega) (fun E h9 q => by cases q.1) (fun v h4 q => ?_)
      obtain ⟨q1, q2⟩ := q
      cases q1
      exact J_ret (v := some (.int w)) rfl (rets_i rfl) (by omega) (by omega) ⟨w, B, M, n + 1, rfl, hact, H.step q2, hAI, by omega, Nat.le_refl _, by omega, fun x z _ => q2.2 x z⟩ rfl
    have t196 : J mi_L_acts 14 120 3000 (fun r h' => ∃ v B M' n', r = .inl (some (.int v)) ∧ ActR A v B ∧ LWs N xs B M' h' ∧ AI B n' ∧ n' ≤ n + 26 ∧ M ≤ M' ∧ M' ≤ M + 40 ∧ ∀ x, 120 < x → x < M → h' x = h x) 0 0 196 [some (.ref 0), some (.ref 999999), some (.int (nI i)), some (.int (nI a)), some (.int (nI b)), some (.int (nI c))] [] h := by
      iterate 2 (refine J_step rfl rfl ?_)
      obtain ⟨w, B, hJ, hact, hAI⟩ := us_setCapacity (p0 := nI b) HC HA (by omega) ht
      refine J_callS rfl rfl rfl rfl (Or.inl rfl) rfl rfl rfl rfl hJ (by omega) (by omega) (fun E h9 q => by cases q.1) (fun v h4 q => ?_)
      obtain ⟨q1, q2⟩ := q
      cases q1
      exact J_ret (v := some (.int w)) rfl (rets_i rfl) (by omega) (by omega) ⟨w, B, M, n + 1, rfl, hact, H.step q2, hAI, by omega, Nat.le_refl _, by omega, fun x z _ => q2.2 x z⟩ rfl
    have t223 : ∀ p : Int32, J mi_L_acts 14 120 3000 (fun r h' => ∃ v B M' n', r = .inl (some (.int v)) ∧ ActR A v B ∧ LWs N xs B M' h' ∧ AI B n' ∧ n' ≤ n + 26 ∧ M ≤ M' ∧ M' ≤ M + 40 ∧ ∀ x, 120 < x → x < M → h' x = h x) 0 0 223 [some (.ref 0), some (.ref 999999), some (.int (nI i)), some (.int (nI a)), some (.int (nI b)), some (.int (nI c))] [.int p, .ref 0] h := by
      intro p
      obtain ⟨w, B, hJ, hact, hAI⟩ := us_pass (p0 := p) HC HA (by omega) ht
      refine J_callS rfl rfl rfl rfl (Or.inl rfl) rfl rfl rfl rfl hJ (by omega) (by omega) (fun E h9 q => by cases q.1) (fun v h4 q => ?_)
      obtain ⟨q1, q2⟩ := q
      cases q1
      exact J_ret (v := some (.int w)) rfl (rets_i rfl) (by omega) (by omega) ⟨w, B, M, n + 1, rfl, hact, H.step q2, hAI, by omega, Nat.le_refl _, by omega, fun x z _ => q2.2 x z⟩ rfl
    have t203 : J mi_L_acts 14 120 3000 (fun r h' => ∃ v B M' n', r = .inl (some (.int v)) ∧ ActR A v B ∧ LWs N xs B M' h' ∧ AI B n' ∧ n' ≤ n + 26 ∧ M ≤ M' ∧ M' ≤ M + 40 ∧ ∀ x, 120 < x → x < M → h' x = h x) 0 0 203 [some (.ref 0), some (.ref 999999), some (.int (nI i)), some (.int (nI a)), some (.int (nI b)), some (.int (nI c))] [] h := by
      iterate 3 (refine J_step rfl rfl ?_)
      refine J_irem rfl (by decide) ?_
      refine J_if (y := 0) rfl (fun _ => ?_) (fun _ => ?_)
      · iterate 2 (refine J_step rfl rfl ?_)
        refine J_irem rfl (by decide) ?_
        exact t223 _
      · iterate 4 (refine J_step rfl rfl ?_)
        exact t223 _
    have t398 : ∀ (h1 : AHp) (s w n1 M1 k9 n9 : Nat), SBx h h1 M M M1 n1 → StrA h1 s w M M1 → n1 ≤ 7 → w ≤ 17 → M ≤ M1 → M1 ≤ M + 30 → k9 ≤ 40 → n9 ≤ 2000 → J mi_L_acts 14 120 3000 (fun r h' => ∃ v B M' n', r = .inl (some (.int v)) ∧ ActR A v B ∧ LWs N xs B M' h' ∧ AI B n' ∧ n' ≤ n + 26 ∧ M ≤ M' ∧ M' ≤ M + 40 ∧ ∀ x, 120 < x → x < M → h' x = h x) k9 n9 398 [some (.ref 0), some (.ref 999999), some (.int (nI i)), some (.int (nI a)), some (.int (nI b)), some (.int (nI c))] [.ref s, .ref M, .ref 0] h1 := by
      intro h1 s w n1 M1 k9 n9 HB HS hn1 hw hM1a hM1b hk9 hn9
      refine J_appS HB HS (by omega) (by omega) rfl wa_S rfl rfl rfl ⟨ok0, trivial⟩ ⟨ok0, okS, trivial⟩ (by omega) (by omega) (fun M2 h2 HB2 hM2a hM2b => ?_)
      refine J_sbStr HB2 (by omega) rfl wa_T rfl rfl rfl ⟨ok0, trivial⟩ ⟨ok0, okS, trivial⟩ (by omega) (by omega) (fun h3 f3 hf3 g1 g2 hbd3 _ hB0 hk3 => ?_)
      have HW3 : LWs N xs A (M2 + 2) h3 := ⟨CRep_up (fun x hx => hk3 x (by omega)) HC, hbd3, by omega, (hk3 999999 (by omega)).trans hs⟩
      refine J_callS rfl rfl rfl rfl (Or.inl rfl) rfl rfl rfl rfl (c_does HW3 HA ht g1 g2 hf3 (by omega) (by omega) (by omega) (by omega)) (by omega) (by omega) (fun E h9 q => by obtain ⟨v, B, z, -⟩ := q; cases z) (fun v h4 q => ?_)
      obtain ⟨w9, B, q1, hact, q2, hAI⟩ := q
      cases q1
      exact J_ret (v := some (.int w9)) rfl (rets_i rfl) (by omega) (by omega) ⟨w9, B, M2 + 2, _, rfl, hact, HW3.step q2, hAI, by omega, by omega, by omega, fun x z1 z2 => (q2.2 x z1).trans (hk3 x (by omega))⟩ rfl
    have t247 : ∀ (h1 : AHp) (n1 M1 : Nat), SBx h h1 M M M1 n1 → n1 ≤ 7 → M + 2 ≤ M1 → M1 ≤ M + 4 → J mi_L_acts 14 120 3000 (fun r h' => ∃ v B M' n', r = .inl (some (.int v)) ∧ ActR A v B ∧ LWs N xs B M' h' ∧ AI B n' ∧ n' ≤ n + 26 ∧ M ≤ M' ∧ M' ≤ M + 40 ∧ ∀ x, 120 < x → x < M → h' x = h x) 4 264 247 [some (.ref 0), some (.ref 999999), some (.int (nI i)), some (.int (nI a)), some (.int (nI b)), some (.int (nI c))] [.ref M, .ref 0] h1 := by
      intro h1 n1 M1 HB hn1 hM1a hM1b
      have rem : nI c - nI c / 4 * 4 = nI (c % 4) := pk_rem (a := c) (d := 4) (by omega) (by omega) (by omega)
      iterate 2 (refine J_step rfl rfl ?_)
      refine J_irem rfl (by decide) ?_
      refine J_if (y := 0) rfl (fun _ => ?_) (fun _ => ?_)
      · iterate 2 (refine J_step rfl rfl ?_)
        refine J_irem rfl (by decide) ?_
        refine J_step rfl rfl ?_
        refine J_ic rfl (fun _ => ?_) (fun _ => ?_)
        · iterate 2 (refine J_step rfl rfl ?_)
          refine J_irem rfl (by decide) ?_
          refine J_step rfl rfl ?_
          refine J_ic rfl (fun _ => ?_) (fun _ => ?_)
          · refine J_sbNew (M := M1) rfl rfl rfl rfl rfl wa_1 wa_2 wa_3 wa_N rfl HB.bd (by omega) rfl rfl ⟨⟨Or.inl HB.nn.1, HB.nn.2⟩, ⟨Or.inl (by omega), HB.ok 0 ok0⟩, trivial⟩ ⟨⟨Or.inl (by omega), HB.ok 0 ok0⟩, ⟨Or.inr (Nat.le_refl _), Or.inr (Nat.le_refl _)⟩, trivial⟩ (by omega) (by omega) (fun g0 G0 => ?_)
            refine J_ldcS (sn := 31) (text := ";remove ") rfl (by decide +kernel) ?_
            refine J_appS (w := 8) G0 (Or.inl ⟨31, by decide, rfl, rfl⟩) (by omega) (by omega) rfl wa_S rfl rfl rfl ⟨⟨Or.inl HB.nn.1, HB.nn.2⟩, ⟨Or.inl (by omega), HB.ok 0 ok0⟩, trivial⟩ ⟨⟨Or.inl (by omega), HB.ok 0 ok0⟩, ⟨Or.inr (Nat.le_refl _), Or.inr (Nat.le_refl _)⟩, trivial⟩ (by omega) (by omega) (fun m1 g1 G1 a1 b1 => ?_)
            iterate 2 (refine J_step rfl rfl ?_)
            refine J_irem rfl (by decide) ?_
            rw [show nI c - nI c / 12 * 12 = nI (c % 12) from pk_rem (a := c) (d := 12) (by omega) (by omega) (by omega)]
            have d2 := sgN2 (c % 12)
            refine J_appI (v := c % 12) G1 (by omega) (by omega) (by omega) rfl wa_I rfl rfl rfl ⟨⟨Or.inl HB.nn.1, HB.nn.2⟩, ⟨Or.inl (by omega), HB.ok 0 ok0⟩, trivial⟩ ⟨⟨Or.inl (by omega), HB.ok 0 ok0⟩, ⟨Or.inr (Nat.le_refl _), Or.inr (Nat.le_refl _)⟩, trivial⟩ (by omega) (by omega) (fun m2 g2 G2 a2 b2 => ?_)
            refine J_sbStr G2 (by omega) rfl wa_T rfl rfl rfl ⟨⟨Or.inl HB.nn.1, HB.nn.2⟩, ⟨Or.inl (by omega), HB.ok 0 ok0⟩, trivial⟩ ⟨⟨Or.inl (by omega), HB.ok 0 ok0⟩, ⟨Or.inr (Nat.le_refl _), Or.inr (Nat.le_refl _)⟩, trivial⟩ (by omega) (by omega) (fun g9 f9 hf9 z1 z2 z3 z4 z5 z6 => ?_)
            exact t398 g9 m2 _ n1 (m2 + 2) _ _ (HB.mv (by omega) (by omega) z3 z6) (Or.inr ⟨m2 + 1, f9, z1, z2, hf9, by omega, by omega, (by show @Ne Nat _ _; omega), (by show @LT.lt Nat _ _ _; omega)⟩) hn1 (by omega) (by omega) (by omega) (by omega) (by omega)
          · refine J_sbNew (M := M1) rfl rfl rfl rfl rfl wa_1 wa_2 wa_3 wa_N rfl HB.bd (by omega) rfl rfl ⟨⟨Or.inl HB.nn.1, HB.nn.2⟩, ⟨Or.inl (by omega), HB.ok 0 ok0⟩, trivial⟩ ⟨⟨Or.inl (by omega), HB.ok 0 ok0⟩, ⟨Or.inr (Nat.le_refl _), Or.inr (Nat.le_refl _)⟩, trivial⟩ (by omega) (by omega) (fun g0 G0 => ?_)
            refine J_ldcS (sn := 27) (text := ";slope ") rfl (by decide +kernel) ?_
            refine J_appS (w := 7) G0 (Or.inl ⟨27, by decide, rfl, rfl⟩) (by omega) (by omega) rfl wa_S rfl rfl rfl ⟨⟨Or.inl HB.nn.1, HB.nn.2⟩, ⟨Or.inl (by omega), HB.ok 0 ok0⟩, trivial⟩ ⟨⟨Or.inl (by omega), HB.ok 0 ok0⟩, ⟨Or.inr (Nat.le_refl _), Or.inr (Nat.le_refl _)⟩, trivial⟩ (by omega) (by omega) (fun m1 g1 G1 a1 b1 => ?_)
            refine J_step rfl rfl ?_
            have d2 := sgN2 (a)
            refine J_appI (v := a) G1 (by omega) (by omega) (by omega) rfl wa_I rfl rfl rfl ⟨⟨Or.inl HB.nn.1, HB.nn.2⟩, ⟨Or.inl (by omega), HB.ok 0 ok0⟩, trivial⟩ ⟨⟨Or.inl (by omega), HB.ok 0 ok0⟩, ⟨Or.inr (Nat.le_refl _), Or.inr (Nat.le_refl _)⟩, trivial⟩ (by omega) (by omega) (fun m2 g2 G2 a2 b2 => ?_)
            refine J_ldcS (sn := 19) (text := "=") rfl (by decide +kernel) ?_
            refine J_appS (w := 1) G2 (Or.inl ⟨19, by decide, rfl, rfl⟩) (by omega) (by omega) rfl wa_S rfl rfl rfl ⟨⟨Or.inl HB.nn.1, HB.nn.2⟩, ⟨Or.inl (by omega), HB.ok 0 ok0⟩, trivial⟩ ⟨⟨Or.inl (by omega), HB.ok 0 ok0⟩, ⟨Or.inr (Nat.le_refl _), Or.inr (Nat.le_refl _)⟩, trivial⟩ (by omega) (by omega) (fun m3 g3 G3 a3 b3 => ?_)
            refine J_step rfl rfl ?_
            have d4 := sgN2 (b)
            refine J_appI (v := b) G3 (by omega) (by omega) (by omega) rfl wa_I rfl rfl rfl ⟨⟨Or.inl HB.nn.1, HB.nn.2⟩, ⟨Or.inl (by omega), HB.ok 0 ok0⟩, trivial⟩ ⟨⟨Or.inl (by omega), HB.ok 0 ok0⟩, ⟨Or.inr (Nat.le_refl _), Or.inr (Nat.le_refl _)⟩, trivial⟩ (by omega) (by omega) (fun m4 g4 G4 a4 b4 => ?_)
            refine J_ldcS (sn := 30) (text := ";wait") rfl (by decide +kernel) ?_
            refine J_appS (w := 5) G4 (Or.inl ⟨30, by decide, rfl, rfl⟩) (by omega) (by omega) rfl wa_S rfl rfl rfl ⟨⟨Or.inl HB.nn.1, HB.nn.2⟩, ⟨Or.inl (by omega), HB.ok 0 ok0⟩, trivial⟩ ⟨⟨Or.inl (by omega), HB.ok 0 ok0⟩, ⟨Or.inr (Nat.le_refl _), Or.inr (Nat.le_refl _)⟩, trivial⟩ (by omega) (by omega) (fun m5 g5 G5 a5 b5 => ?_)
            refine J_sbStr G5 (by omega) rfl wa_T rfl rfl rfl ⟨⟨Or.inl HB.nn.1, HB.nn.2⟩, ⟨Or.inl (by omega), HB.ok 0 ok0⟩, trivial⟩ ⟨⟨Or.inl (by omega), HB.ok 0 ok0⟩, ⟨Or.inr (Nat.le_refl _), Or.inr (Nat.le_refl _)⟩, trivial⟩ (by omega) (by omega) (fun g9 f9 hf9 z1 z2 z3 z4 z5 z6 => ?_)
            refine J_step rfl rfl ?_
            exact t398 g9 m5 _ n1 (m5 + 2) _ _ (HB.mv (by omega) (by omega) z3 z6) (Or.inr ⟨m5 + 1, f9, z1, z2, hf9, by omega, by omega, (by show @Ne Nat _ _; omega), (by show @LT.lt Nat _ _ _; omega)⟩) hn1 (by omega) (by omega) (by omega) (by omega) (by omega)
        · refine J_sbNew (M := M1) rfl rfl rfl rfl rfl wa_1 wa_2 wa_3 wa_N rfl HB.bd (by omega) rfl rfl ⟨⟨Or.inl HB.nn.1, HB.nn.2⟩, ⟨Or.inl (by omega), HB.ok 0 ok0⟩, trivial⟩ ⟨⟨Or.inl (by omega), HB.ok 0 ok0⟩, ⟨Or.inr (Nat.le_refl _), Or.inr (Nat.le_refl _)⟩, trivial⟩ (by omega) (by omega) (fun g0 G0 => ?_)
          refine J_ldcS (sn := 26) (text := ";picker ") rfl (by decide +kernel) ?_
          refine J_appS (w := 8) G0 (Or.inl ⟨26, by decide, rfl, rfl⟩) (by omega) (by omega) rfl wa_S rfl rfl rfl ⟨⟨Or.inl HB.nn.1, HB.nn.2⟩, ⟨Or.inl (by omega), HB.ok 0 ok0⟩, trivial⟩ ⟨⟨Or.inl (by omega), HB.ok 0 ok0⟩, ⟨Or.inr (Nat.le_refl _), Or.inr (Nat.le_refl _)⟩, trivial⟩ (by omega) (by omega) (fun m1 g1 G1 a1 b1 => ?_)
          iterate 3 (refine J_step rfl rfl ?_)
          rw [show (40 : Int32) + nI c = nI (40 + c) from nI_add 40 c]
          have d2 := sgN2 (40 + c)
          refine J_appI (v := 40 + c) G1 (by omega) (by omega) (by omega) rfl wa_I rfl rfl rfl ⟨⟨Or.inl HB.nn.1, HB.nn.2⟩, ⟨Or.inl (by omega), HB.ok 0 ok0⟩, trivial⟩ ⟨⟨Or.inl (by omega), HB.ok 0 ok0⟩, ⟨Or.inr (Nat.le_refl _), Or.inr (Nat.le_refl _)⟩, trivial⟩ (by omega) (by omega) (fun m2 g2 G2 a2 b2 => ?_)
          refine J_ldcS (sn := 15) (text := " ") rfl (by decide +kernel) ?_
          refine J_appS (w := 1) G2 (Or.inl ⟨15, by decide, rfl, rfl⟩) (by omega) (by omega) rfl wa_S rfl rfl rfl ⟨⟨Or.inl HB.nn.1, HB.nn.2⟩, ⟨Or.inl (by omega), HB.ok 0 ok0⟩, trivial⟩ ⟨⟨Or.inl (by omega), HB.ok 0 ok0⟩, ⟨Or.inr (Nat.le_refl _), Or.inr (Nat.le_refl _)⟩, trivial⟩ (by omega) (by omega) (fun m3 g3 G3 a3 b3 => ?_)
          refine J_step rfl rfl ?_
          have d4 := sgN2 (a)
          refine J_appI (v := a) G3 (by omega) (by omega) (by omega) rfl wa_I rfl rfl rfl ⟨⟨Or.inl HB.nn.1, HB.nn.2⟩, ⟨Or.inl (by omega), HB.ok 0 ok0⟩, trivial⟩ ⟨⟨Or.inl (by omega), HB.ok 0 ok0⟩, ⟨Or.inr (Nat.le_refl _), Or.inr (Nat.le_refl _)⟩, trivial⟩ (by omega) (by omega) (fun m4 g4 G4 a4 b4 => ?_)
          refine J_ldcS (sn := 16) (text := ">") rfl (by decide +kernel) ?_
          refine J_appS (w := 1) G4 (Or.inl ⟨16, by decide, rfl, rfl⟩) (by omega) (by omega) rfl wa_S rfl rfl rfl ⟨⟨Or.inl HB.nn.1, HB.nn.2⟩, ⟨Or.inl (by omega), HB.ok 0 ok0⟩, trivial⟩ ⟨⟨Or.inl (by omega), HB.ok 0 ok0⟩, ⟨Or.inr (Nat.le_refl _), Or.inr (Nat.le_refl _)⟩, trivial⟩ (by omega) (by omega) (fun m5 g5 G5 a5 b5 => ?_)
          refine J_step rfl rfl ?_
          have d6 := sgN2 (b)
          refine J_appI (v := b) G5 (by omega) (by omega) (by omega) rfl wa_I rfl rfl rfl ⟨⟨Or.inl HB.nn.1, HB.nn.2⟩, ⟨Or.inl (by omega), HB.ok 0 ok0⟩, trivial⟩ ⟨⟨Or.inl (by omega), HB.ok 0 ok0⟩, ⟨Or.inr (Nat.le_refl _), Or.inr (Nat.le_refl _)⟩, trivial⟩ (by omega) (by omega) (fun m6 g6 G6 a6 b6 => ?_)
          refine J_sbStr G6 (by omega) rfl wa_T rfl rfl rfl ⟨⟨Or.inl HB.nn.1, HB.nn.2⟩, ⟨Or.inl (by omega), HB.ok 0 ok0⟩, trivial⟩ ⟨⟨Or.inl (by omega), HB.ok 0 ok0⟩, ⟨Or.inr (Nat.le_refl _), Or.inr (Nat.le_refl _)⟩, trivial⟩ (by omega) (by omega) (fun g9 f9 hf9 z1 z2 z3 z4 z5 z6 => ?_)
          refine J_step rfl rfl ?_
          exact t398 g9 m6 _ n1 (m6 + 2) _ _ (HB.mv (by omega) (by omega) z3 z6) (Or.inr ⟨m6 + 1, f9, z1, z2, hf9, by omega, by omega, (by show @Ne Nat _ _; omega), (by show @LT.lt Nat _ _ _; omega)⟩) hn1 (by omega) (by omega) (by omega) (by omega) (by omega)
      · refine J_sbNew (M := M1) rfl rfl rfl rfl rfl wa_1 wa_2 wa_3 wa_N rfl HB.bd (by omega) rfl rfl ⟨⟨Or.inl HB.nn.1, HB.nn.2⟩, ⟨Or.inl (by omega), HB.ok 0 ok0⟩, trivial⟩ ⟨⟨Or.inl (by omega), HB.ok 0 ok0⟩, ⟨Or.inr (Nat.le_refl _), Or.inr (Nat.le_refl _)⟩, trivial⟩ (by omega) (by omega) (fun g0 G0 => ?_)
        refine J_ldcS (sn := 12) (text := ";turn;capacity ") rfl (by decide +kernel) ?_
        refine J_appS (w := 15) G0 (Or.inl ⟨12, by decide, rfl, rfl⟩) (by omega) (by omega) rfl wa_S rfl rfl rfl ⟨⟨Or.inl HB.nn.1, HB.nn.2⟩, ⟨Or.inl (by omega), HB.ok 0 ok0⟩, trivial⟩ ⟨⟨Or.inl (by omega), HB.ok 0 ok0⟩, ⟨Or.inr (Nat.le_refl _), Or.inr (Nat.le_refl _)⟩, trivial⟩ (by omega) (by omega) (fun m1 g1 G1 a1 b1 => ?_)
        refine J_step rfl rfl ?_
        have d2 := sgN2 (b)
        refine J_appI (v := b) G1 (by omega) (by omega) (by omega) rfl wa_I rfl rfl rfl ⟨⟨Or.inl HB.nn.1, HB.nn.2⟩, ⟨Or.inl (by omega), HB.ok 0 ok0⟩, trivial⟩ ⟨⟨Or.inl (by omega), HB.ok 0 ok0⟩, ⟨Or.inr (Nat.le_refl _), Or.inr (Nat.le_refl _)⟩, trivial⟩ (by omega) (by omega) (fun m2 g2 G2 a2 b2 => ?_)
        refine J_sbStr G2 (by omega) rfl wa_T rfl rfl rfl ⟨⟨Or.inl HB.nn.1, HB.nn.2⟩, ⟨Or.inl (by omega), HB.ok 0 ok0⟩, trivial⟩ ⟨⟨Or.inl (by omega), HB.ok 0 ok0⟩, ⟨Or.inr (Nat.le_refl _), Or.inr (Nat.le_refl _)⟩, trivial⟩ (by omega) (by omega) (fun g9 f9 hf9 z1 z2 z3 z4 z5 z6 => ?_)
        refine J_step rfl rfl ?_
        exact t398 g9 m2 _ n1 (m2 + 2) _ _ (HB.mv (by omega) (by omega) z3 z6) (Or.inr ⟨m2 + 1, f9, z1, z2, hf9, by omega, by omega, (by show @Ne Nat _ _; omega), (by show @LT.lt Nat _ _ _; omega)⟩) hn1 (by omega) (by omega) (by omega) (by omega) (by omega)
    have t227 : J mi_L_acts 14 120 3000 (fun r h' => ∃ v B M' n', r = .inl (some (.int v)) ∧ ActR A v B ∧ LWs N xs B M' h' ∧ AI B n' ∧ n' ≤ n + 26 ∧ M ≤ M' ∧ M' ≤ M + 40 ∧ ∀ x, 120 < x → x < M → h' x = h x) 0 0 227 [some (.ref 0), some (.ref 999999), some (.int (nI i)), some (.int (nI a)), some (.int (nI b)), some (.int (nI c))] [] h := by
      refine J_step rfl rfl ?_
      refine J_sbNew (M := M) rfl rfl rfl rfl rfl wa_1 wa_2 wa_3 wa_N rfl hbd (by omega) rfl rfl ⟨ok0, trivial⟩ ⟨ok0, okS, trivial⟩ (by decide) (by decide) (fun g0 G0 => ?_)
      refine J_ldcS (sn := 11) (text := "wait ") rfl (by decide +kernel) ?_
      refine J_appS (w := 5) G0 (Or.inl ⟨11, by decide, rfl, rfl⟩) (by omega) (by omega) rfl wa_S rfl rfl rfl ⟨ok0, trivial⟩ ⟨ok0, okS, trivial⟩ (by decide) (by decide) (fun m1 g1 G1 a1 b1 => ?_)
      iterate 3 (refine J_step rfl rfl ?_)
      rw [show (1 : Int32) + nI c = nI (1 + c) from nI_add 1 c]
      have d1 := sgN2 (1 + c)
      refine J_appI (v := 1 + c) G1 (by omega) (by omega) (by omega) rfl wa_I rfl rfl rfl ⟨ok0, trivial⟩ ⟨ok0, okS, trivial⟩ (by decide) (by decide) (fun m2 g2 G2 a2 b2 => ?_)
      exact t247 g2 _ m2 G2 (by omega) (by omega) (by omega)
    match v, hv with
    | 0, _ => exact J_tswIn (tgt := 132) (off := 93) rfl (by decide) (by decide) (by decide) (by decide) t132
    | 1, _ => exact J_tswIn (tgt := 132) (off := 93) rfl (by decide) (by decide) (by decide) (by decide) t132
    | 2, _ => exact J_tswIn (tgt := 132) (off := 93) rfl (by decide) (by decide) (by decide) (by decide) t132
    | 3, _ => exact J_tswIn (tgt := 132) (off := 93) rfl (by decide) (by decide) (by decide) (by decide) t132
    | 4, _ => exact J_tswIn (tgt := 132) (off := 93) rfl (by decide) (by decide) (by decide) (by decide) t132
    | 5, _ => exact J_tswIn (tgt := 132) (off := 93) rfl (by decide) (by decide) (by decide) (by decide) t132
    | 6, _ => exact J_tswIn (tgt := 147) (off := 108) rfl (by decide) (by decide) (by decide) (by decide) t147
    | 7, _ => exact J_tswIn (tgt := 147) (off := 108) rfl (by decide) (by decide) (by decide) (by decide) t147
    | 8, _ => exact J_tswIn (tgt := 180) (off := 141) rfl (by decide) (by decide) (by decide) (by decide) t180
    | 9, _ => exact J_tswIn (tgt := 180) (off := 141) rfl (by decide) (by decide) (by decide) (by decide) t180
    | 10, _ => exact J_tswIn (tgt := 180) (off := 141) rfl (by decide) (by decide) (by decide) (by decide) t180
    | 11, _ => exact J_tswIn (tgt := 191) (off := 152) rfl (by decide) (by decide) (by decide) (by decide) t191
    | 12, _ => exact J_tswIn (tgt := 191) (off := 152) rfl (by decide) (by decide) (by decide) (by decide) t191
    | 13, _ => exact J_tswIn (tgt := 196) (off := 157) rfl (by decide) (by decide) (by decide) (by decide) t196
    | 14, _ => exact J_tswIn (tgt := 196) (off := 157) rfl (by decide) (by decide) (by decide) (by decide) t196
    | 15, _ => exact J_tswIn (tgt := 203) (off := 164) rfl (by decide) (by decide) (by decide) (by decide) t203
    | 16, _ => exact J_tswIn (tgt := 203) (off := 164) rfl (by decide) (by decide) (by decide) (by decide) t203
    | 17, _ => exact J_tswIn (tgt := 203) (off := 164) rfl (by decide) (by decide) (by decide) (by decide) t203
    | 18, _ => exact J_tswIn (tgt := 203) (off := 164) rfl (by decide) (by decide) (by decide) (by decide) t203
    | 19, _ => exact J_tswIn (tgt := 203) (off := 164) rfl (by decide) (by decide) (by decide) (by decide) t203
    | 20, _ => exact J_tswOut (tgt := 227) rfl (Or.inr (by decide)) (by decide) t227
    | 21, _ => exact J_tswOut (tgt := 227) rfl (Or.inr (by decide)) (by decide) t227
    | 22, _ => exact J_tswOut (tgt := 227) rfl (Or.inr (by decide)) (by decide) t227
    | 23, _ => exact J_tswOut (tgt := 227) rfl (Or.inr (by decide)) (by decide) t227
    | k + 24, h => exact absurd h (by omega)
  iterate 4 (refine J_step rfl rfl ?_)
  rw [show nI i + 1 = nI (i + 1) from nI_add i 1]
  refine J_step rfl rfl ?_
  refine J_callS rfl rfl rfl rfl (Or.inl rfl) rfl rfl rfl rfl (c_in (i := i + 1) (n := 8) hs hN (by omega) (by omega) (by omega)) (by omega) (by omega) (fun E h9 q => by obtain ⟨⟨_, -, q⟩, -⟩ := q; cases q) (fun v h9 q => ?_)
  obtain ⟨⟨v0, hv0, q⟩, q2⟩ := q
  obtain rfl := q2.symm
  cases q
  refine J_step rfl rfl ?_
  iterate 4 (refine J_step rfl rfl ?_)
  rw [show nI i + 2 = nI (i + 2) from nI_add i 2]
  refine J_step rfl rfl ?_
  refine J_callS rfl rfl rfl rfl (Or.inl rfl) rfl rfl rfl rfl (c_in (i := i + 2) (n := 8) hs hN (by omega) (by omega) (by omega)) (by omega) (by omega) (fun E h9 q => by obtain ⟨⟨_, -, q⟩, -⟩ := q; cases q) (fun v h9 q => ?_)
  obtain ⟨⟨v1, hv1, q⟩, q2⟩ := q
  obtain rfl := q2.symm
  cases q
  refine J_step rfl rfl ?_
  iterate 4 (refine J_step rfl rfl ?_)
  rw [show nI i + 3 = nI (i + 3) from nI_add i 3]
  refine J_step rfl rfl ?_
  refine J_callS rfl rfl rfl rfl (Or.inl rfl) rfl rfl rfl rfl (c_in (i := i + 3) (n := 60) hs hN (by omega) (by omega) (by omega)) (by omega) (by omega) (fun E h9 q => by obtain ⟨⟨_, -, q⟩, -⟩ := q; cases q) (fun v h9 q => ?_)
  obtain ⟨⟨v2, hv2, q⟩, q2⟩ := q
  obtain rfl := q2.symm
  cases q
  refine J_step rfl rfl ?_
  iterate 3 (refine J_step rfl rfl ?_)
  refine J_callS rfl rfl rfl rfl (Or.inl rfl) rfl rfl rfl rfl (c_in (i := i) (n := 24) hs hN (by omega) (by omega) (by omega)) (by omega) (by omega) (fun E h9 q => by obtain ⟨⟨_, -, q⟩, -⟩ := q; cases q) (fun v h9 q => ?_)
  obtain ⟨⟨v3, hv3, q⟩, q2⟩ := q
  obtain rfl := q2.symm
  cases q
  exact main v0 v1 v2 v3 hv0 hv1 hv2 hv3
