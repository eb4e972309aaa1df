/-! what a deed of the law leaves -/
/-- done, v no refusal: one state more to undo; or refused: nothing has changed -/
def ActR (A : AS) (v : Int32) (B : AS) : Prop := B.2.1 = A.2.1 ∧ B.2.2.2.2.1 = [] ∧ ((-900000 < v ∧ Bd 900003 v ∧ B.2.2.1 = (A.1 :: A.2.2.1).take 8) ∨ ((v = -900001 ∨ v = -900002 ∨ v = -900003) ∧ B.1 = A.1 ∧ B.2.2.1 = A.2.2.1))
theorem Bd_err {v : Int32} (h : v = -900001 ∨ v = -900002 ∨ v = -900003) : Bd 900003 v := by
  rcases h with rfl | rfl | rfl <;> exact ⟨by decide, by decide⟩
theorem ActR.bd {A B : AS} {v : Int32} (H : ActR A v B) : Bd 900003 v := by
  rcases H.2.2 with ⟨-, h, -⟩ | ⟨h, -⟩
  · exact h
  · exact Bd_err h
theorem lt_of_Bd {v : Int32} (h : Bd 1000 v) : -900000 < v ∧ Bd 900003 v := by
  refine ⟨?_, Bd_mono h (by omega)⟩
  rw [Int32.lt_iff_toInt_lt, show (-900000 : Int32).toInt = -900000 by decide]
  have := h.1
  omega
/-- the answer of a change that is not refused is a small number -/
theorem apD_bd {q : LQ} {k T κ : Nat} {x y z : Int32} (H : LI q T κ) (hf : sFault q.2.1 q.2.2.1 k x y z = 0) (hk : k ≤ 5) (hT : T + 240 ≤ 123000) (hκ : κ + 1 ≤ 600) : Bd 1000 (apD q k x y z).1 := by
  have H2 := LI_apD H hf hk hT hκ
  obtain ⟨t, c, ht, p, cm, ar, gn, mt, nb, en, jo, b, u, ⟨⟨v0, v1, v2, v3, v4, v5⟩, ⟨v6, v7, v8, v9⟩, -⟩, ⟨⟨-, -, a3, a4⟩, hc, -, -, hcm, -⟩, ⟨hS, -, -⟩⟩ := H
  match k, hk with
  | 0, _ =>
    show Bd 1000 (q.2.1 6)
    rw [v6]; exact Bd_nI (by omega) (by omega)
  | 1, _ =>
    have h : (q.2.2.1.eraseIdx (lnRow q.2.2.1 x).toNatClampNeg).length ≤ q.2.2.1.length := List.length_eraseIdx_le _ _
    exact Bd_nI (by omega) (by omega)
  | 2, _ =>
    show Bd 1000 (sSl q.1 x)
    unfold sSl
    split
    · rename_i hx
      obtain ⟨m, em, -, hm⟩ := i32_nat (a := 0) (b := 6) hx.1 (Int32.le_of_lt hx.2) (by omega) (by omega)
      have hx2 := hx.2
      rw [em] at hx2 ⊢
      have hm6 : m < 6 := (nI_ltI (b := 6) (by omega) (by omega)).mp hx2
      rw [nI_clamp (by omega)]
      obtain ⟨k, hk, ek⟩ := hS m hm6
      rw [ek]; exact Bd_nI (by omega) (by omega)
    · exact Bd_c0
  | 3, _ => exact Bd_c0
  | 4, _ =>
    show Bd 1000 (q.2.1 1)
    rw [v1]; exact Bd_nI (by omega) (by omega)
  | 5, _ =>
    obtain ⟨t', c', ht', p', cm', ar', gn', mt', nb', en', jo', b', u', ⟨-, ⟨-, v7', -, -⟩, -⟩, ⟨⟨-, -, a3', a4'⟩, -, -, -, hcm', -⟩, -⟩ := H2
    have v7' : (sp_pass q.1 x.toNatClampNeg q.2).1 7 = nI ar' := v7'
    have hcm' : cm' = (sp_pass q.1 x.toNatClampNeg q.2).2.1.length + ar' + gn' := hcm'
    show Bd 1000 ((sp_pass q.1 x.toNatClampNeg q.2).1 7 - q.2.1 7)
    rw [v7, v7']
    have e : (nI ar' - nI ar).toInt = (ar' : Int) - ar := pk_sub_toInt (by omega) (by omega)
    unfold Bd
    rw [e]
    omega
theorem asChg_act {A : AS} {n k : Nat} {x y z : Int32} (H : AI A n) (hn : n < 512) (hk : k ≤ 5) (ht : A.2.2.2.2.1 = []) : (∃ v, (asChg A k x y z).1 = .inl (some (.int v)) ∧ ActR A v (asChg A k x y z).2 ∧ Bd 1000 v ∧ sFault A.1.2.1 A.1.2.2.1 k x y z = 0) ∨ (¬ sFault A.1.2.1 A.1.2.2.1 k x y z = 0 ∧ (asChg A k x y z).1 = .inr (xOf (sFault A.1.2.1 A.1.2.2.1 k x y z)) ∧ (asChg A k x y z).2 = A) := by
  have hl := AI_cur H
  rw [ht] at hl
  have hl : LI A.1 (240 * n) n := hl
  by_cases hf : sFault A.1.2.1 A.1.2.2.1 k x y z = 0
  · refine Or.inl ⟨(apD A.1 k x y z).1, by unfold asChg; rw [if_pos hf], ?_, apD_bd hl hf hk (by omega) (by omega), hf⟩
    have hb := lt_of_Bd (apD_bd hl hf hk (by omega) (by omega))
    unfold asChg
    rw [if_pos hf]
    exact ⟨rfl, ht, Or.inl ⟨hb.1, hb.2, rfl⟩⟩
  · refine Or.inr ⟨hf, ?_, ?_⟩ <;> (unfold asChg; rw [if_neg hf])
theorem ActR_err {A : AS} {v : Int32} (ht : A.2.2.2.2.1 = []) (h : v = -900001 ∨ v = -900002 ∨ v = -900003) : ActR A v A := ⟨rfl, ht, Or.inr ⟨h, rfl, rfl⟩⟩
/-- a program of n signs: run, or refused whole -/
theorem asRun_act {A : AS} (hlen : A.2.2.2.2.1.length ≤ 60) : (∃ v, (asRun A).1 = .inl (some (.int v)) ∧ ActR A v (asRun A).2) ∨ ((asRun A).1 = .inr "java/lang/IllegalArgumentException" ∧ ActR A (-900001) (asRun A).2) ∨ ((asRun A).1 = .inr "java/lang/UnsupportedOperationException" ∧ ActR A (-900002) (asRun A).2) := by
  have hrd := rdP_len hlen
  unfold asRun
  by_cases h1 : (rdP A.2.2.2.2.1).1 = true
  · rw [if_pos h1]
    by_cases h2 : (ffL (rdP A.2.2.2.2.1).2.2 A.1 0).1 = -1
    · rw [if_pos h2]
      have hb := lt_of_Bd (Bd_nI (K := 1000) (n := (rdP A.2.2.2.2.1).2.2.length) (by omega) (by omega))
      exact Or.inl ⟨_, rfl, rfl, rfl, Or.inl ⟨hb.1, hb.2, rfl⟩⟩
    · rw [if_neg h2]
      exact Or.inr (Or.inr ⟨rfl, rfl, rfl, Or.inr ⟨Or.inr (Or.inl rfl), rfl, rfl⟩⟩)
  · rw [if_neg h1]
    exact Or.inr (Or.inl ⟨rfl, rfl, rfl, Or.inr ⟨Or.inl rfl, rfl, rfl⟩⟩)
theorem ActR.of {A B C : AS} {v : Int32} (H : ActR B v C) (e1 : B.1 = A.1) (e2 : B.2.1 = A.2.1) (e3 : B.2.2.1 = A.2.2.1) : ActR A v C := by
  unfold ActR at H ⊢
  rw [e1, e2, e3] at H
  exact H
set_option maxRecDepth 100000 in
set_option maxHeartbeats 2000000 in
set_option maxRecDepth 100000 in
set_option maxHeartbeats 2000000 in
theorem c_does {N M n s b w : Nat} {xs : Nat → Int32} {A : AS} {h : AHp} {f : Nat → Int32} (H : LWs N xs A M h) (HA : AI A n) (ht : A.2.2.2.2.1 = []) (es : h s = .inr (7, [.ref b, .int 0, .int 0, .int 0])) (eb : h b = .inl (2, w, .inl f)) (hf : sb_Fit f) (hs : 120 < s) (hb : 120 < b) (hw : w ≤ 40) (hn : n + w + 1 ≤ 512) : JM mi_L_does 12 50 300 [.ref 0, .ref s] h (fun r h' => ∃ v B, r = .inl (some (.int v)) ∧ ActR A v B ∧ CStep h B h' ∧ AI B (n + w + 1)) := by
  refine JM_of gd_L_does rfl (by decide +kernel) (Nat.le_of_ble_eq_true rfl) (oj_cats rfl) (by decide) ?_
  have loop : ∀ m j y (B : AS) (h1 : AHp) (k9 n9 : Nat), m + j = w → CStep h B h1 → AI B (n + j) → B.1 = A.1 → B.2.1 = A.2.1 → B.2.2.1 = A.2.2.1 → B.2.2.2.2.1.length = j → y ≤ 60 * j → k9 ≤ j → n9 ≤ 6 * j → J mi_L_does 12 50 300 (fun r h' => ∃ v B, r = .inl (some (.int v)) ∧ ActR A v B ∧ CStep h B h' ∧ AI B (n + w + 1)) k9 n9 4 [some (.ref 0), some (.ref s), some (.int (nI y)), some (.int (nI j))] [] h1 := by
    intro m
    induction m with
    | zero =>
      intro j y B h1 k9 n9 hj HB HAB e1 e2 e3 hl hy hk9 hn9
      obtain rfl : j = w := by omega
      have HS : StrA h1 s j 0 (s + b + 1) := Or.inr ⟨b, f, (HB.2 s hs).trans es, (HB.2 b hb).trans eb, hf, by omega, by omega, (show (b : Nat) ≠ 0 by omega), (show (b : Nat) < s + b + 1 by omega)⟩
      iterate 2 (refine J_step rfl rfl ?_)
      refine J_callStr (μ' := mi_J_length) (na := 0) (As := []) HS rfl rfl (by decide +kernel) (by decide +kernel) (by decide +kernel) (by decide +kernel) (by decide +kernel) (by decide +kernel) (by decide) (by decide +kernel) rfl rfl rfl rfl (c_slenA HS) (by omega) (by omega) (fun E h' z => by cases z.1) (fun v h' z => ?_)
      obtain ⟨z1, z2⟩ := z
      obtain rfl := z2.symm
      cases z1
      refine J_ic rfl (fun _ => ?_) (fun z => absurd (Int32.le_refl _) z)
      refine J_step rfl rfl ?_
      refine J_if (y := 0) rfl (fun _ => ?_) (fun z => absurd (nI_pos' (by omega)) z)
      refine J_step rfl rfl ?_
      have hli := AI_cur HAB
      have e0 := HB.1.1
      have hrun := AI_run HAB (by omega) (by omega)
      have key : ∀ c : Int32, ((asRun B).1 = .inl (some (.int c)) ∨ ((asRun B).1 = .inr "java/lang/IllegalArgumentException" ∧ c = -900001) ∨ ((asRun B).1 = .inr "java/lang/UnsupportedOperationException" ∧ c = -900002)) → ActR B c (asRun B).2 → J mi_L_does 12 50 300 (fun r h' => ∃ v B, r = .inl (some (.int v)) ∧ ActR A v B ∧ CStep h B h' ∧ AI B (n + j + 1)) k9 n9 40 [some (.ref 0), some (.ref s), some (.int (nI y)), some (.int (nI j))] [.ref 0] h1 := by
        intro c hc hact
        refine J_callS rfl rfl rfl rfl (Or.inl rfl) rfl rfl rfl rfl (w_run (Nat.le_refl _) (Nat.le_refl _) (t_run HB.1 (LI.gU hli) (LI.gB hli) (wOk_of HAB.2.2.1).2) e0 hc) (by omega) (by omega) (fun E h9 q => by cases q.1) (fun v9 h9 q => ?_)
        obtain ⟨q1, q2⟩ := q
        cases q1
        exact J_ret (v := some (.int c)) rfl (rets_i rfl) (by omega) (by omega) ⟨c, _, rfl, hact.of e1 e2 e3, HB.trans q2, hrun⟩ rfl
      rcases asRun_act (A := B) (by omega) with ⟨v, hv, hact⟩ | ⟨hv, hact⟩ | ⟨hv, hact⟩
      · exact key v (Or.inl hv) hact
      · exact key _ (Or.inr (Or.inl ⟨hv, rfl⟩)) hact
      · exact key _ (Or.inr (Or.inr ⟨hv, rfl⟩)) hact
    | succ m ih =>
      intro j y B h1 k9 n9 hj HB HAB e1 e2 e3 hl hy hk9 hn9
      have es1 := (HB.2 s hs).trans es
      have eb1 := (HB.2 b hb).trans eb
      have HS : StrA h1 s w 0 (s + b + 1) := Or.inr ⟨b, f, es1, eb1, hf, by omega, by omega, (show (b : Nat) ≠ 0 by omega), (show (b : Nat) < s + b + 1 by omega)⟩
      iterate 2 (refine J_step rfl rfl ?_)
      refine J_callStr (μ' := mi_J_length) (na := 0) (As := []) HS rfl rfl (by decide +kernel) (by decide +kernel) (by decide +kernel) (by decide +kernel) (by decide +kernel) (by decide +kernel) (by decide) (by decide +kernel) rfl rfl rfl rfl (c_slenA HS) (by omega) (by omega) (fun E h' z => by cases z.1) (fun v h' z => ?_)
      obtain ⟨z1, z2⟩ := z
      obtain rfl := z2.symm
      cases z1
      refine J_ic rfl (fun z => absurd (show nI w ≤ nI j from z) (nI_ge (by omega) (by omega))) (fun _ => ?_)
      iterate 4 (refine J_step rfl rfl ?_)
      refine J_dV (μ' := mi_J_charAt) (na := 1) (As := [.int (nI j)]) rfl rfl es1 rfl (by decide +kernel) (by decide +kernel) (by decide) rfl rfl rfl (c_scharH es1 eb1 (by omega) (by omega)) (by omega) (by omega) (oj_halF rfl) (fun E h' z => by obtain ⟨⟨x, z, -⟩, -⟩ := z; cases z) (fun v h' z => ?_)
      obtain ⟨⟨x, z1, hx⟩, rfl⟩ := z
      cases z1
      have e0 := HB.1.1
      have hty : asType B x = (.inl (some (.int (nI (j + 1)))), (B.1, B.2.1, B.2.2.1, B.2.2.2.1, B.2.2.2.2.1 ++ [x], B.2.2.2.2.2)) := by unfold asType; rw [if_neg (by omega), hl]
      have hT := t_type HB.1 hx
      have hAT := AI_type HAB (by omega) hx
      rw [hty] at hT hAT
      refine J_callV rfl rfl rfl rfl rfl e0 rfl rfl rfl rfl hT (by omega) (by omega) (fun E h9 q => by cases q.1) (fun v9 h9 q => ?_)
      obtain ⟨q1, q2⟩ := q
      cases q1
      refine J_step rfl rfl ?_
      rw [nI_add]
      iterate 3 (refine J_step rfl rfl ?_)
      rw [nI_1]
      exact ih (j + 1) (y + (j + 1)) _ h9 _ _ (by omega) (HB.trans q2) hAT e1 e2 e3 (by show (B.2.2.2.2.1 ++ [x]).length = _; rw [List.length_append, hl]; rfl) (by omega) (by omega) (by omega)
  iterate 4 (refine J_step rfl rfl ?_)
  exact loop w 0 0 A h 0 0 (by omega) (CStep.rf H.1) HA rfl rfl rfl (by rw [ht]; rfl) (by omega) (by omega) (by omega)
