/-! what the law sees of a line: 140 numbers -/
section OJ83
variable {μ : MI} {d mc ms : Nat} {Q : QT} {k n pc : Nat} {ls : List (Option Value)} {st : List Value} {h : AHp} {len nx : Nat} {c : Int32} {t : Nat}
theorem J_bool {b : Bool} {off o2 : Int} {n0 n1 n2 n3 t0 t1 t2 t3 : Nat} {c0 c1 c2 c3 : Int32} (he0 : mT μ pc = some (.ifCond .eq off, 3, n0, c0, t0)) (he1 : mT μ n0 = some (.iconst 1, 1, n1, c1, t1)) (he2 : mT μ n1 = some (.goto o2, 3, n2, c2, t2)) (he3 : mT μ t0 = some (.iconst 0, 1, n3, c3, t3)) (q1 : c1 = 1) (q3 : c3 = 0) (qn : n3 = t2) (kk : J μ d mc ms Q k n t2 ls (.int (bI b) :: st) h) : J μ d mc ms Q k n pc ls (.int (bI b) :: st) h := by
  subst q1; subst q3; subst qn
  cases b with
  | false =>
    refine J_if (y := 0) he0 (fun _ => ?_) (fun z => absurd rfl z)
    refine J_step he3 rfl ?_
    exact kk
  | true =>
    refine J_if (y := 0) he0 (fun z => absurd z (by unfold oj_cz; decide)) (fun _ => ?_)
    refine J_step he1 rfl ?_
    refine J_step he2 rfl ?_
    exact kk
theorem J_st {i : Int32} {j N a : Nat} {f : Nat → Int32} {v : Int32} (he : mT μ pc = some (.iastore, len, nx, c, t)) (hi : i.toNatClampNeg = j ∧ vp_in i N) (kk : J μ d mc ms Q k n nx ls st (oj_up h a (.inl (0, N, .inl (upd f j v))))) : J μ d mc ms Q k n pc ls (.int v :: .int i :: .ref a :: st) (oj_up h a (.inl (0, N, .inl f))) := by
  obtain ⟨rfl, hin⟩ := hi
  refine J_iast he up_at hin ?_
  rw [oj_up_up]
  exact kk
end OJ83
theorem st_n {j N : Nat} (h : j < N) (h2 : N ≤ 1000) : (nI j).toNatClampNeg = j ∧ vp_in (nI j) N := ⟨nI_clamp (by omega), vp_in_nI h (by omega)⟩
def sn12 (q : LQ) : Nat → Int32 := upd (upd (upd (upd (upd (upd (upd (upd (upd (upd (upd (upd (fun _ => 0) 0 (q.2.1 0)) 1 (q.2.1 1)) 2 (q.2.1 2)) 3 (q.2.1 3)) 4 (sPl q.2.1 (nI 0))) 5 (bI (sUp (uB q.2.1) (nI 0)))) 6 (q.2.1 6)) 7 (q.2.1 7)) 8 (q.2.1 9)) 9 q.2.2.2.1.toInt32) 10 (nI q.2.2.1.length)) 11 (sImb q.2.1 (uB q.2.1) q.1 q.2.2.1)
def snS (q : LQ) (f : Nat → Int32) : Nat → Nat → Int32
  | 0 => f
  | k + 1 => upd (snS q f k) (12 + k) (q.1 k)
def snW (q : LQ) (f : Nat → Int32) : Nat → Nat → Int32
  | 0 => f
  | k + 1 => upd (snW q f k) (20 + k) (nI (crWtg q.2.2.1 (nI k)))
def bwR (l : List Row) (k : Nat) : Row := rAt l (crByW l (nI k)).toNatClampNeg
def snP (q : LQ) (f : Nat → Int32) : Nat → Nat → Int32
  | 0 => f
  | k + 1 => upd (upd (upd (upd (snP q f k) (30 + 4 * k) (rNum (bwR q.2.2.1 k))) (31 + 4 * k) (rWt (bwR q.2.2.1 k))) (32 + 4 * k) (rDst (bwR q.2.2.1 k))) (33 + 4 * k) (if rCab (bwR q.2.2.1 k) = -1 then -900001 else rCab (bwR q.2.2.1 k))
def snR (q : LQ) (c : Nat) (f : Nat → Int32) : Nat → Nat → Int32
  | 0 => f
  | k + 1 => upd (snR q c f k) (112 + 6 * c + k) (rNum (rAt q.2.2.1 (crRrow q.2.2.1 (nI c) (nI k)).toNatClampNeg))
def snC (q : LQ) (f : Nat → Int32) : Nat → Nat → Int32
  | 0 => f
  | c + 1 => snR q c (snC q f c) (crRid q.2.2.1 (nI c))
def sn4 (q : LQ) : Nat → Int32 := snP q (snW q (snS q (sn12 q) 6) 7) q.2.2.1.length
def SN (q : LQ) : Nat → Int32 := snC q (sn4 q) 2
theorem ix4 : ∀ k, k < 20 → (30 : Int32) + 4 * nI k = nI (30 + 4 * k) ∧ (31 : Int32) + 4 * nI k = nI (31 + 4 * k) ∧ (32 : Int32) + 4 * nI k = nI (32 + 4 * k) ∧ (33 : Int32) + 4 * nI k = nI (33 + 4 * k) := by decide +kernel
theorem ix6 : ∀ c, c < 2 → ∀ k, k < 6 → (112 : Int32) + 6 * nI c + nI k = nI (112 + 6 * c + k) := by decide +kernel
set_option maxRecDepth 100000 in
set_option maxHeartbeats 2000000 in
theorem c_seen {N M n : Nat} {xs : Nat → Int32} {A : AS} {h : AHp} (H : LWs N xs A M h) (HA : AI A n) (hM : M < 999900) : JM mi_L_seen 9 300 2000 [.ref 0] h (fun r h' => r = .inl (some (.ref M)) ∧ h' = oj_up h M (.inl (0, 140, .inl (SN A.1)))) := by
  obtain ⟨HC, hbd, hM1, hs⟩ := id H
  have hli := AI_cur HA
  have hu := LI.gU hli
  obtain ⟨bB, hbB⟩ := LI.gB hli
  obtain ⟨t, c, ht, p, cm, ar, gn, mt, nb, en, jo, b, u, hV, ⟨⟨a1, a2, a3, a4⟩, hc6, -, -, hcm, -, -, -, hnb, r0, r1, h20⟩, ⟨hS, hR, hP⟩, -⟩ := LI_bnd hli
  have C : ∀ f : Nat → Int32, CRep (oj_up h M (.inl (0, 140, .inl f))) A := fun f => CRep_up (fun x hx => up_ne (by omega)) HC
  have rid6 : ∀ c, c < 2 → crRid A.1.2.2.1 (nI c) ≤ 6 := by
    intro c hc
    obtain rfl | rfl : c = 0 ∨ c = 1 := by omega
    · exact Nat.le_trans r0 hc6.2
    · exact Nat.le_trans r1 hc6.2
  have hv0 : ∀ v, v < 2 → ¬ nI v = -1 := fun v _ z => absurd (nI_pos' (n := v) (by omega)) (by rw [z]; decide)
  -- the riders
  have fin : ∀ k9 n9 o2 o3 f, k9 ≤ 300 → n9 ≤ 2000 → f = SN A.1 → J mi_L_seen 9 300 2000 (fun r h' => r = .inl (some (.ref M)) ∧ h' = oj_up h M (.inl (0, 140, .inl (SN A.1)))) k9 n9 282 [some (.ref 0), some (.ref M), o2, o3] [] (oj_up h M (.inl (0, 140, .inl f))) := by
    intro k9 n9 o2 o3 f hk hn hf
    subst hf
    refine J_step rfl rfl ?_
    exact J_aret rfl rfl hk hn ⟨rfl, rfl⟩
  have loopC : ∀ m j k9 n9 o3, m + j = 2 → k9 ≤ 100 + 13 * j → n9 ≤ 800 + 78 * j → J mi_L_seen 9 300 2000 (fun r h' => r = .inl (some (.ref M)) ∧ h' = oj_up h M (.inl (0, 140, .inl (SN A.1)))) k9 n9 237 [some (.ref 0), some (.ref M), some (.int (nI j)), o3] [] (oj_up h M (.inl (0, 140, .inl (snC A.1 (sn4 A.1) j)))) := by
    intro m
    induction m with
    | zero =>
      intro j k9 n9 o3 hj hk hn
      obtain rfl : j = 2 := by omega
      iterate 2 (refine J_step rfl rfl ?_)
      refine J_ic rfl (fun _ => ?_) (fun z => absurd (show nI 2 ≤ nI 2 from Int32.le_refl _) z)
      exact fin _ _ _ _ _ (by omega) (by omega) rfl
    | succ m ih =>
      intro c k9 n9 o3 hj hk hn
      have hc : c < 2 := by omega
      have h6 := rid6 c hc
      have loopR : ∀ m j k8 n8, m + j = crRid A.1.2.2.1 (nI c) → k8 ≤ k9 + 2 * j → n8 ≤ n9 + 12 * j → J mi_L_seen 9 300 2000 (fun r h' => r = .inl (some (.ref M)) ∧ h' = oj_up h M (.inl (0, 140, .inl (SN A.1)))) k8 n8 244 [some (.ref 0), some (.ref M), some (.int (nI c)), some (.int (nI j))] [] (oj_up h M (.inl (0, 140, .inl (snR A.1 c (snC A.1 (sn4 A.1) c) j)))) := by
        intro m
        induction m with
        | zero =>
          intro j k8 n8 hj2 hk8 hn8
          obtain rfl : j = crRid A.1.2.2.1 (nI c) := by omega
          iterate 3 (refine J_step rfl rfl ?_)
          refine J_callV rfl rfl rfl rfl rfl (C _).1 rfl rfl rfl rfl (us_q_riders (C _) hc) (by omega) (by omega) (fun E h9 q => by cases q.1) (fun v9 h9 q => ?_)
          obtain ⟨q1, q2⟩ := q
          cases q1
          subst q2
          refine J_ic rfl (fun _ => ?_) (fun z => absurd (Int32.le_refl _) z)
          refine J_step rfl rfl ?_
          rw [nI_1]
          refine J_step rfl rfl ?_
          exact ih (c + 1) _ _ _ (by omega) (by omega) (by omega)
        | succ m ih2 =>
          intro j k8 n8 hj2 hk8 hn8
          iterate 3 (refine J_step rfl rfl ?_)
          refine J_callV rfl rfl rfl rfl rfl (C _).1 rfl rfl rfl rfl (us_q_riders (C _) hc) (by omega) (by omega) (fun E h9 q => by cases q.1) (fun v9 h9 q => ?_)
          obtain ⟨q1, q2⟩ := q
          cases q1
          subst q2
          refine J_ic rfl (fun z => absurd (show nI (crRid A.1.2.2.1 (nI c)) ≤ nI j from z) (nI_ge (by omega) (by omega))) (fun _ => ?_)
          obtain ⟨i, hi, e1, -, -⟩ := rr_at (hv0 c hc) (by omega) h20 hR hP (k := j) (by omega)
          iterate 11 (refine J_step rfl rfl ?_)
          refine J_callS rfl rfl rfl rfl (Or.inl rfl) rfl rfl rfl rfl (us_w_riderAt (C _) hc e1 (by omega)) (by omega) (by omega) (fun E h9 q => by cases q.1) (fun v9 h9 q => ?_)
          obtain ⟨q1, q2⟩ := q
          cases q1
          subst q2
          rw [ix6 c hc j (by omega)]
          refine J_st rfl (st_n (by omega) (by omega)) ?_
          refine J_heap (h2 := oj_up h M (.inl (0, 140, .inl (snR A.1 c (snC A.1 (sn4 A.1) c) (j + 1))))) (by rw [snR, e1, nI_clamp (by omega)]) ?_
          refine J_step rfl rfl ?_
          rw [nI_1]
          refine J_step rfl rfl ?_
          exact ih2 (j + 1) _ _ (by omega) (by omega) (by omega)
      iterate 2 (refine J_step rfl rfl ?_)
      refine J_ic rfl (fun z => absurd (show nI 2 ≤ nI c from z) (nI_ge (by omega) (by omega))) (fun _ => ?_)
      iterate 2 (refine J_step rfl rfl ?_)
      exact loopR _ 0 _ _ (Nat.add_zero _) (by omega) (by omega)
  -- the pickers by weight
  have loopP : ∀ m j k9 n9 o3, m + j = A.1.2.2.1.length → k9 ≤ 16 + 4 * j → n9 ≤ 240 + 24 * j → J mi_L_seen 9 300 2000 (fun r h' => r = .inl (some (.ref M)) ∧ h' = oj_up h M (.inl (0, 140, .inl (SN A.1)))) k9 n9 167 [some (.ref 0), some (.ref M), some (.int (nI j)), o3] [] (oj_up h M (.inl (0, 140, .inl (snP A.1 (snW A.1 (snS A.1 (sn12 A.1) 6) 7) j)))) := by
    intro m
    induction m with
    | zero =>
      intro j k9 n9 o3 hj hk hn
      obtain rfl : j = A.1.2.2.1.length := by omega
      iterate 2 (refine J_step rfl rfl ?_)
      refine J_callV rfl rfl rfl rfl rfl (C _).1 rfl rfl rfl rfl (us_q_pickers (d := 0) (C _)) (by omega) (by omega) (fun E h9 q => by cases q.1) (fun v9 h9 q => ?_)
      obtain ⟨q1, q2⟩ := q
      cases q1
      subst q2
      refine J_ic rfl (fun _ => ?_) (fun z => absurd (Int32.le_refl _) z)
      iterate 2 (refine J_step rfl rfl ?_)
      exact loopC 2 0 _ _ _ (by omega) (by omega) (by omega)
    | succ m ih =>
      intro j k9 n9 o3 hj hk hn
      iterate 2 (refine J_step rfl rfl ?_)
      refine J_callV rfl rfl rfl rfl rfl (C _).1 rfl rfl rfl rfl (us_q_pickers (d := 0) (C _)) (by omega) (by omega) (fun E h9 q => by cases q.1) (fun v9 h9 q => ?_)
      obtain ⟨q1, q2⟩ := q
      cases q1
      subst q2
      refine J_ic rfl (fun z => absurd (show nI A.1.2.2.1.length ≤ nI j from z) (nI_ge (by omega) (by omega))) (fun _ => ?_)
      obtain ⟨i, hi, e1⟩ := bw_at h20 hR (k := j) (by omega)
      have e2 : lnRow A.1.2.2.1 (rNum (rAt A.1.2.2.1 i)) = nI i := num_row hP hi
      have e3 : bwR A.1.2.2.1 j = rAt A.1.2.2.1 i := by unfold bwR; rw [e1, nI_clamp (by omega)]
      obtain ⟨x0, x1, x2, x3⟩ := ix4 j (by omega)
      iterate 2 (refine J_step rfl rfl ?_)
      refine J_callS rfl rfl rfl rfl (Or.inl rfl) rfl rfl rfl rfl (us_w_pickerByWeight (C _) e1 (by omega)) (by omega) (by omega) (fun E h9 q => by cases q.1) (fun v9 h9 q => ?_)
      obtain ⟨q1, q2⟩ := q
      cases q1
      subst q2
      iterate 8 (refine J_step rfl rfl ?_)
      rw [x0]
      refine J_st rfl (st_n (by omega) (by omega)) ?_
      iterate 8 (refine J_step rfl rfl ?_)
      rw [x1]
      refine J_callV rfl rfl rfl rfl rfl (C _).1 rfl rfl rfl rfl (us_q_weight (C _) e2 (by omega)) (by omega) (by omega) (fun E h9 q => by cases q.1) (fun v9 h9 q => ?_)
      obtain ⟨q1, q2⟩ := q
      cases q1
      subst q2
      refine J_st rfl (st_n (by omega) (by omega)) ?_
      iterate 8 (refine J_step rfl rfl ?_)
      rw [x2]
      refine J_callV rfl rfl rfl rfl rfl (C _).1 rfl rfl rfl rfl (us_q_destination (C _) e2 (by omega)) (by omega) (by omega) (fun E h9 q => by cases q.1) (fun v9 h9 q => ?_)
      obtain ⟨q1, q2⟩ := q
      cases q1
      subst q2
      refine J_st rfl (st_n (by omega) (by omega)) ?_
      iterate 8 (refine J_step rfl rfl ?_)
      rw [x3]
      refine J_callS rfl rfl rfl rfl (Or.inl rfl) rfl rfl rfl rfl (us_w_cabinOf (C _) e2 (by omega)) (by omega) (by omega) (fun E h9 q => by cases q.1) (fun v9 h9 q => ?_)
      obtain ⟨q1, q2⟩ := q
      cases q1
      subst q2
      refine J_st rfl (st_n (by omega) (by omega)) ?_
      refine J_heap (h2 := oj_up h M (.inl (0, 140, .inl (snP A.1 (snW A.1 (snS A.1 (sn12 A.1) 6) 7) (j + 1))))) (by rw [snP, e3]) ?_
      refine J_step rfl rfl ?_
      rw [nI_1]
      refine J_step rfl rfl ?_
      exact ih (j + 1) _ _ _ (by omega) (by omega) (by omega)
  have loopW : ∀ m j k9 n9 o3, m + j = 7 → k9 ≤ 9 + j → n9 ≤ 190 + 6 * j → J mi_L_seen 9 300 2000 (fun r h' => r = .inl (some (.ref M)) ∧ h' = oj_up h M (.inl (0, 140, .inl (SN A.1)))) k9 n9 142 [some (.ref 0), some (.ref M), some (.int (nI j)), o3] [] (oj_up h M (.inl (0, 140, .inl (snW A.1 (snS A.1 (sn12 A.1) 6) j)))) := by
    intro m
    induction m with
    | zero =>
      intro j k9 n9 o3 hj hk hn
      obtain rfl : j = 7 := by omega
      iterate 2 (refine J_step rfl rfl ?_)
      refine J_ic rfl (fun _ => ?_) (fun z => absurd (show nI 7 ≤ nI 7 from Int32.le_refl _) z)
      iterate 2 (refine J_step rfl rfl ?_)
      exact loopP _ 0 _ _ _ (Nat.add_zero _) (by omega) (by omega)
    | succ m ih =>
      intro j k9 n9 o3 hj hk hn
      iterate 2 (refine J_step rfl rfl ?_)
      refine J_ic rfl (fun z => absurd (show nI 7 ≤ nI j from z) (nI_ge (by omega) (by omega))) (fun _ => ?_)
      iterate 6 (refine J_step rfl rfl ?_)
      rw [show (20 : Int32) + nI j = nI (20 + j) from nI_add 20 j]
      refine J_callV rfl rfl rfl rfl rfl (C _).1 rfl rfl rfl rfl (us_q_waiting (s := j) (C _) (by omega)) (by omega) (by omega) (fun E h9 q => by cases q.1) (fun v9 h9 q => ?_)
      obtain ⟨q1, q2⟩ := q
      cases q1
      subst q2
      refine J_st rfl (st_n (by omega) (by omega)) ?_
      refine J_step rfl rfl ?_
      rw [nI_1]
      refine J_step rfl rfl ?_
      exact ih (j + 1) _ _ _ (by omega) (by omega) (by omega)
  have loopS : ∀ m j k9 n9 o3, m + j = 6 → k9 ≤ 3 + j → n9 ≤ 152 + 6 * j → J mi_L_seen 9 300 2000 (fun r h' => r = .inl (some (.ref M)) ∧ h' = oj_up h M (.inl (0, 140, .inl (SN A.1)))) k9 n9 117 [some (.ref 0), some (.ref M), some (.int (nI j)), o3] [] (oj_up h M (.inl (0, 140, .inl (snS A.1 (sn12 A.1) j)))) := by
    intro m
    induction m with
    | zero =>
      intro j k9 n9 o3 hj hk hn
      obtain rfl : j = 6 := by omega
      iterate 2 (refine J_step rfl rfl ?_)
      refine J_ic rfl (fun _ => ?_) (fun z => absurd (show nI 6 ≤ nI 6 from Int32.le_refl _) z)
      iterate 2 (refine J_step rfl rfl ?_)
      exact loopW 7 0 _ _ _ (by omega) (by omega) (by omega)
    | succ m ih =>
      intro j k9 n9 o3 hj hk hn
      iterate 2 (refine J_step rfl rfl ?_)
      refine J_ic rfl (fun z => absurd (show nI 6 ≤ nI j from z) (nI_ge (by omega) (by omega))) (fun _ => ?_)
      iterate 6 (refine J_step rfl rfl ?_)
      rw [show (12 : Int32) + nI j = nI (12 + j) from nI_add 12 j]
      refine J_callV rfl rfl rfl rfl rfl (C _).1 rfl rfl rfl rfl (us_q_slope (g := j) (C _) (by omega)) (by omega) (by omega) (fun E h9 q => by cases q.1) (fun v9 h9 q => ?_)
      obtain ⟨q1, q2⟩ := q
      cases q1
      subst q2
      refine J_st rfl (st_n (by omega) (by omega)) ?_
      refine J_step rfl rfl ?_
      rw [nI_1]
      refine J_step rfl rfl ?_
      exact ih (j + 1) _ _ _ (by omega) (by omega) (by omega)
  refine JM_ofL gd_L_seen rfl (by decide +kernel) (Nat.le_of_ble_eq_true rfl) (oj_cats rfl) ?_
  refine J_step rfl rfl ?_
  refine J_newa (a := M) (tag := 0) (N := 140) rfl rfl (by decide) rfl (by decide +kernel) (by decide) (by decide) (by decide) hbd (by omega) (fun v hv => loLv_mem (P := fun v => v < M ∨ 999999 ≤ v) hv trivial) (fun j v hj => loLs_at (P := fun v => v < M ∨ 999999 ≤ v) hj ⟨Or.inl (by omega), trivial⟩) (by decide) (by decide) ?_
  refine J_heap (h2 := oj_up h M (.inl (0, 140, .inl fun _ => 0))) rfl ?_
  iterate 4 (refine J_step rfl rfl ?_)
  refine J_callV rfl rfl rfl rfl rfl (C _).1 rfl rfl rfl rfl (us_q_time (d := 0) (C _)) (by omega) (by omega) (fun E h9 q => by cases q.1) (fun v9 h9 q => ?_)
  obtain ⟨q1, q2⟩ := q
  cases q1
  subst q2
  refine J_st rfl (st_n (j := 0) (by omega) (by omega)) ?_
  iterate 3 (refine J_step rfl rfl ?_)
  refine J_callV rfl rfl rfl rfl rfl (C _).1 rfl rfl rfl rfl (us_q_capacity (d := 0) (C _)) (by omega) (by omega) (fun E h9 q => by cases q.1) (fun v9 h9 q => ?_)
  obtain ⟨q1, q2⟩ := q
  cases q1
  subst q2
  refine J_st rfl (st_n (j := 1) (by omega) (by omega)) ?_
  iterate 3 (refine J_step rfl rfl ?_)
  refine J_callV rfl rfl rfl rfl rfl (C _).1 rfl rfl rfl rfl (us_q_heat (d := 0) (C _)) (by omega) (by omega) (fun E h9 q => by cases q.1) (fun v9 h9 q => ?_)
  obtain ⟨q1, q2⟩ := q
  cases q1
  subst q2
  refine J_st rfl (st_n (j := 2) (by omega) (by omega)) ?_
  iterate 3 (refine J_step rfl rfl ?_)
  refine J_callV rfl rfl rfl rfl rfl (C _).1 rfl rfl rfl rfl (us_q_isBlocked (d := 0) (C _) hbB) (by omega) (by omega) (fun E h9 q => by cases q.1) (fun v9 h9 q => ?_)
  obtain ⟨q1, q2⟩ := q
  cases q1
  subst q2
  refine J_bool rfl rfl rfl rfl rfl rfl rfl ?_
  refine J_st rfl (st_n (j := 3) (by omega) (by omega)) ?_
  rw [← hbB]
  iterate 4 (refine J_step rfl rfl ?_)
  refine J_callV rfl rfl rfl rfl rfl (C _).1 rfl rfl rfl rfl (us_q_place (c := 0) (C _) (by omega)) (by omega) (by omega) (fun E h9 q => by cases q.1) (fun v9 h9 q => ?_)
  obtain ⟨q1, q2⟩ := q
  cases q1
  subst q2
  refine J_st rfl (st_n (j := 4) (by omega) (by omega)) ?_
  iterate 4 (refine J_step rfl rfl ?_)
  refine J_callV rfl rfl rfl rfl rfl (C _).1 rfl rfl rfl rfl (us_q_goesUp (c := 0) (C _) (by omega) hu) (by omega) (by omega) (fun E h9 q => by cases q.1) (fun v9 h9 q => ?_)
  obtain ⟨q1, q2⟩ := q
  cases q1
  subst q2
  refine J_bool rfl rfl rfl rfl rfl rfl rfl ?_
  refine J_st rfl (st_n (j := 5) (by omega) (by omega)) ?_
  iterate 3 (refine J_step rfl rfl ?_)
  refine J_callV rfl rfl rfl rfl rfl (C _).1 rfl rfl rfl rfl (us_q_came (d := 0) (C _)) (by omega) (by omega) (fun E h9 q => by cases q.1) (fun v9 h9 q => ?_)
  obtain ⟨q1, q2⟩ := q
  cases q1
  subst q2
  refine J_st rfl (st_n (j := 6) (by omega) (by omega)) ?_
  iterate 3 (refine J_step rfl rfl ?_)
  refine J_callV rfl rfl rfl rfl rfl (C _).1 rfl rfl rfl rfl (us_q_arrived (d := 0) (C _)) (by omega) (by omega) (fun E h9 q => by cases q.1) (fun v9 h9 q => ?_)
  obtain ⟨q1, q2⟩ := q
  cases q1
  subst q2
  refine J_st rfl (st_n (j := 7) (by omega) (by omega)) ?_
  iterate 3 (refine J_step rfl rfl ?_)
  refine J_callV rfl rfl rfl rfl rfl (C _).1 rfl rfl rfl rfl (us_q_meetings (d := 0) (C _)) (by omega) (by omega) (fun E h9 q => by cases q.1) (fun v9 h9 q => ?_)
  obtain ⟨q1, q2⟩ := q
  cases q1
  subst q2
  refine J_st rfl (st_n (j := 8) (by omega) (by omega)) ?_
  iterate 3 (refine J_step rfl rfl ?_)
  refine J_callV rfl rfl rfl rfl rfl (C _).1 rfl rfl rfl rfl (us_q_energy (d := 0) (C _)) (by omega) (by omega) (fun E h9 q => by cases q.1) (fun v9 h9 q => ?_)
  obtain ⟨q1, q2⟩ := q
  cases q1
  subst q2
  refine J_step rfl rfl ?_
  refine J_st rfl (st_n (j := 9) (by omega) (by omega)) ?_
  iterate 3 (refine J_step rfl rfl ?_)
  refine J_callV rfl rfl rfl rfl rfl (C _).1 rfl rfl rfl rfl (us_q_pickers (d := 0) (C _)) (by omega) (by omega) (fun E h9 q => by cases q.1) (fun v9 h9 q => ?_)
  obtain ⟨q1, q2⟩ := q
  cases q1
  subst q2
  refine J_st rfl (st_n (j := 10) (by omega) (by omega)) ?_
  iterate 3 (refine J_step rfl rfl ?_)
  refine J_callV rfl rfl rfl rfl rfl (C _).1 rfl rfl rfl rfl (us_q_imbalance (C _) hu) (by omega) (by omega) (fun E h9 q => by cases q.1) (fun v9 h9 q => ?_)
  obtain ⟨q1, q2⟩ := q
  cases q1
  subst q2
  refine J_st rfl (st_n (j := 11) (by omega) (by omega)) ?_
  iterate 2 (refine J_step rfl rfl ?_)
  exact loopS 6 0 _ _ _ (by omega) (by omega) (by omega)
