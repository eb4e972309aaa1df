section OJ87
variable {μ : MI} {d mc ms : Nat} {Q : QT} {k n pc : Nat} {ls : List (Option Value)} {st : List Value} {h : AHp} {i : Instr} {len nx : Nat} {c : Int32} {t : Nat}
set_option maxHeartbeats 4000000 in
theorem J_callSA {μ' : MI} {idx d' mc' ms' na kd : Nat} {As rest : List Value} {Q' : QT} (he : mT μ pc = some (.invokestatic idx, len, nx, c, t)) (hi : Nat.blt idx 1024 = true) (hct : oj_cl (mO μ * 1024 + idx) = some (kd, μ')) (hna : oj_na (mO μ * 1024 + idx) = some na) (hkd : kd = 1 ∨ kd = 3) (hsp : oj_spS st na = some (As, rest)) (hal : oj_hal μ μ' rest ls h) (hd : Nat.ble (d' + 1) d = true) (hcat : Nat.ble ((rest.map fun v => v.category).sum) 8 = true)
    (hM : JM μ' d' mc' ms' As h Q') (hmc : k + mc' ≤ mc) (hms : n + ms' ≤ ms)
    (kx : ∀ (E : String) (h' : AHp), Q' (.inr E) h' → (mH μ = [] ∧ mA μ = false ∧ Q (.inr E) h') ∨ oj_cau μ d mc ms Q (k + mc') (n + ms') pc ls E h')
    (kr : ∀ (v : Option Value) (h' : AHp), Q' (.inl v) h' → J μ d mc ms Q (k + mc') (n + ms') nx ls (v.toList ++ rest) h') : J μ d mc ms Q k n pc ls st h := by
  intro p l e R s m args below meth c1 A D tyA adK adV b scr ad0 L0 Qc C ad L H locs lsc ho hW hS hL
  obtain ⟨hx, hb, hg, hml, hown, hts, hlocks, -, hK, hSt, -, hls, ⟨hR1, hR2, hR3, hR4⟩, -⟩ := id C
  obtain ⟨hdc, hl, hn, -, -⟩ := oj_okE_spec (hg pc _ he)
  obtain rfl : len = 3 := of_decide_eq_true hl
  subst hn
  obtain ⟨ix, na', hna', hck⟩ := oj_cl_chk hct
  cases hna.symm.trans hna'
  obtain ⟨hst, hlen⟩ := oj_spS_eq hsp
  have hk1 := (oj_key (o := mO μ) (Nat.le_of_ble_eq_true hi)).1
  have hk2 := (oj_key (o := mO μ) (Nat.le_of_ble_eq_true hi)).2
  unfold oj_chkC at hck
  rw [hk1, hk2] at hck
  simp only [Bool.and_eq_true, decide_eq_true_eq] at hck
  obtain ⟨g1, g2, g3, g4, g5, hck⟩ := hck
  have hd1 := Nat.le_of_ble_eq_true hd
  have hpp := oj_pre C hW hS As
  have hfin : ∀ (cx : (oj_cw μ' ∈ lwG) ∧ Cond.initialized (mY μ').cls ∈ lwG ∧ Cond.static (mY μ') ∈ lwG) , (Cond.methodLink (oj_cls (mO μ)) idx (mY μ') ∈ lwG ∨ (mH μ' = [] ∧ ∃ z ∈ oj_nests, z.1 = oj_cls (mO μ) ∧ z.2.1 = idx ∧ z.2.2.1 = mY μ')) → W p l e R s m args below meth c1 H locs k n Qc (F0 m pc lsc (st.map (oj_v ad))) := by
    rintro ⟨w4, w3, w1⟩ hlink
    have hstk : (F0 m pc lsc (st.map (oj_v ad))).stack = (As.map (oj_v ad)).reverse ++ rest.map (oj_v ad) := by show st.map (oj_v ad) = _; rw [hst]; simp
    have hWr : 2 * (F0 m pc lsc (st.map (oj_v ad))).monitorRoom + ((rest.map (oj_v ad)).map fun v => v.category).sum ≤ 8 := lv_room (by rw [List.map_map]; simpa [Function.comp_def, oj_v_cat] using Nat.le_of_ble_eq_true hcat)
    have hG := oj_good_in w4
    have hdd : (mY μ').cls ≠ "java/lang/invoke/MethodHandle" ∧ (mY μ').cls ≠ "java/lang/invoke/VarHandle" ∧ (parseMethodDescriptor (mY μ').desc).map (fun d => d.parameters.length) = some As.length := ⟨g1, g2, by rw [g3, hlen]⟩
    have hRR : (oj_rm d' mc' ms').frames + 1 ≤ R.frames ∧ 8 + (mL μ' + 11) + (oj_rm d' mc' ms').locals ≤ R.locals := ⟨by show d' + 1 ≤ _; omega, by show 8 + (mL μ' + 11) + 40 * d' ≤ _; omega⟩
    have K : vx_Run p l e R s m args below meth c1 H locs k n mc' ms' (F0 m pc lsc (st.map (oj_v ad))) (rest.map (oj_v ad)) (oj_QC (mA μ') Q' (va_A (oj_w ad tyA L h) H.size) D tyA adK b scr ad L (As.map (oj_v ad)).toArray) (oj_XC Q' (va_A (oj_w ad tyA L h) H.size) D tyA adK b scr ad L) (va_A (oj_w ad tyA L h) H.size) := by
      rcases hlink with w0 | ⟨hH, z, hz, e1, e2, e3⟩
      · cases hH : mH μ' with
        | nil =>
          have hcode : oj_cw μ' = .code (mY μ') (mC μ') (mL μ') (mR μ') := by unfold oj_cw; rw [hH]
          exact vx_runS (e := e) (below := below) (meth := meth) (locs := locs) (As := As.map (oj_v ad)) (rest := rest.map (oj_v ad)) (g := F0 m pc lsc (st.map (oj_v ad))) ⟨hx, hb, hml, hown, hts⟩ (hM l hls D tyA adK adV b scr ad L H.size) ⟨callB_of As.length hts hG (by rw [hcode]) rfl rfl (hts _ w3) (hts _ w0) hdd hRR, hts _ w1⟩ ⟨oj_blind, hpp⟩ rfl (List.length_map _) hL.1 hstk hWr hdc ⟨Nat.le_trans hmc hR3, Nat.le_trans hms hR4⟩
        | cons x xs =>
          have hcode : oj_cw μ' = .codeWith (mY μ') (mC μ') (mL μ') (mR μ') (x :: xs) := by unfold oj_cw; rw [hH]
          refine vx_runSX (e := e) (below := below) (meth := meth) (locs := locs) (As := As.map (oj_v ad)) (rest := rest.map (oj_v ad)) (g := F0 m pc lsc (st.map (oj_v ad))) (own := oj_cls (mO μ)) (hh := x :: xs) (n := As.length) ⟨hx, hb, hml, hown, hts⟩ (hM l hls D tyA adK adV b scr ad L H.size) (vx_cwSW As.length hts (fun w hw => ?_) (by rw [hcode]) rfl rfl hdd hRR) ⟨oj_blind, hpp⟩ rfl (List.length_map _) hL.1 hstk hWr hdc ⟨Nat.le_trans hmc hR3, Nat.le_trans hms hR4⟩
          unfold va_wsS at hw
          rcases List.mem_append.mp hw with q | q
          · have : w ∈ lwG := by
              simp only [List.mem_cons, List.not_mem_nil, or_false] at q
              rcases q with q | q | q <;> rw [q] <;> assumption
            exact ⟨this, good_of_word (List.mem_filter.mp this).2⟩
          · exact hG w q
      · have hcode : oj_cw μ' = .code (mY μ') (mC μ') (mL μ') (mR μ') := by unfold oj_cw; rw [hH]
        have hnw := hSt.2.2.2.2.1 z hz
        rw [e1, e2, e3] at hnw
        exact vx_runSN (e := e) (below := below) (meth := meth) (locs := locs) (As := As.map (oj_v ad)) (rest := rest.map (oj_v ad)) (g := F0 m pc lsc (st.map (oj_v ad))) (host := z.2.2.2) ⟨hx, hb, hml, hown, hts⟩ (hM l hls D tyA adK adV b scr ad L H.size) ⟨va_cnB As.length hts hG (by rw [hcode]) rfl rfl hnw (hts _ w3) hdd hRR, hts _ w1, trivial⟩ ⟨oj_blind, hpp⟩ rfl (List.length_map _) hL.1 hstk hWr hdc ⟨Nat.le_trans hmc hR3, Nat.le_trans hms hR4⟩
    exact oj_back C ho hW hS hL K hal hmc hms kr kx
  split at hck
  case h_2 i0 i1 i2 i3 _ =>
    simp only [Bool.and_eq_true, decide_eq_true_eq] at hck
    obtain ⟨f0, f1, f2, f3⟩ := hck
    exact hfin ⟨oj_lwG (oj_cwAt_eq f3) (oj_cw_good μ'), oj_lwG f2 rfl, oj_lwG f1 rfl⟩ (Or.inl (oj_lwG f0 rfl))
  case h_4 i1 i2 i3 _ =>
    simp only [Bool.and_eq_true, decide_eq_true_eq] at hck
    obtain ⟨f0, f1, f2, f3, hH⟩ := hck
    obtain ⟨z, hz, hz2⟩ := List.any_eq_true.mp f0
    exact hfin ⟨oj_lwG (oj_cwAt_eq f3) (oj_cw_good μ'), oj_lwG f2 rfl, oj_lwG f1 rfl⟩ (Or.inr ⟨hH, z, hz, of_decide_eq_true hz2⟩)
  all_goals (first | omega | exact absurd hck (by simp))
theorem J_ldcWI {is : Nat} {v : Int32} (he : mT μ pc = some (.ldc_w is, len, nx, c, t)) (hw : Cond.constant (oj_cls (mO μ)) is v ∈ lwG) (kk : J μ d mc ms Q k n nx ls (.int v :: st) h) : J μ d mc ms Q k n pc ls st h := by
  intro p l e R s m args below meth c1 A D tyA adK adV b scr ad0 L0 Qc C ad L H locs lsc ho hW hS hL
  obtain ⟨hx, hb, hg, hml, hown, hts, hlocks, -, hK, hSt, -⟩ := id C
  obtain ⟨hd, hl, hn, hc, ht⟩ := oj_okE_spec (hg pc _ he)
  obtain rfl : len = 3 := of_decide_eq_true hl
  subst hn
  exact lv_ldcw hx hb hown (hts _ hw) hd (kk p l e R s m args below meth c1 A D tyA adK adV b scr ad0 L0 Qc C ad L H locs lsc ho hW hS hL)
end OJ87
theorem outSt_cong {sl sl' : Nat → Int32} (l : List Row) : ∀ n, (∀ i, i < n → sl' i = sl i) → outSt sl' l n = outSt sl l n
  | 0, _ => rfl
  | n + 1, h => by
    unfold outSt
    rw [outSt_cong l n (fun i hi => h i (by omega)), h n (by omega)]
theorem LI_row {q : LQ} {T κ : Nat} (H : LI q T κ) : ∃ cm t nb, (∀ j, j < q.2.2.1.length → RowOk cm t nb (rAt q.2.2.1 j)) ∧ cm ≤ κ ∧ κ ≤ 600 := by
  obtain ⟨t, c, ht, p, cm, ar, gn, mt, nb, en, jo, b, u, -, ⟨⟨a1, a2, a3, a4⟩, -⟩, ⟨-, hR, -⟩⟩ := H
  exact ⟨cm, t, nb, fun j hj => hR _ (rAt_mem hj), a3, a4⟩
theorem LI_num {q : LQ} {T κ : Nat} (H : LI q T κ) : (∀ j, j < q.2.2.1.length → ∃ k, k < 1000 ∧ (rAt q.2.2.1 j).1 = nI k) ∧ (∀ j, j < q.2.2.1.length → ∃ k, k < 1000 ∧ (rAt q.2.2.1 j).2.2.2.1 = nI k) := by
  obtain ⟨cm, t, nb, hR, hc, hk⟩ := LI_row H
  constructor
  · intro j hj
    obtain ⟨n, w, a, b, ca, ⟨h1, h2⟩, -⟩ := hR j hj
    exact ⟨n, by omega, h1⟩
  · intro j hj
    obtain ⟨n, w, a, b, ca, -, -, -, ⟨h1, h2⟩, -⟩ := hR j hj
    exact ⟨b, by omega, h1⟩
theorem st2 {x : Int32} : (0 ≤ x ∧ x ≤ 1) ↔ (0 ≤ x ∧ x < 2) := by
  rw [Int32.le_iff_toInt_le, Int32.le_iff_toInt_le, Int32.lt_iff_toInt_lt]
  have h0 : (0 : Int32).toInt = 0 := rfl
  have h5 : (1 : Int32).toInt = 1 := rfl
  have h6 : (2 : Int32).toInt = 2 := rfl
  omega
theorem i32_lt2 {x : Int32} (h : 0 ≤ x ∧ x ≤ 1) : ∃ c, c < 2 ∧ x = nI c := ⟨x.toNatClampNeg, by
  have t1 := Int32.le_iff_toInt_le.mp h.2
  have t2 : x.toInt ≤ 1 := by simpa using t1
  unfold Int32.toNatClampNeg
  omega, (i32_clamp h.1).symm⟩
theorem sc_inv {F : Nat → Int32} {l : List Row} (hs : SoundC F l) {c : Nat} (hc : c < 2) : ∃ p, p ≤ 24 ∧ sPl F (nI c) = nI p ∧ (p = 0 → sUp (uB F) (nI c) = true) ∧ (p = 24 → sUp (uB F) (nI c) = false) := by
  obtain ⟨h0, h1, hu, hz, ht, -⟩ := hs
  have e : F 4 = nI (F 4).toNatClampNeg := (i32_clamp h0).symm
  have hp : (F 4).toNatClampNeg ≤ 24 := by
    have := Int32.le_iff_toInt_le.mp h1
    have : (F 4).toInt ≤ 24 := by simpa using this
    unfold Int32.toNatClampNeg
    omega
  generalize (F 4).toNatClampNeg = p at e hp
  match c, hc with
  | 0, _ => exact ⟨p, hp, e, fun z => hz (by rw [e, z]; rfl), fun z => ht (by rw [e, z]; rfl)⟩
  | 1, _ =>
    refine ⟨24 - p, by omega, ?_, fun z => ?_, fun z => ?_⟩
    · show 24 - F 4 = _
      rw [e]
      have : ∀ p, p ≤ 24 → 24 - nI p = nI (24 - p) := by decide +kernel
      exact this p hp
    · show (!uB F) = true
      rw [ht (by rw [e, show p = 24 by omega]; rfl)]; rfl
    · show (!uB F) = false
      rw [hz (by rw [e, show p = 0 by omega]; rfl)]; rfl
theorem LI_wr {q : LQ} {T κ : Nat} (H : LI q T κ) {v : Int32} (hv : 0 ≤ v ∧ v < 2) : crRid q.2.2.1 v ≤ 6 ∧ (∃ k, k < 1000 ∧ sPl q.2.1 v = nI k) ∧ (∀ n, n < crRid q.2.2.1 v → ¬ crRrow q.2.2.1 v (nI n) = -1) ∧ ∃ k, k < 1000 ∧ v = nI k := by
  obtain ⟨c, hc, rfl⟩ := i32_lt2 (st2.mpr hv)
  obtain ⟨p, hp, ep, -⟩ := sc_inv (LI_SC H) hc
  obtain ⟨t, cc, ht, p', cm, ar, gn, mt, nb, en, jo, b, u, hV, hB, hR, he, hj, hcm⟩ := LI_bnd H
  obtain ⟨-, ⟨-, hc6⟩, -, -, -, -, -, -, hnb, hr0, hr1, h20⟩ := hB
  refine ⟨?_, ⟨p, by omega, ep⟩, fun n hn => rank_row ?_ (by omega) h20 hR.2.1 hR.2.2 hn, ⟨c, by omega, rfl⟩⟩
  · rcases (by omega : c = 0 ∨ c = 1) with z | z
    · rw [z]; exact Nat.le_trans hr0 hc6
    · rw [z]; exact Nat.le_trans hr1 hc6
  · rcases (by omega : c = 0 ∨ c = 1) with z | z
    · rw [z]; decide
    · rw [z]; decide
theorem outCab_ok {q : LQ} {T κ : Nat} (H : LI q T κ) {v : Int32} (hv : 0 ≤ v ∧ v < 2) : ∀ c ∈ outCab q.2.1 (uB q.2.1) q.2.2.1 v, cOk c := by
  obtain ⟨-, hp, hr, hvk⟩ := LI_wr H hv
  obtain ⟨hn, hd⟩ := LI_num H
  obtain ⟨t, cc, ht, p', cm, ar, gn, mt, nb, en, jo, b, u, hV, hB, hR, he, hj, hcm⟩ := LI_bnd H
  obtain ⟨-, -, -, -, -, -, -, -, -, -, -, h20⟩ := hB
  unfold outCab
  refine outRid_ok ?_ hn hd h20 _ hr
  refine app_ok (app_ok (app_ok (dI_ok hvk) (one_ok cOk_64)) (dI_ok hp)) (one_ok ?_)
  split
  · exact cOk_43
  · exact cOk_45
theorem CRep_outP {h h' : AHp} {A : AS} {w : List Int32} (H : CRep h A) (K : OutP h 113 w h') : CStep h (A.1, A.2.1, A.2.2.1, w, A.2.2.2.2) h' := by
  obtain ⟨e, hL, ⟨q1, w1⟩, ⟨q2, w2⟩, hsv2, hH, hO, T, p, m, hP⟩ := H
  have hh : ∀ x, x < 113 ∨ 114 < x → h' x = h x := fun x z => K.2 x (by omega) (by omega)
  exact ⟨⟨(hh _ (by decide)).trans e, LnR_mv (fun x z1 z2 => hh x (by omega)) hL, ⟨q1, LnR_mv (fun x z1 z2 => hh x (by omega)) w1⟩, ⟨q2, LnR_mv (fun x z1 z2 => hh x (by omega)) w2⟩, fun q w => LnR_mv (fun x z1 z2 => hh x (by omega)) (hsv2 q w), HsAt_mv (fun x z1 z2 => hh x (by omega)) hH, K.1, T, p, m, PgAt_mv (fun x z1 z2 => hh x (by omega)) hP⟩, fun x z => hh x (by omega)⟩
set_option maxRecDepth 100000 in
set_option maxHeartbeats 2000000 in
theorem us_undo {h : AHp} {A : AS} {n : Nat} {q : LQ} {t : List LQ} (C : CRep h A) (HA : AI A n) (e : A.2.2.1 = q :: t) : JM mi_L_undo 8 1 6 [.ref 0] h (fun r h' => r = .inl (some (.int (nI t.length))) ∧ CStep h (q, A.2.1, t, A.2.2.2) h') := by
  have k := t_undo C (fun q hq => ⟨LI.gU (HA.2.2.2.2.2.2 q (Or.inr (Or.inr hq))), LI.gB (HA.2.2.2.2.2.2 q (Or.inr (Or.inr hq)))⟩)
  have e9 : asUndo A = (.inl (some (.int (nI t.length))), (q, A.2.1, t, A.2.2.2)) := by unfold asUndo; rw [e]
  rw [e9] at k
  exact w_undo (Nat.le_refl _) (Nat.le_refl _) k C.1 (Or.inl rfl)
set_option maxRecDepth 100000 in
set_option maxHeartbeats 2000000 in
theorem us_undoN {h : AHp} {A : AS} {n : Nat} (C : CRep h A) (HA : AI A n) (e : A.2.2.1 = []) : JM mi_L_undo 8 1 6 [.ref 0] h (fun r h' => r = .inl (some (.int (-900001))) ∧ CStep h A h') := by
  have k := t_undo C (fun q hq => ⟨LI.gU (HA.2.2.2.2.2.2 q (Or.inr (Or.inr hq))), LI.gB (HA.2.2.2.2.2.2 q (Or.inr (Or.inr hq)))⟩)
  have e9 : asUndo A = (.inr "java/lang/IllegalStateException", A) := by unfold asUndo; rw [e]
  rw [e9] at k
  exact w_undo (Nat.le_refl _) (Nat.le_refl _) k C.1 (Or.inr ⟨rfl, rfl⟩)
set_option maxRecDepth 100000 in
set_option maxHeartbeats 2000000 in
theorem us_restore {h : AHp} {A : AS} {n : Nat} {q : LQ} (C : CRep h A) (HA : AI A n) (e : A.2.1 = some q) : JM mi_L_restore 7 1 6 [.ref 0] h (fun r h' => r = .inl (some (.int (nI q.2.2.1.length))) ∧ CStep h (q, A.2.1, [], A.2.2.2) h') := by
  have k := t_restore C (fun q hq => ⟨LI.gU (HA.2.2.2.2.2.2 q (Or.inr (Or.inl hq))), LI.gB (HA.2.2.2.2.2.2 q (Or.inr (Or.inl hq)))⟩)
  have e9 : asRest A = (.inl (some (.int (nI q.2.2.1.length))), (q, A.2.1, [], A.2.2.2)) := by unfold asRest; rw [e]
  rw [e9] at k
  exact w_restore (Nat.le_refl _) (Nat.le_refl _) k C.1 (Or.inl rfl)
set_option maxRecDepth 100000 in
set_option maxHeartbeats 2000000 in
theorem us_writeCabin {h : AHp} {A : AS} {n : Nat} (C : CRep h A) (HA : AI A n) : JM mi_X5_writeCabin 7 1 6 [.ref 0, .int (nI 0)] h (fun r h' => (∃ k, k ≤ 96 ∧ r = .inl (some (.int (nI k)))) ∧ ∃ w, (∀ x ∈ w, cOk x) ∧ CStep h (A.1, A.2.1, A.2.2.1, w, A.2.2.2.2) h') := by
  have hI := AI_cur HA
  have hc : (0 : Int32) ≤ nI 0 ∧ nI 0 < 2 := in2 (by omega)
  obtain ⟨h6, hp, hr, hvk⟩ := LI_wr hI hc
  obtain ⟨hnn, hd⟩ := LI_num hI
  obtain ⟨e, ⟨sl', hs, hL⟩, -, -, -, -, hO, -⟩ := id C
  exact JM_imp (t_writeCabin e hL hO hI.gU h6 hp hnn hd hr) (fun r h' q => by rw [if_pos hc] at q; exact ⟨⟨_, q.2.1.2.2, q.1⟩, _, outCab_ok hI hc, CRep_outP C q.2⟩)
set_option maxRecDepth 100000 in
set_option maxHeartbeats 2000000 in
theorem us_writeStations {h : AHp} {A : AS} {n : Nat} (C : CRep h A) (HA : AI A n) : JM mi_X5_writeStations 3 0 0 [.ref 0] h (fun r h' => (∃ k, k ≤ 96 ∧ r = .inl (some (.int (nI k)))) ∧ ∃ w, (∀ x ∈ w, cOk x) ∧ CStep h (A.1, A.2.1, A.2.2.1, w, A.2.2.2.2) h') := by
  have hI := AI_cur HA
  obtain ⟨t, cc, ht, p', cm, ar, gn, mt, nb, en, jo, b, u, hV, hB, hR, he, hj, hcm⟩ := LI_bnd hI
  obtain ⟨-, -, -, -, -, -, -, -, -, -, -, h20⟩ := hB
  have hsl : ∀ j, j < 6 → ∃ k, k < 1000 ∧ A.1.1 j = nI k := fun j hj => by obtain ⟨k, hk, e⟩ := hR.1 j hj; exact ⟨k, by omega, e⟩
  obtain ⟨e, ⟨sl', hs, hL⟩, -, -, -, -, hO, -⟩ := id C
  have hc := outSt_cong A.1.2.2.1 6 hs
  exact JM_imp (t_writeStations e hL hO (fun j hj => by rw [hs j hj]; exact hsl j hj)) (fun r h' q => by rw [hc] at q; exact ⟨⟨_, q.2.1.2.2, q.1⟩, _, outSt_ok hsl h20 6 (by decide), CRep_outP C q.2⟩)
set_option maxRecDepth 100000 in
set_option maxHeartbeats 2000000 in
theorem us_pbw {h : AHp} {A : AS} {n : Nat} (C : CRep h A) (HA : AI A n) : ∃ x, Bd 900003 x ∧ JM mi_L_pickerByWeight 8 1 6 [.ref 0, .int (nI 0)] h (oj_is (.inl (some (.int x))) h) := by
  obtain ⟨t, cc, ht, p', cm, ar, gn, mt, nb, en, jo, b, u, hV, hB, ⟨-, hR, -⟩, he, hj, hcm⟩ := LI_bnd (AI_cur HA)
  obtain ⟨-, -, -, -, -, -, -, -, -, -, -, h20⟩ := hB
  rcases Nat.eq_zero_or_pos A.1.2.2.1.length with z | z
  · obtain ⟨e, ⟨sl, hsl, hL⟩, -⟩ := id C
    have k := t_pickerByWeight e hL (v := nI 0)
    have hr : crByW A.1.2.2.1 (nI 0) = -1 := by
      unfold crByW
      rcases fstI_cases (fun j => nI (crHv A.1.2.2.1 j) == nI 0) A.1.2.2.1.length with ⟨w, -⟩ | ⟨i, hi, -⟩
      · exact w
      · omega
    rw [rowI_no hr] at k
    exact ⟨-900001, Bd_err (Or.inl rfl), w_pickerByWeight (P := fun h' => h' = h) (Nat.le_refl _) (Nat.le_refl _) k e (Or.inr ⟨rfl, rfl⟩)⟩
  · obtain ⟨i, hi, e1⟩ := bw_at h20 hR (k := 0) z
    refine ⟨_, ?_, us_w_pickerByWeight C e1 (by omega)⟩
    obtain ⟨nn, w, a, b', ca, ⟨x1, l1⟩, -⟩ := hR _ (rAt_mem hi)
    show Bd _ (rAt A.1.2.2.1 i).1
    rw [x1]
    exact Bd_nI (by omega) (by omega)
theorem sBz_i {l : List Row} : ∀ n, (sBz l n).1 ≤ n
  | 0 => Nat.le_refl _
  | n + 1 => by
    unfold sBz
    split
    · exact Nat.le_succ n
    · exact Nat.le_succ_of_le (sBz_i n)
set_option maxRecDepth 100000 in
set_option maxHeartbeats 2000000 in
theorem us_busy {h : AHp} {A : AS} (C : CRep h A) : ∃ x, Bd 900003 x ∧ JM mi_L_busiestStation 7 1 6 [.ref 0] h (oj_is (.inl (some (.int x))) h) := by
  obtain ⟨e, ⟨sl, hsl, hL⟩, -⟩ := id C
  have k := t_busiestStation e hL
  by_cases z : (sBz A.1.2.2.1 7).2 = 0
  · rw [if_pos z] at k
    exact ⟨-900001, Bd_err (Or.inl rfl), w_busiestStation (P := fun h' => h' = h) (Nat.le_refl _) (Nat.le_refl _) k e (Or.inr ⟨rfl, rfl⟩)⟩
  · rw [if_neg z] at k
    have := sBz_i (l := A.1.2.2.1) 7
    exact ⟨_, Bd_nI (by omega) (by omega), w_busiestStation (P := fun h' => h' = h) (Nat.le_refl _) (Nat.le_refl _) k e (Or.inl rfl)⟩
theorem LWs.seen {N M : Nat} {xs f : Nat → Int32} {A : AS} {h : AHp} (H : LWs N xs A M h) (hM : M < 999900) : LWs N xs A (M + 1) (oj_up h M (.inl (0, 140, .inl f))) := by
  obtain ⟨h1, h2, h3, h4⟩ := H
  exact ⟨CRep_up (fun x hx => up_ne (by omega)) h1, h2.push trivial, by omega, (up_ne (by omega)).trans h4⟩
theorem ActR.lt {A B : AS} {v : Int32} (H : ActR A v B) : ¬ v = -900009 ∧ (v ≤ -900000 → B.1 = A.1) ∧ (-900000 < v → ∃ t, B.2.2.1 = A.1 :: t) := by
  obtain ⟨-, -, h⟩ := H
  rcases h with ⟨h1, -, h3⟩ | ⟨h1, h2, -⟩
  · refine ⟨fun z => ?_, fun z => absurd z (Int32.not_le.mpr h1), fun _ => ⟨_, h3⟩⟩
    rw [z] at h1
    exact absurd h1 (by decide)
  · refine ⟨fun z => ?_, fun _ => h2, fun z => ?_⟩
    · rcases h1 with e | e | e <;> (rw [z] at e; exact absurd e (by decide))
    · rcases h1 with e | e | e <;> (rw [e] at z; exact absurd z (by decide))
theorem ix48 : ∀ j, j < 10 → (48 : Int32) + 4 * nI j = nI (48 + 4 * j) ∧ (89 : Int32) + nI j = nI (89 + j) := by decide +kernel
