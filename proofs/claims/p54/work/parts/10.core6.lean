section OJ6
variable {μ : MI} {d mc ms : Nat} {Q : QT} {k n pc : Nat} {ls : List (Option Value)} {st : List Value} {h : AHp} {i : Instr} {len nx : Nat} {c : Int32} {t : Nat}
/-- a constructor: it may make cells -/
theorem J_callI {μ' : MI} {idx d' mc' ms' na kd a : Nat} {As rest : List Value} {Q' : QT} (he : mT μ pc = some (.invokespecial idx, len, nx, c, t)) (hi : Nat.blt idx 1024 = true) (hct : oj_cl (mO μ * 1024 + idx) = some (kd, μ')) (hna : oj_na (mO μ * 1024 + idx) = some na) (hkd : kd = 2 ∨ kd = 4) (hsp : oj_spV st na = some (As, a, rest)) (hal : mA μ = true) (hrt : mR μ' = none) (hd : Nat.ble (d' + 1) d = true) (hcat : Nat.ble ((rest.map fun v => v.category).sum) 8 = true)
    (hM : JM μ' d' mc' ms' (.ref a :: As) h Q') (hmc : k + mc' ≤ mc) (hms : n + ms' ≤ ms)
    (h1 : ∀ a, Value.ref a ∈ rest → h a ≠ nilc ∨ 999999 ≤ a) (h2 : ∀ (j a : Nat), ls[j]? = some (some (.ref a)) → h a ≠ nilc ∨ 999999 ≤ a)
    (kx : ∀ (E : String) (h' : AHp), Q' (.inr E) h' → False)
    (kr : ∀ (v : Option Value) (h' : AHp), Q' (.inl v) h' → J μ d mc ms Q (k + mc') (n + ms') nx ls (v.toList ++ rest) h') : J μ d mc ms Q k n pc ls st h := by
  intro p l e R s m args below meth c1 A D tyA adK adV b scr ad0 L0 Qc C ad L H locs lsc ho hW hS hL
  obtain ⟨hx, hb, hg, hml, hown, hts, hlocks, -, hK, hSt, -, hls, ⟨hR1, hR2, hR3, hR4⟩, -⟩ := id C
  obtain ⟨hdc, hl, hn, -, -⟩ := oj_okE_spec (hg pc _ he)
  obtain rfl : len = 3 := of_decide_eq_true hl
  subst hn
  obtain ⟨ix, na', hna', hck⟩ := oj_cl_chk hct
  cases hna.symm.trans hna'
  obtain ⟨hst, -⟩ := oj_spV_eq hsp
  have hlen := oj_spV_len hsp
  have hk1 := (oj_key (o := mO μ) (Nat.le_of_ble_eq_true hi)).1
  have hk2 := (oj_key (o := mO μ) (Nat.le_of_ble_eq_true hi)).2
  unfold oj_chkC at hck
  rw [hk1, hk2] at hck
  simp only [Bool.and_eq_true, decide_eq_true_eq] at hck
  obtain ⟨g1, g2, g3, g4, g5, hck⟩ := hck
  have hd1 := Nat.le_of_ble_eq_true hd
  have hpp := oj_pre C hW hS (.ref a :: As)
  have hfin : oj_cw μ' ∈ lwG ∧ Cond.initialized (mY μ').cls ∈ lwG ∧ Cond.instanceMethod (mY μ') ∈ lwG ∧ mH μ' = [] ∧ (mY μ').name = "<init>" → (Cond.methodLink (oj_cls (mO μ)) idx (mY μ') ∈ lwG ∨ (∃ z ∈ oj_nests, z.1 = oj_cls (mO μ) ∧ z.2.1 = idx ∧ z.2.2.1 = mY μ')) → W p l e R s m args below meth c1 H locs k n Qc (F0 m pc lsc (st.map (oj_v ad))) := by
    rintro ⟨w4, w3, w1, hH, hni⟩ hlink
    have hstk : (F0 m pc lsc (st.map (oj_v ad))).stack = (As.map (oj_v ad)).reverse ++ .ref (ad a) :: rest.map (oj_v ad) := by show st.map (oj_v ad) = _; rw [hst]; simp [oj_v]
    have hWr : 2 * (F0 m pc lsc (st.map (oj_v ad))).monitorRoom + ((rest.map (oj_v ad)).map fun v => v.category).sum ≤ 8 := lv_room (by rw [List.map_map]; simpa [Function.comp_def, oj_v_cat] using Nat.le_of_ble_eq_true hcat)
    have hG := oj_good_in w4
    have hdd : (mY μ').cls ≠ "java/lang/invoke/MethodHandle" ∧ (mY μ').cls ≠ "java/lang/invoke/VarHandle" ∧ (parseMethodDescriptor (mY μ').desc).map (fun d => d.parameters.length) = some As.length := ⟨g1, g2, by rw [g3, hlen]⟩
    have hRR : (oj_rm d' mc' ms').frames + 1 ≤ R.frames ∧ 8 + (mL μ' + 11) + (oj_rm d' mc' ms').locals ≤ R.locals := ⟨by show d' + 1 ≤ _; omega, by show 8 + (mL μ' + 11) + 40 * d' ≤ _; omega⟩
    have K : ∃ hret : mR μ' = none, vx_Run p l e R s m args below meth c1 H locs k n mc' ms' (F0 m pc lsc (st.map (oj_v ad))) (rest.map (oj_v ad)) (oj_QC (mA μ') Q' (va_A (oj_w ad tyA L h) H.size) D tyA adK b scr ad L (.ref (ad a) :: As.map (oj_v ad)).toArray) (oj_XC Q' (va_A (oj_w ad tyA L h) H.size) D tyA adK b scr ad L) (va_A (oj_w ad tyA L h) H.size) := by
      have hret : mR μ' = none := hrt
      refine ⟨hret, ?_⟩
      have hcode : oj_cw μ' = .code (mY μ') (mC μ') (mL μ') none := by unfold oj_cw; rw [hH, hret]
      rcases hlink with w0 | ⟨z, hz, e1, e2, e3⟩
      · exact vx_runI (e := e) (below := below) (meth := meth) (locs := locs) (As := As.map (oj_v ad)) (rest := rest.map (oj_v ad)) (b := ad a) (g := F0 m pc lsc (st.map (oj_v ad))) ⟨hx, hb, hml, hown, hts⟩ (hM l hls D tyA adK adV b scr ad L H.size) ⟨callB_of As.length hts hG (by rw [hcode]) rfl rfl (hts _ w3) (hts _ w0) hdd hRR, hni, hts _ w1⟩ ⟨oj_blind, hpp⟩ rfl (List.length_map _) hL.1 hstk hWr hdc ⟨Nat.le_trans hmc hR3, Nat.le_trans hms hR4⟩
      · have hnw := hSt.2.2.2.2.1 z hz
        rw [e1, e2, e3] at hnw
        exact vx_runIN (e := e) (below := below) (meth := meth) (locs := locs) (As := As.map (oj_v ad)) (rest := rest.map (oj_v ad)) (b := ad a) (g := F0 m pc lsc (st.map (oj_v ad))) (host := z.2.2.2) ⟨hx, hb, hml, hown, hts⟩ (hM l hls D tyA adK adV b scr ad L H.size) ⟨va_cnB As.length hts hG (by rw [hcode]) rfl rfl hnw (hts _ w3) hdd hRR, hni, hts _ w1⟩ ⟨oj_blind, hpp⟩ rfl (List.length_map _) hL.1 hstk hWr hdc ⟨Nat.le_trans hmc hR3, Nat.le_trans hms hR4⟩
    obtain ⟨-, K⟩ := K
    exact oj_back C ho hW hS hL K (fun _ => ⟨hal, h1, h2⟩) hmc hms kr (fun E h' q => (kx E h' q).elim)
  split at hck
  case h_3 i0 i1 i2 i3 _ =>
    simp only [Bool.and_eq_true, decide_eq_true_eq] at hck
    obtain ⟨f0, f1, f2, f3, hH, hni⟩ := hck
    exact hfin ⟨oj_lwG (oj_cwAt_eq f3) (oj_cw_good μ'), oj_lwG f2 rfl, oj_lwG f1 rfl, hH, hni⟩ (Or.inl (oj_lwG f0 rfl))
  case h_5 i1 i2 i3 _ =>
    simp only [Bool.and_eq_true, decide_eq_true_eq] at hck
    obtain ⟨f0, f1, f2, f3, hH, hni⟩ := hck
    obtain ⟨z, hz, hz2⟩ := List.any_eq_true.mp f0
    exact hfin ⟨oj_lwG (oj_cwAt_eq f3) (oj_cw_good μ'), oj_lwG f2 rfl, oj_lwG f1 rfl, hH, hni⟩ (Or.inr ⟨z, hz, of_decide_eq_true hz2⟩)
  all_goals (first | omega | exact absurd hck (by simp))
/-! throws -/
def oj_excs : List (Nat × Nat × String) := [(68, 72, "java/lang/IndexOutOfBoundsException"), (257, 261, "java/lang/IllegalArgumentException"), (242, 246, "java/lang/IllegalStateException"), (265, 269, "java/lang/UnsupportedOperationException")]
def oj_nms : List String := ["java/lang/RuntimeException", "java/lang/Exception"]
def oj_excOK (q : Nat × Nat × String) : Prop := Bundle.fit q.2.2 = true ∧ Cond.classLink RX5 q.1 q.2.2 ∈ lwG ∧ Cond.initialized q.2.2 ∈ lwG ∧ (∀ w ∈ (vx_atS RX5 q.2.1 q.2.2 oj_nms).filter goodWord, w ∈ lwG) ∧ (∀ w ∈ (vx_atS RX5 q.2.1 q.2.2 oj_nms).filter (fun w => !goodWord w), w ∈ [Cond.castable q.2.2 q.2.2, .declares (Bundle.initS "java/lang/RuntimeException"), .declares (Bundle.initS "java/lang/Exception"), .declares (Bundle.initS "java/lang/Throwable")]) ∧ (q.2.2, q.2.2) ∈ oj_casts ∧ ∀ w ∈ Cond.classLink RX5 q.1 q.2.2 :: Cond.initialized q.2.2 :: vx_atS RX5 q.2.1 q.2.2 oj_nms, vx_ot w = true
set_option maxRecDepth 100000 in
theorem oj_exc_0 : oj_excOK (68, 72, "java/lang/IndexOutOfBoundsException") := ⟨by decide +kernel, by decide +kernel, by decide +kernel, by decide +kernel, by decide +kernel, by decide +kernel, by decide +kernel⟩
set_option maxRecDepth 100000 in
theorem oj_exc_1 : oj_excOK (257, 261, "java/lang/IllegalArgumentException") := ⟨by decide +kernel, by decide +kernel, by decide +kernel, by decide +kernel, by decide +kernel, by decide +kernel, by decide +kernel⟩
set_option maxRecDepth 100000 in
theorem oj_exc_2 : oj_excOK (242, 246, "java/lang/IllegalStateException") := ⟨by decide +kernel, by decide +kernel, by decide +kernel, by decide +kernel, by decide +kernel, by decide +kernel, by decide +kernel⟩
set_option maxRecDepth 100000 in
theorem oj_exc_3 : oj_excOK (265, 269, "java/lang/UnsupportedOperationException") := ⟨by decide +kernel, by decide +kernel, by decide +kernel, by decide +kernel, by decide +kernel, by decide +kernel, by decide +kernel⟩
theorem oj_exc_all : ∀ q ∈ oj_excs, oj_excOK q := List.forall_mem_cons.mpr ⟨oj_exc_0, List.forall_mem_cons.mpr ⟨oj_exc_1, List.forall_mem_cons.mpr ⟨oj_exc_2, List.forall_mem_cons.mpr ⟨oj_exc_3, fun _ h => absurd h List.not_mem_nil⟩⟩⟩⟩
end OJ6

section OJ7
variable {μ : MI} {d mc ms : Nat} {Q : QT} {k n pc : Nat} {ls : List (Option Value)} {st : List Value} {h : AHp} {nx : Nat} {c : Int32} {t : Nat}
/-- throw new E("..") -/
theorem J_throw {ik is ic sn n1 n2 n3 n4 n5 t1 t2 t3 t4 t5 : Nat} {c1 c2 c3 c4 c5 : Int32} {E text : String} (h0 : mT μ pc = some (.new ik, 3, n1, c1, t1)) (h3 : mT μ (pc + 3) = some (.dup, 1, n2, c2, t2)) (h4 : mT μ (pc + 4) = some (.ldc is, 2, n3, c3, t3)) (h6 : mT μ (pc + 6) = some (.invokespecial ic, 3, n4, c4, t4)) (h9 : mT μ (pc + 9) = some (.athrow, 1, n5, c5, t5))
    (ho : mO μ = 5) (hE : (ik, ic, E) ∈ oj_excs) (hs : ("OrchardRopeway", is, text, sn) ∈ oj_strs) (hH : mH μ = []) (hA : mA μ = false) (hd : Nat.ble 6 d = true) (hcat : Nat.ble ((st.map fun v => v.category).sum) 8 = true) (hk : k + 1 ≤ mc) (hn : n + 6 ≤ ms) (hq : Q (.inr E) h) : J μ d mc ms Q k n pc ls st h := by
  intro p l e R s m args below meth c1 A D tyA adK adV b scr ad0 L0 Qc C ad L H locs lsc ho' hW hS hL
  obtain ⟨hx, hb, hg, hml, hown, hts, hlocks, -, hK, hSt, hAA, hls, ⟨hR1, hR2, hR3, hR4⟩, hxt, -, hend⟩ := id C
  obtain ⟨Qc', hQc⟩ := hend.2 hA hH
  obtain ⟨q1, q2⟩ := ho'.1 hA
  have d0 := (oj_okE_spec (hg pc _ h0)).1
  have d3 := (oj_okE_spec (hg _ _ h3)).1
  have d4 := (oj_okE_spec (hg _ _ h4)).1
  have d6 := (oj_okE_spec (hg _ _ h6)).1
  have d9 := (oj_okE_spec (hg _ _ h9)).1
  obtain ⟨e1, e2, e3, e4, e5, e6, e7⟩ := oj_exc_all _ hE
  have hd6 := Nat.le_of_ble_eq_true hd
  obtain ⟨-, -, -, -, -, -, -, -, -, hdec, -⟩ := id hSt
  rw [ho] at hown
  rw [hQc]
  refine vx_throwS (own := RX5) (cls := E) (text := text) (names := oj_nms) (ik := ik) (is := is) (ic := ic) (A := A) hx hb hls hown e1 (by decide +kernel) (hts _ e2) (hts _ e3) (hSt.2.1 _ hs) (vx_hat (fun w hw => hts _ (e4 w hw)) e5 (vx_c (va_Nw.use rfl (hSt.2.2.1 _ e6)) (vx_c (va_Nw.use rfl (hdec _ (by decide +kernel))) (vx_c (va_Nw.use rfl (hdec _ (by decide +kernel))) (vx_c (va_Nw.use rfl (hdec _ (by decide +kernel))) vx_n))))) e7 hSt.2.2.2.2.2.1 hSt.2.2.2.2.2.2.1 hS (hL.1.trans hml.symm) d0 d3 d4 d6 d9 (fun x hx => by rw [hxt, hH] at hx; cases hx) (by show 2 + 3 < R.frames; omega) ?_ (Nat.le_trans hk hR3) (Nat.le_trans hn hR4) hlocks ?_ hS.2.2 hk hn
  · have : ((st.map (oj_v ad)).map fun v => v.category).sum ≤ 8 := by rw [List.map_map]; simpa [Function.comp_def, oj_v_cat] using Nat.le_of_ble_eq_true hcat
    show _ + (13 * (2 + 1) + 43) ≤ R.locals
    omega
  · intro t9 hvm hz hkept
    have hlt : ∀ (k9 : Nat) (q9 : Nat × va_E), (oj_w ad tyA L h)[k9]? = some q9 → t9.heap[q9.1]? = H[q9.1]? := fun k9 q9 h9' => hkept q9.1 ((hW.1 k9 q9 h9').lt)
    refine ⟨⟨h, hq, ?_⟩, ⟨Nat.le_trans hS.1 hz, fun q h1 h2 => by rw [hkept q (Nat.lt_of_lt_of_le h1 hS.1)]; exact hS.2.1 q h1 h2⟩⟩
    rw [← q1, ← q2]
    exact ⟨hW.1.kept hlt, hW.2⟩
/-- throw new E("..") -/
theorem J_throwW {ik is ic sn n1 n2 n3 n4 n5 t1 t2 t3 t4 t5 : Nat} {c1 c2 c3 c4 c5 : Int32} {E text : String} (h0 : mT μ pc = some (.new ik, 3, n1, c1, t1)) (h3 : mT μ (pc + 3) = some (.dup, 1, n2, c2, t2)) (h4 : mT μ (pc + 4) = some (.ldc_w is, 3, n3, c3, t3)) (h6 : mT μ (pc + 7) = some (.invokespecial ic, 3, n4, c4, t4)) (h9 : mT μ (pc + 10) = some (.athrow, 1, n5, c5, t5))
    (ho : mO μ = 5) (hE : (ik, ic, E) ∈ oj_excs) (hs : ("OrchardRopeway", is, text, sn) ∈ oj_strs) (hH : mH μ = []) (hA : mA μ = false) (hd : Nat.ble 6 d = true) (hcat : Nat.ble ((st.map fun v => v.category).sum) 8 = true) (hk : k + 1 ≤ mc) (hn : n + 6 ≤ ms) (hq : Q (.inr E) h) : J μ d mc ms Q k n pc ls st h := by
  intro p l e R s m args below meth c1 A D tyA adK adV b scr ad0 L0 Qc C ad L H locs lsc ho' hW hS hL
  obtain ⟨hx, hb, hg, hml, hown, hts, hlocks, -, hK, hSt, hAA, hls, ⟨hR1, hR2, hR3, hR4⟩, hxt, -, hend⟩ := id C
  obtain ⟨Qc', hQc⟩ := hend.2 hA hH
  obtain ⟨q1, q2⟩ := ho'.1 hA
  have d0 := (oj_okE_spec (hg pc _ h0)).1
  have d3 := (oj_okE_spec (hg _ _ h3)).1
  have d4 := (oj_okE_spec (hg _ _ h4)).1
  have d6 := (oj_okE_spec (hg _ _ h6)).1
  have d9 := (oj_okE_spec (hg _ _ h9)).1
  obtain ⟨e1, e2, e3, e4, e5, e6, e7⟩ := oj_exc_all _ hE
  have hd6 := Nat.le_of_ble_eq_true hd
  obtain ⟨-, -, -, -, -, -, -, -, -, hdec, -⟩ := id hSt
  rw [ho] at hown
  rw [hQc]
  refine vx_throwSW (own := RX5) (cls := E) (text := text) (names := oj_nms) (ik := ik) (is := is) (ic := ic) (A := A) hx hb hls hown e1 (by decide +kernel) (hts _ e2) (hts _ e3) (hSt.2.1 _ hs) (vx_hat (fun w hw => hts _ (e4 w hw)) e5 (vx_c (va_Nw.use rfl (hSt.2.2.1 _ e6)) (vx_c (va_Nw.use rfl (hdec _ (by decide +kernel))) (vx_c (va_Nw.use rfl (hdec _ (by decide +kernel))) (vx_c (va_Nw.use rfl (hdec _ (by decide +kernel))) vx_n))))) e7 hSt.2.2.2.2.2.1 hSt.2.2.2.2.2.2.1 hS (hL.1.trans hml.symm) d0 d3 d4 d6 d9 (fun x hx => by rw [hxt, hH] at hx; cases hx) (by show 2 + 3 < R.frames; omega) ?_ (Nat.le_trans hk hR3) (Nat.le_trans hn hR4) hlocks ?_ hS.2.2 hk hn
  · have : ((st.map (oj_v ad)).map fun v => v.category).sum ≤ 8 := by rw [List.map_map]; simpa [Function.comp_def, oj_v_cat] using Nat.le_of_ble_eq_true hcat
    show _ + (13 * (2 + 1) + 43) ≤ R.locals
    omega
  · intro t9 hvm hz hkept
    have hlt : ∀ (k9 : Nat) (q9 : Nat × va_E), (oj_w ad tyA L h)[k9]? = some q9 → t9.heap[q9.1]? = H[q9.1]? := fun k9 q9 h9' => hkept q9.1 ((hW.1 k9 q9 h9').lt)
    refine ⟨⟨h, hq, ?_⟩, ⟨Nat.le_trans hS.1 hz, fun q h1 h2 => by rw [hkept q (Nat.lt_of_lt_of_le h1 hS.1)]; exact hS.2.1 q h1 h2⟩⟩
    rw [← q1, ← q2]
    exact ⟨hW.1.kept hlt, hW.2⟩
end OJ7
