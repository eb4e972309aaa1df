theorem oj_gw {pre : List Cond} {c0 : Cond} (h : ∀ w ∈ pre ++ [c0], w ∈ lwG) : GoodIn lwG (pre ++ (c0 :: lwG)) := fun w hw => by
  have h2 : w ∈ lwG := by
    rcases List.mem_append.mp hw with q | q
    · exact h w (List.mem_append_left _ q)
    · rcases List.mem_cons.mp q with q | q
      · rw [q]; exact h c0 (List.mem_append_right _ (List.mem_singleton_self _))
      · exact q
  exact ⟨h2, good_of_word (List.mem_filter.mp h2).2⟩
abbrev oj_hal (μ μ' : MI) (rest : List Value) (ls : List (Option Value)) (h : AHp) : Prop := mA μ' = true → mA μ = true ∧ (∀ a, Value.ref a ∈ rest → h a ≠ nilc ∨ 999999 ≤ a) ∧ ∀ (j a : Nat), ls[j]? = some (some (.ref a)) → h a ≠ nilc ∨ 999999 ≤ a
theorem oj_up_up {h : AHp} {a : Nat} {x y : AC} : oj_up (oj_up h a x) a y = oj_up h a y := by
  funext j
  unfold oj_up
  by_cases e : j = a
  · rw [if_pos e, if_pos e]
  · rw [if_neg e, if_neg e, if_neg e]
theorem oj_up_id {h : AHp} {a : Nat} {x : AC} (e : h a = x) : oj_up h a x = h := by
  funext j
  unfold oj_up
  by_cases q : j = a
  · rw [if_pos q, q, e]
  · rw [if_neg q]
theorem up_at {h : AHp} {a : Nat} {x : AC} : oj_up h a x a = x := if_pos rfl
theorem up_ne {h : AHp} {a b : Nat} {x : AC} (e : b ≠ a) : oj_up h a x b = h b := if_neg e
def loLs (P : Nat → Prop) : List (Option Value) → Prop
  | [] => True
  | some (.ref b) :: l => P b ∧ loLs P l
  | _ :: l => loLs P l
theorem loLs_at {P : Nat → Prop} : ∀ {ls : List (Option Value)} {j v : Nat}, ls[j]? = some (some (.ref v)) → loLs P ls → P v
  | [], _, _, h, _ => by cases h
  | x :: l, 0, v, h, H => by
    cases h
    exact H.1
  | x :: l, j + 1, v, h, H => by
    refine loLs_at (ls := l) (j := j) h ?_
    cases x with
    | none => exact H
    | some x => cases x <;> first | exact H.2 | exact H
def loLv (P : Nat → Prop) : List Value → Prop
  | [] => True
  | .ref b :: l => P b ∧ loLv P l
  | _ :: l => loLv P l
theorem loLv_mem {P : Nat → Prop} : ∀ {l : List Value} {v : Nat}, Value.ref v ∈ l → loLv P l → P v
  | [], _, h, _ => by cases h
  | x :: l, v, h, H => by
    rcases List.mem_cons.mp h with h | h
    · subst h; exact H.1
    · refine loLv_mem (l := l) h ?_
      cases x <;> first | exact H.2 | exact H
theorem lo_ref {N ci : Nat} {fs : List Value} (H : loLv (fun v => v < N ∨ 999999 ≤ v) fs) : oj_lo N (.inr (ci, fs)) := fun _ hv => loLv_mem hv H
theorem oj_halF {μ μ' : MI} {rest : List Value} {ls : List (Option Value)} {h : AHp} (e : mA μ' = false) : oj_hal μ μ' rest ls h := fun z => absurd (e.symm.trans z) (by decide)
theorem oj_halT {μ μ' : MI} {rest : List Value} {ls : List (Option Value)} {h : AHp} (e : mA μ = true) (h1 : loLv (fun a => h a ≠ nilc ∨ 999999 ≤ a) rest) (h2 : loLs (fun a => h a ≠ nilc ∨ 999999 ≤ a) ls) : oj_hal μ μ' rest ls h := fun _ => ⟨e, fun _ ha => loLv_mem ha h1, fun _ _ ha => loLs_at ha h2⟩
theorem nnR {h : AHp} {a ci : Nat} {fs : List Value} (e : h a = .inr (ci, fs)) (hci : ci < 8) : h a ≠ nilc ∨ 999999 ≤ a := Or.inl (by rw [e]; exact oj_inr_ne hci)
theorem nnA {h : AHp} {a t n : Nat} {f : (Nat → Int32) ⊕ (Nat → Int64) ⊕ (Nat → UInt32) ⊕ (Nat → UInt64) ⊕ (Nat → Option Nat)} (e : h a = .inl (t, n, f)) : h a ≠ nilc ∨ 999999 ≤ a := Or.inl (by rw [e]; intro z; cases z)
theorem nnK {h : AHp} (q : Nat) : h (oj_sa q) ≠ nilc ∨ 999999 ≤ oj_sa q := Or.inr (oj_sa_ge q)
section OJ13D
variable {μ : MI} {d mc ms : Nat} {Q : QT} {k n pc : Nat} {ls : List (Option Value)} {st : List Value} {h : AHp} {i : Instr} {len nx : Nat} {c : Int32} {t : Nat}
/-- a method of the receiver's own class -/
theorem J_dV {μ' : MI} {idx d' mc' ms' na ci a : Nat} {As rest : List Value} {Q' : QT} {fs : List Value} (he : mT μ pc = some (.invokevirtual idx, len, nx, c, t)) (hsp : oj_spV st As.length = some (As, a, rest)) (ha : h a = .inr (ci, fs)) (hci : Nat.blt ci 8 = true) (hw : ∀ w ∈ wsV (oj_cls (mO μ)) idx (oj_hc ci) (mY μ') [oj_cw μ'], w ∈ lwG) (g1 : ((mY μ').cls ≠ "java/lang/invoke/MethodHandle" ∧ (mY μ').cls ≠ "java/lang/invoke/VarHandle" ∧ (parseMethodDescriptor (mY μ').desc).map (fun d => d.parameters.length) = some na)) (g4 : mL μ' ≤ 21) (hH : mH μ' = []) (hd : Nat.ble (d' + 1) d = true) (hcat : Nat.ble ((rest.map fun v => v.category).sum) 8 = true)
    (hM : JM μ' d' mc' ms' (.ref a :: As) h Q') (hmc : k + mc' ≤ mc) (hms : n + ms' ≤ ms) (hal : oj_hal μ μ' rest ls h)
    (kx : ∀ (E : String) (h' : AHp), ¬ Q' (.inr E) h')
    (kr : ∀ (v : Option Value) (h' : AHp), Q' (.inl v) h' → J μ d mc ms Q (k + mc') (n + ms') nx ls (v.toList ++ rest) h') (hcc : (mY μ').cls = oj_hc ci := by rfl) (hna : As.length = na := by rfl) : J μ d mc ms Q k n pc ls st h := by
  subst hna
  intro p l e R s m args below meth c1 A D tyA adK adV b scr ad0 L0 Qc C ad L H locs lsc ho hW hS hL
  obtain ⟨hx, hb, hg, hml, hown, hts, hlocks, -, hK, hSt, -, hls, ⟨hR1, hR2, hR3, hR4⟩, -⟩ := id C
  obtain ⟨hdc, hl, hn, -, -⟩ := oj_okE_spec (hg pc _ he)
  obtain rfl : len = 3 := of_decide_eq_true hl
  subst hn
  have hcode : oj_cw μ' = .code (mY μ') (mC μ') (mL μ') (mR μ') := by unfold oj_cw; rw [hH]
  have hd1 := Nat.le_of_ble_eq_true hd
  have hRR : (oj_rm d' mc' ms').frames + 1 ≤ R.frames ∧ 8 + (mL μ' + 11) + (oj_rm d' mc' ms').locals ≤ R.locals := ⟨by show d' + 1 ≤ _; omega, by show 8 + (mL μ' + 11) + 40 * d' ≤ _; omega⟩
  have hWr : 2 * (F0 m pc lsc (st.map (oj_v ad))).monitorRoom + ((rest.map (oj_v ad)).map fun v => v.category).sum ≤ 8 := lv_room (by rw [List.map_map]; simpa [Function.comp_def, oj_v_cat] using Nat.le_of_ble_eq_true hcat)
  obtain ⟨hst, -⟩ := oj_spV_eq hsp
  have hstk : (F0 m pc lsc (st.map (oj_v ad))).stack = (As.map (oj_v ad)).reverse ++ .ref (ad a) :: rest.map (oj_v ad) := by show st.map (oj_v ad) = _; rw [hst]; simp [oj_v]
  have hpp := oj_pre C hW hS (.ref a :: As)
  obtain ⟨i9, hi9, hw9⟩ := oj_idx hW (a := a) (by rw [ha]; exact oj_inr_ne (Nat.le_of_ble_eq_true hci)) (by rw [ha]; intro N9 y9 z; cases z)
  rw [ha] at hw9
  obtain ⟨r9, hr9⟩ : ∃ r9 : vw_C, vwCl[ci]? = some r9 := by
    obtain ⟨q', h1, -⟩ := hW.1 i9 _ hw9
    exact ⟨q', h1⟩
  have hrc := va_recv hK hW.1 hr9 hw9
  have hC9 : r9.1 = oj_hc ci := by
    obtain ⟨C9, T9, N9⟩ := r9
    exact (oj_cl_ok hr9).2.2.2.2.1
  rw [hC9] at hrc
  have hG : GoodIn lwG (wsV (oj_cls (mO μ)) idx (oj_hc ci) (mY μ') (oj_cw μ' :: lwG)) := oj_gw hw
  unfold wsV at hG
  have cw : CallW R s args (oj_cls (mO μ)) (oj_hc ci) idx (mY μ') (mC μ') (mL μ') (mR μ') (oj_cw μ' :: lwG) (oj_rm d' mc' ms') mc' ms' As.length := ⟨callB_of As.length hts (fun w q => hG w (List.mem_append_right _ q)) (by rw [hcode]) rfl rfl (by rw [hcc]; exact hts _ (hG _ (by simp)).1) (hts _ (hG _ (by simp)).1) g1 hRR, hts _ (hG _ (by simp)).1, hts _ (hG _ (by simp)).1⟩
  have hr := vx_runV (e := e) (below := below) (meth := meth) (locs := locs) (As := As.map (oj_v ad)) (rest := rest.map (oj_v ad)) (b := ad a) (g := F0 m pc lsc (st.map (oj_v ad))) ⟨hx, hb, hml, hown, hts⟩ (hM l hls D tyA adK adV b scr ad L H.size) cw ⟨oj_blind, hrc, hpp⟩ rfl (List.length_map _) hL.1 hstk hWr hdc ⟨Nat.le_trans hmc hR3, Nat.le_trans hms hR4⟩
  exact oj_back C ho hW hS hL hr hal hmc hms kr (fun E h' hh => absurd hh (kx E h'))
/-- a method of a class above the receiver's -/
theorem J_dU {μ' : MI} {idx d' mc' ms' na ci a : Nat} {As rest : List Value} {Q' : QT} {fs : List Value} (he : mT μ pc = some (.invokevirtual idx, len, nx, c, t)) (hsp : oj_spV st As.length = some (As, a, rest)) (ha : h a = .inr (ci, fs)) (hci : Nat.blt ci 8 = true) (hw : ∀ w ∈ va_wsU (oj_cls (mO μ)) idx (oj_hc ci) (mY μ').cls (mY μ') (mY μ') [oj_cw μ'], w ∈ lwG) (g1 : ((mY μ').cls ≠ "java/lang/invoke/MethodHandle" ∧ (mY μ').cls ≠ "java/lang/invoke/VarHandle" ∧ (parseMethodDescriptor (mY μ').desc).map (fun d => d.parameters.length) = some na)) (g4 : mL μ' ≤ 21) (hH : mH μ' = []) (hd : Nat.ble (d' + 1) d = true) (hcat : Nat.ble ((rest.map fun v => v.category).sum) 8 = true)
    (hM : JM μ' d' mc' ms' (.ref a :: As) h Q') (hmc : k + mc' ≤ mc) (hms : n + ms' ≤ ms) (hal : oj_hal μ μ' rest ls h)
    (kx : ∀ (E : String) (h' : AHp), ¬ Q' (.inr E) h')
    (kr : ∀ (v : Option Value) (h' : AHp), Q' (.inl v) h' → J μ d mc ms Q (k + mc') (n + ms') nx ls (v.toList ++ rest) h') (hna : As.length = na := by rfl) : J μ d mc ms Q k n pc ls st h := by
  subst hna
  intro p l e R s m args below meth c1 A D tyA adK adV b scr ad0 L0 Qc C ad L H locs lsc ho hW hS hL
  obtain ⟨hx, hb, hg, hml, hown, hts, hlocks, -, hK, hSt, -, hls, ⟨hR1, hR2, hR3, hR4⟩, -⟩ := id C
  obtain ⟨hdc, hl, hn, -, -⟩ := oj_okE_spec (hg pc _ he)
  obtain rfl : len = 3 := of_decide_eq_true hl
  subst hn
  have hcode : oj_cw μ' = .code (mY μ') (mC μ') (mL μ') (mR μ') := by unfold oj_cw; rw [hH]
  have hd1 := Nat.le_of_ble_eq_true hd
  have hRR : (oj_rm d' mc' ms').frames + 1 ≤ R.frames ∧ 8 + (mL μ' + 11) + (oj_rm d' mc' ms').locals ≤ R.locals := ⟨by show d' + 1 ≤ _; omega, by show 8 + (mL μ' + 11) + 40 * d' ≤ _; omega⟩
  have hWr : 2 * (F0 m pc lsc (st.map (oj_v ad))).monitorRoom + ((rest.map (oj_v ad)).map fun v => v.category).sum ≤ 8 := lv_room (by rw [List.map_map]; simpa [Function.comp_def, oj_v_cat] using Nat.le_of_ble_eq_true hcat)
  obtain ⟨hst, -⟩ := oj_spV_eq hsp
  have hstk : (F0 m pc lsc (st.map (oj_v ad))).stack = (As.map (oj_v ad)).reverse ++ .ref (ad a) :: rest.map (oj_v ad) := by show st.map (oj_v ad) = _; rw [hst]; simp [oj_v]
  have hpp := oj_pre C hW hS (.ref a :: As)
  obtain ⟨i9, hi9, hw9⟩ := oj_idx hW (a := a) (by rw [ha]; exact oj_inr_ne (Nat.le_of_ble_eq_true hci)) (by rw [ha]; intro N9 y9 z; cases z)
  rw [ha] at hw9
  obtain ⟨r9, hr9⟩ : ∃ r9 : vw_C, vwCl[ci]? = some r9 := by
    obtain ⟨q', h1, -⟩ := hW.1 i9 _ hw9
    exact ⟨q', h1⟩
  have hrc := va_recv hK hW.1 hr9 hw9
  have hC9 : r9.1 = oj_hc ci := by
    obtain ⟨C9, T9, N9⟩ := r9
    exact (oj_cl_ok hr9).2.2.2.2.1
  rw [hC9] at hrc
  have hG : GoodIn lwG (va_wsU (oj_cls (mO μ)) idx (oj_hc ci) (mY μ').cls (mY μ') (mY μ') (oj_cw μ' :: lwG)) := oj_gw hw
  have hr := vx_runU (e := e) (below := below) (meth := meth) (locs := locs) (As := As.map (oj_v ad)) (rest := rest.map (oj_v ad)) (b := ad a) (g := F0 m pc lsc (st.map (oj_v ad))) (x := mY μ') (owner := (mY μ').cls) ⟨hx, hb, hml, hown, hts⟩ (hM l hls D tyA adK adV b scr ad L H.size) (va_cwU As.length hts hG (by rw [hcode]) rfl rfl rfl g1 hRR) ⟨oj_blind, hrc, hpp⟩ rfl (List.length_map _) hL.1 hstk hWr hdc ⟨Nat.le_trans hmc hR3, Nat.le_trans hms hR4⟩
  exact oj_back C ho hW hS hL hr hal hmc hms kr (fun E h' hh => absurd hh (kx E h'))
/-- an overriding method -/
theorem J_dO {μ' : MI} {idx d' mc' ms' na ci a : Nat} {As rest : List Value} {Q' : QT} {fs : List Value} {x : MethodName} {b0 : ByteArray} {m0 : Nat} {r0 : Option FieldType} (he : mT μ pc = some (.invokevirtual idx, len, nx, c, t)) (hsp : oj_spV st As.length = some (As, a, rest)) (ha : h a = .inr (ci, fs)) (hci : Nat.blt ci 8 = true) (hw : ∀ w ∈ va_wsO (oj_cls (mO μ)) idx (oj_hc ci) x.cls x (mY μ') [oj_cw μ'], w ∈ lwG) (g1 : (x.cls ≠ "java/lang/invoke/MethodHandle" ∧ x.cls ≠ "java/lang/invoke/VarHandle" ∧ (parseMethodDescriptor x.desc).map (fun d => d.parameters.length) = some na)) (g4 : mL μ' ≤ 21) (hH : mH μ' = []) (h0 : Cond.code ⟨x.cls, x.name, x.desc⟩ b0 m0 r0 ∈ lwG) (hd : Nat.ble (d' + 1) d = true) (hcat : Nat.ble ((rest.map fun v => v.category).sum) 8 = true)
    (hM : JM μ' d' mc' ms' (.ref a :: As) h Q') (hmc : k + mc' ≤ mc) (hms : n + ms' ≤ ms) (hal : oj_hal μ μ' rest ls h)
    (kx : ∀ (E : String) (h' : AHp), ¬ Q' (.inr E) h')
    (kr : ∀ (v : Option Value) (h' : AHp), Q' (.inl v) h' → J μ d mc ms Q (k + mc') (n + ms') nx ls (v.toList ++ rest) h') (hna : As.length = na := by rfl) : J μ d mc ms Q k n pc ls st h := by
  subst hna
  intro p l e R s m args below meth c1 A D tyA adK adV b scr ad0 L0 Qc C ad L H locs lsc ho hW hS hL
  obtain ⟨hx, hb, hg, hml, hown, hts, hlocks, -, hK, hSt, -, hls, ⟨hR1, hR2, hR3, hR4⟩, -⟩ := id C
  obtain ⟨hdc, hl, hn, -, -⟩ := oj_okE_spec (hg pc _ he)
  obtain rfl : len = 3 := of_decide_eq_true hl
  subst hn
  have hcode : oj_cw μ' = .code (mY μ') (mC μ') (mL μ') (mR μ') := by unfold oj_cw; rw [hH]
  have hd1 := Nat.le_of_ble_eq_true hd
  have hRR : (oj_rm d' mc' ms').frames + 1 ≤ R.frames ∧ 8 + (mL μ' + 11) + (oj_rm d' mc' ms').locals ≤ R.locals := ⟨by show d' + 1 ≤ _; omega, by show 8 + (mL μ' + 11) + 40 * d' ≤ _; omega⟩
  have hWr : 2 * (F0 m pc lsc (st.map (oj_v ad))).monitorRoom + ((rest.map (oj_v ad)).map fun v => v.category).sum ≤ 8 := lv_room (by rw [List.map_map]; simpa [Function.comp_def, oj_v_cat] using Nat.le_of_ble_eq_true hcat)
  obtain ⟨hst, -⟩ := oj_spV_eq hsp
  have hstk : (F0 m pc lsc (st.map (oj_v ad))).stack = (As.map (oj_v ad)).reverse ++ .ref (ad a) :: rest.map (oj_v ad) := by show st.map (oj_v ad) = _; rw [hst]; simp [oj_v]
  have hpp := oj_pre C hW hS (.ref a :: As)
  obtain ⟨i9, hi9, hw9⟩ := oj_idx hW (a := a) (by rw [ha]; exact oj_inr_ne (Nat.le_of_ble_eq_true hci)) (by rw [ha]; intro N9 y9 z; cases z)
  rw [ha] at hw9
  obtain ⟨r9, hr9⟩ : ∃ r9 : vw_C, vwCl[ci]? = some r9 := by
    obtain ⟨q', h1, -⟩ := hW.1 i9 _ hw9
    exact ⟨q', h1⟩
  have hrc := va_recv hK hW.1 hr9 hw9
  have hC9 : r9.1 = oj_hc ci := by
    obtain ⟨C9, T9, N9⟩ := r9
    exact (oj_cl_ok hr9).2.2.2.2.1
  rw [hC9] at hrc
  have hG : GoodIn lwG (va_wsO (oj_cls (mO μ)) idx (oj_hc ci) x.cls x (mY μ') (oj_cw μ' :: lwG)) := oj_gw hw
  have hr := vx_runU (e := e) (below := below) (meth := meth) (locs := locs) (As := As.map (oj_v ad)) (rest := rest.map (oj_v ad)) (b := ad a) (g := F0 m pc lsc (st.map (oj_v ad))) (x := x) (owner := x.cls) ⟨hx, hb, hml, hown, hts⟩ (hM l hls D tyA adK adV b scr ad L H.size) (va_cwO As.length hts hG (by rw [hcode]) rfl rfl h0 g1 hRR) ⟨oj_blind, hrc, hpp⟩ rfl (List.length_map _) hL.1 hstk hWr hdc ⟨Nat.le_trans hmc hR3, Nat.le_trans hms hR4⟩
  exact oj_back C ho hW hS hL hr hal hmc hms kr (fun E h' hh => absurd hh (kx E h'))
/-- super.m(..) -/
theorem J_dP {μ' : MI} {idx d' mc' ms' na ci a : Nat} {As rest : List Value} {Q' : QT} {fs : List Value} (he : mT μ pc = some (.invokespecial idx, len, nx, c, t)) (hsp : oj_spV st As.length = some (As, a, rest)) (ha : h a = .inr (ci, fs)) (hci : Nat.blt ci 8 = true) (hw : ∀ w ∈ va_wsSU (oj_cls (mO μ)) idx (mY μ') [oj_cw μ'], w ∈ lwG) (g1 : (mY μ').name ≠ "<init>" ∧ (parseMethodDescriptor (mY μ').desc).map (fun d => d.parameters.length) = some na) (g4 : mL μ' ≤ 21) (hH : mH μ' = []) (hd : Nat.ble (d' + 1) d = true) (hcat : Nat.ble ((rest.map fun v => v.category).sum) 8 = true)
    (hM : JM μ' d' mc' ms' (.ref a :: As) h Q') (hmc : k + mc' ≤ mc) (hms : n + ms' ≤ ms) (hal : oj_hal μ μ' rest ls h)
    (kx : ∀ (E : String) (h' : AHp), ¬ Q' (.inr E) h')
    (kr : ∀ (v : Option Value) (h' : AHp), Q' (.inl v) h' → J μ d mc ms Q (k + mc') (n + ms') nx ls (v.toList ++ rest) h') (hna : As.length = na := by rfl) : J μ d mc ms Q k n pc ls st h := by
  subst hna
  intro p l e R s m args below meth c1 A D tyA adK adV b scr ad0 L0 Qc C ad L H locs lsc ho hW hS hL
  obtain ⟨hx, hb, hg, hml, hown, hts, hlocks, -, hK, hSt, -, hls, ⟨hR1, hR2, hR3, hR4⟩, -⟩ := id C
  obtain ⟨hdc, hl, hn, -, -⟩ := oj_okE_spec (hg pc _ he)
  obtain rfl : len = 3 := of_decide_eq_true hl
  subst hn
  have hcode : oj_cw μ' = .code (mY μ') (mC μ') (mL μ') (mR μ') := by unfold oj_cw; rw [hH]
  have hd1 := Nat.le_of_ble_eq_true hd
  have hRR : (oj_rm d' mc' ms').frames + 1 ≤ R.frames ∧ 8 + (mL μ' + 11) + (oj_rm d' mc' ms').locals ≤ R.locals := ⟨by show d' + 1 ≤ _; omega, by show 8 + (mL μ' + 11) + 40 * d' ≤ _; omega⟩
  have hWr : 2 * (F0 m pc lsc (st.map (oj_v ad))).monitorRoom + ((rest.map (oj_v ad)).map fun v => v.category).sum ≤ 8 := lv_room (by rw [List.map_map]; simpa [Function.comp_def, oj_v_cat] using Nat.le_of_ble_eq_true hcat)
  obtain ⟨hst, -⟩ := oj_spV_eq hsp
  have hstk : (F0 m pc lsc (st.map (oj_v ad))).stack = (As.map (oj_v ad)).reverse ++ .ref (ad a) :: rest.map (oj_v ad) := by show st.map (oj_v ad) = _; rw [hst]; simp [oj_v]
  have hpp := oj_pre C hW hS (.ref a :: As)
  obtain ⟨i9, hi9, hw9⟩ := oj_idx hW (a := a) (by rw [ha]; exact oj_inr_ne (Nat.le_of_ble_eq_true hci)) (by rw [ha]; intro N9 y9 z; cases z)
  rw [ha] at hw9
  obtain ⟨r9, hr9⟩ : ∃ r9 : vw_C, vwCl[ci]? = some r9 := by
    obtain ⟨q', h1, -⟩ := hW.1 i9 _ hw9
    exact ⟨q', h1⟩
  have hrc := va_recv hK hW.1 hr9 hw9
  have hC9 : r9.1 = oj_hc ci := by
    obtain ⟨C9, T9, N9⟩ := r9
    exact (oj_cl_ok hr9).2.2.2.2.1
  rw [hC9] at hrc
  have hG : GoodIn lwG (va_wsSU (oj_cls (mO μ)) idx (mY μ') (oj_cw μ' :: lwG)) := oj_gw hw
  have hat : ClassAt s (oj_hc ci) (D.1 ci) := by rw [← hC9]; exact (hK.1 ci r9 hr9).2
  have hr := vx_runSU (e := e) (below := below) (meth := meth) (locs := locs) (As := As.map (oj_v ad)) (rest := rest.map (oj_v ad)) (b := ad a) (g := F0 m pc lsc (st.map (oj_v ad))) (C := oj_hc ci) hat ⟨hx, hb, hml, hown, hts⟩ (hM l hls D tyA adK adV b scr ad L H.size) (va_cwSU As.length hts hG (by rw [hcode]) rfl rfl g1 hRR) ⟨oj_blind, hrc, hpp⟩ rfl (List.length_map _) hL.1 hstk hWr hdc ⟨Nat.le_trans hmc hR3, Nat.le_trans hms hR4⟩
  exact oj_back C ho hW hS hL hr hal hmc hms kr (fun E h' hh => absurd hh (kx E h'))
/-- a constructor -/
theorem J_dI {μ' : MI} {idx d' mc' ms' na a : Nat} {As rest : List Value} {Q' : QT} (he : mT μ pc = some (.invokespecial idx, len, nx, c, t)) (hsp : oj_spV st As.length = some (As, a, rest)) (hw : ∀ w ∈ [Cond.methodLink (oj_cls (mO μ)) idx (mY μ'), .instanceMethod (mY μ'), .initialized (mY μ').cls] ++ [oj_cw μ'], w ∈ lwG) (g1 : ((mY μ').cls ≠ "java/lang/invoke/MethodHandle" ∧ (mY μ').cls ≠ "java/lang/invoke/VarHandle" ∧ (parseMethodDescriptor (mY μ').desc).map (fun d => d.parameters.length) = some na)) (g4 : mL μ' ≤ 21) (hH : mH μ' = []) (hni : (mY μ').name = "<init>") (hrt : mR μ' = none) (hd : Nat.ble (d' + 1) d = true) (hcat : Nat.ble ((rest.map fun v => v.category).sum) 8 = true)
    (hM : JM μ' d' mc' ms' (.ref a :: As) h Q') (hmc : k + mc' ≤ mc) (hms : n + ms' ≤ ms) (hal : oj_hal μ μ' rest ls h)
    (kx : ∀ (E : String) (h' : AHp), ¬ Q' (.inr E) h')
    (kr : ∀ (v : Option Value) (h' : AHp), Q' (.inl v) h' → J μ d mc ms Q (k + mc') (n + ms') nx ls (v.toList ++ rest) h') (hna : As.length = na := by rfl) : J μ d mc ms Q k n pc ls st h := by
  subst hna
  intro p l e R s m args below meth c1 A D tyA adK adV b scr ad0 L0 Qc C ad L H locs lsc ho hW hS hL
  obtain ⟨hx, hb, hg, hml, hown, hts, hlocks, -, hK, hSt, -, hls, ⟨hR1, hR2, hR3, hR4⟩, -⟩ := id C
  obtain ⟨hdc, hl, hn, -, -⟩ := oj_okE_spec (hg pc _ he)
  obtain rfl : len = 3 := of_decide_eq_true hl
  subst hn
  have hcode : oj_cw μ' = .code (mY μ') (mC μ') (mL μ') (mR μ') := by unfold oj_cw; rw [hH]
  have hd1 := Nat.le_of_ble_eq_true hd
  have hRR : (oj_rm d' mc' ms').frames + 1 ≤ R.frames ∧ 8 + (mL μ' + 11) + (oj_rm d' mc' ms').locals ≤ R.locals := ⟨by show d' + 1 ≤ _; omega, by show 8 + (mL μ' + 11) + 40 * d' ≤ _; omega⟩
  have hWr : 2 * (F0 m pc lsc (st.map (oj_v ad))).monitorRoom + ((rest.map (oj_v ad)).map fun v => v.category).sum ≤ 8 := lv_room (by rw [List.map_map]; simpa [Function.comp_def, oj_v_cat] using Nat.le_of_ble_eq_true hcat)
  obtain ⟨hst, -⟩ := oj_spV_eq hsp
  have hstk : (F0 m pc lsc (st.map (oj_v ad))).stack = (As.map (oj_v ad)).reverse ++ .ref (ad a) :: rest.map (oj_v ad) := by show st.map (oj_v ad) = _; rw [hst]; simp [oj_v]
  have hpp := oj_pre C hW hS (.ref a :: As)
  have hG := oj_gw hw
  have hcode' : oj_cw μ' = .code (mY μ') (mC μ') (mL μ') none := by rw [hcode, hrt]
  have hr := vx_runI (e := e) (below := below) (meth := meth) (locs := locs) (As := As.map (oj_v ad)) (rest := rest.map (oj_v ad)) (b := ad a) (g := F0 m pc lsc (st.map (oj_v ad))) ⟨hx, hb, hml, hown, hts⟩ (hM l hls D tyA adK adV b scr ad L H.size) ⟨callB_of As.length hts (fun w q => hG w (List.mem_append_right _ q)) (by rw [hcode']) rfl rfl (hts _ (hG _ (by simp)).1) (hts _ (hG _ (by simp)).1) g1 hRR, hni, hts _ (hG _ (by simp)).1⟩ ⟨oj_blind, hpp⟩ rfl (List.length_map _) hL.1 hstk hWr hdc ⟨Nat.le_trans hmc hR3, Nat.le_trans hms hR4⟩
  exact oj_back C ho hW hS hL hr hal hmc hms kr (fun E h' hh => absurd hh (kx E h'))
/-- a static method -/
theorem J_dS {μ' : MI} {idx d' mc' ms' na  : Nat} {As rest : List Value} {Q' : QT} (he : mT μ pc = some (.invokestatic idx, len, nx, c, t)) (hsp : oj_spS st As.length = some (As, rest)) (hw : ∀ w ∈ va_wsS (oj_cls (mO μ)) idx (mY μ') [oj_cw μ'], w ∈ lwG) (g1 : ((mY μ').cls ≠ "java/lang/invoke/MethodHandle" ∧ (mY μ').cls ≠ "java/lang/invoke/VarHandle" ∧ (parseMethodDescriptor (mY μ').desc).map (fun d => d.parameters.length) = some na)) (g4 : mL μ' ≤ 21) (hH : mH μ' = []) (hd : Nat.ble (d' + 1) d = true) (hcat : Nat.ble ((rest.map fun v => v.category).sum) 8 = true)
    (hM : JM μ' d' mc' ms' As h Q') (hmc : k + mc' ≤ mc) (hms : n + ms' ≤ ms) (hal : oj_hal μ μ' rest ls h)
    (kx : ∀ (E : String) (h' : AHp), ¬ Q' (.inr E) h')
    (kr : ∀ (v : Option Value) (h' : AHp), Q' (.inl v) h' → J μ d mc ms Q (k + mc') (n + ms') nx ls (v.toList ++ rest) h') (hna : As.length = na := by rfl) : J μ d mc ms Q k n pc ls st h := by
  subst hna
  intro p l e R s m args below meth c1 A D tyA adK adV b scr ad0 L0 Qc C ad L H locs lsc ho hW hS hL
  obtain ⟨hx, hb, hg, hml, hown, hts, hlocks, -, hK, hSt, -, hls, ⟨hR1, hR2, hR3, hR4⟩, -⟩ := id C
  obtain ⟨hdc, hl, hn, -, -⟩ := oj_okE_spec (hg pc _ he)
  obtain rfl : len = 3 := of_decide_eq_true hl
  subst hn
  have hcode : oj_cw μ' = .code (mY μ') (mC μ') (mL μ') (mR μ') := by unfold oj_cw; rw [hH]
  have hd1 := Nat.le_of_ble_eq_true hd
  have hRR : (oj_rm d' mc' ms').frames + 1 ≤ R.frames ∧ 8 + (mL μ' + 11) + (oj_rm d' mc' ms').locals ≤ R.locals := ⟨by show d' + 1 ≤ _; omega, by show 8 + (mL μ' + 11) + 40 * d' ≤ _; omega⟩
  have hWr : 2 * (F0 m pc lsc (st.map (oj_v ad))).monitorRoom + ((rest.map (oj_v ad)).map fun v => v.category).sum ≤ 8 := lv_room (by rw [List.map_map]; simpa [Function.comp_def, oj_v_cat] using Nat.le_of_ble_eq_true hcat)
  obtain ⟨hst, -⟩ := oj_spS_eq hsp
  have hpp := oj_pre C hW hS As
  have hstk : (F0 m pc lsc (st.map (oj_v ad))).stack = (As.map (oj_v ad)).reverse ++ rest.map (oj_v ad) := by show st.map (oj_v ad) = _; rw [hst]; simp
  have hG : GoodIn lwG (va_wsS (oj_cls (mO μ)) idx (mY μ') (oj_cw μ' :: lwG)) := oj_gw hw
  have hr := vx_runS (e := e) (below := below) (meth := meth) (locs := locs) (As := As.map (oj_v ad)) (rest := rest.map (oj_v ad)) (g := F0 m pc lsc (st.map (oj_v ad))) ⟨hx, hb, hml, hown, hts⟩ (hM l hls D tyA adK adV b scr ad L H.size) (va_cwS As.length hts hG (by rw [hcode]) rfl rfl g1 hRR) ⟨oj_blind, hpp⟩ rfl (List.length_map _) hL.1 hstk hWr hdc ⟨Nat.le_trans hmc hR3, Nat.le_trans hms hR4⟩
  exact oj_back C ho hW hS hL hr hal hmc hms kr (fun E h' hh => absurd hh (kx E h'))
theorem J_gf {a idx ci k0 : Nat} {fs : List Value} {v : Value} (he : mT μ pc = some (.getfield idx, len, nx, c, t)) (hf : ∃ (C : String) (T : u_T) (N : Nat), vwCl[ci]? = some (C, T, N) ∧ k0 < N ∧ Cond.fieldLink (oj_cls (mO μ)) idx (T k0).1 (T k0).2.1 (T k0).2.2.1 ∈ lwG) (ha : h a = .inr (ci, fs)) (hv : fs[k0]? = some v) (kk : J μ d mc ms Q k n nx ls (v :: st) h) : J μ d mc ms Q k n pc ls (.ref a :: st) h := by
  intro p l e R s m args below meth c1 A D tyA adK adV b scr ad0 L0 Qc C ad L H locs lsc ho hW hS hL
  obtain ⟨hx, hb, hg, hml, hown, hts, -, hin2, hK, -⟩ := id C
  obtain ⟨hd, hl, hn, hc, ht⟩ := oj_okE_spec (hg pc _ he)
  obtain rfl : len = 3 := of_decide_eq_true hl
  subst hn
  obtain ⟨CC, T, N, hcl, hk0, hw⟩ := hf
  obtain ⟨hin, hty, hnm, h7, hCC, hT1⟩ := oj_cl_ok hcl
  obtain ⟨i9, hi9, hw9⟩ := oj_idx hW (a := a) (by rw [ha]; exact oj_inr_ne h7) (by rw [ha]; intro N9 y9 z; cases z)
  rw [ha] at hw9
  have KK := kk p l e R s m args below meth c1 A D tyA adK adV b scr ad0 L0 Qc C ad L H locs lsc ho hW hS hL
  exact va_get hx hb hts hin hown hK hW.1 i9 hw9 hcl k0 hk0 (hts _ hw) (fun _ h9 => h9) (by show (fs.map (oj_v ad))[k0]? = _; rw [List.getElem?_map, hv]; rfl) hd KK
theorem J_pf {a idx ci k0 : Nat} {fs : List Value} {v : Value} (he : mT μ pc = some (.putfield idx, len, nx, c, t)) (hf : ∃ (C : String) (T : u_T) (N : Nat), vwCl[ci]? = some (C, T, N) ∧ k0 < N ∧ Cond.fieldLink (oj_cls (mO μ)) idx (T k0).1 (T k0).2.1 (T k0).2.2.1 ∈ lwG) (ha : h a = .inr (ci, fs)) (hl0 : Nat.blt k0 fs.length = true) (hnf : (vwCl[ci]?.map fun r => (r.2.1 k0).2.2.2) = some false) (hr : ∀ ad, narrow (oj_ty ci k0) (oj_v ad v) = oj_v ad v ∧ fits (oj_ty ci k0) (oj_v ad v) = true) (kk : J μ d mc ms Q k n nx ls st (oj_up h a (.inr (ci, fs.set k0 v)))) : J μ d mc ms Q k n pc ls (v :: .ref a :: st) h := by
  intro p l e R s m args below meth c1 A D tyA adK adV b scr ad0 L0 Qc C ad L H locs lsc ho hW hS hL
  obtain ⟨hx, hb, hg, hml, hown, hts, -, hin2, hK, -⟩ := id C
  obtain ⟨hd, hl, hn, hc, ht⟩ := oj_okE_spec (hg pc _ he)
  obtain rfl : len = 3 := of_decide_eq_true hl
  subst hn
  obtain ⟨CC, T, N, hcl, hk0, hw⟩ := hf
  obtain ⟨hin, hty, hnm, h7, hCC, hT1⟩ := oj_cl_ok hcl
  obtain ⟨i9, hi9, hw9⟩ := oj_idx hW (a := a) (by rw [ha]; exact oj_inr_ne h7) (by rw [ha]; intro N9 y9 z; cases z)
  rw [ha] at hw9
  have hnf' : (T k0).2.2.2 = false := by rw [hcl] at hnf; exact Option.some.inj hnf
  have hset : (.inr (ci, (fs.map (oj_v ad)).set k0 (oj_v ad v)) : va_E) = oj_c ad tyA (.inr (ci, fs.set k0 v)) := by rw [oj_map_set]; rfl
  refine va_put hx hb hts hin (oj_ty ci) hty hnm hown hK hW.1 hW.2.1 hS i9 hw9 hcl k0 hk0 (hts _ hw) (fun _ h9 => h9) hnf' (hty k0 hk0) (hr ad).1 (hr ad).2 (by rw [List.length_map]; exact Nat.le_of_ble_eq_true hl0) hd (fun H1 locs1 hP1 hD1 hS1 => ?_)
  rw [hset] at hP1 hD1
  exact kk p l e R s m args below meth c1 A D tyA adK adV b scr ad0 L0 Qc C ad L H1 locs1 lsc ho (oj_W.put hW hi9 (oj_inr_ne h7) hP1 hD1) hS1 hL
theorem J_pF {a idx ci k0 : Nat} {fs : List Value} {v : Value} (he : mT μ pc = some (.putfield idx, len, nx, c, t)) (hf : ∃ (C : String) (T : u_T) (N : Nat), vwCl[ci]? = some (C, T, N) ∧ k0 < N ∧ Cond.fieldLink (oj_cls (mO μ)) idx (T k0).1 (T k0).2.1 (T k0).2.2.1 ∈ lwG) (ha : h a = .inr (ci, fs)) (hl0 : Nat.blt k0 fs.length = true) (hnf : (vwCl[ci]?.map fun r => (r.2.1 k0).2.2.2) = some true) (hini : (mY μ).name = "<init>") (hoc : ∀ T, (vwCl[ci]?.map fun r => (r.2.1 k0).1) = some T → T = oj_cls (mO μ)) (hr : ∀ ad, narrow (oj_ty ci k0) (oj_v ad v) = oj_v ad v ∧ fits (oj_ty ci k0) (oj_v ad v) = true) (kk : J μ d mc ms Q k n nx ls st (oj_up h a (.inr (ci, fs.set k0 v)))) : J μ d mc ms Q k n pc ls (v :: .ref a :: st) h := by
  intro p l e R s m args below meth c1 A D tyA adK adV b scr ad0 L0 Qc C ad L H locs lsc ho hW hS hL
  obtain ⟨hx, hb, hg, hml, hown, hts, -, hin2, hK, -⟩ := id C
  obtain ⟨hd, hl, hn, hc, ht⟩ := oj_okE_spec (hg pc _ he)
  obtain rfl : len = 3 := of_decide_eq_true hl
  subst hn
  obtain ⟨CC, T, N, hcl, hk0, hw⟩ := hf
  obtain ⟨hin, hty, hnm, h7, hCC, hT1⟩ := oj_cl_ok hcl
  obtain ⟨i9, hi9, hw9⟩ := oj_idx hW (a := a) (by rw [ha]; exact oj_inr_ne h7) (by rw [ha]; intro N9 y9 z; cases z)
  rw [ha] at hw9
  have hnf' : (T k0).2.2.2 = true := by rw [hcl] at hnf; exact Option.some.inj hnf
  have hset : (.inr (ci, (fs.map (oj_v ad)).set k0 (oj_v ad v)) : va_E) = oj_c ad tyA (.inr (ci, fs.set k0 v)) := by rw [oj_map_set]; rfl
  refine va_putF hx hb hts hin (oj_ty ci) hty hnm hown hK hW.1 hW.2.1 hS i9 hw9 hcl k0 hk0 (hts _ hw) (fun _ h9 => h9) hnf' (hin2 hini) (hoc _ (by rw [hcl]; rfl)) (hty k0 hk0) (hr ad).1 (hr ad).2 (by rw [List.length_map]; exact Nat.le_of_ble_eq_true hl0) hd (fun H1 locs1 hP1 hD1 hS1 => ?_)
  rw [hset] at hP1 hD1
  exact kk p l e R s m args below meth c1 A D tyA adK adV b scr ad0 L0 Qc C ad L H1 locs1 lsc ho (oj_W.put hW hi9 (oj_inr_ne h7) hP1 hD1) hS1 hL
theorem J_aret {a : Nat} (he : mT μ pc = some (.areturn, len, nx, c, t)) (hr : (match mR μ with | some (.object _) => true | some (.array _) => true | _ => false) = true) (hk : k ≤ mc) (hn : n ≤ ms) (hq : Q (.inl (some (.ref a))) h) : J μ d mc ms Q k n pc ls [.ref a] h :=
  J_ret (v := some (.ref a)) he hr hk hn hq rfl
theorem J_gsC {idx : Nat} (he : mT μ pc = some (.getstatic idx, len, nx, c, t)) (hw : Cond.fieldLink (oj_cls (mO μ)) idx RJ0 "COMPACT_STRINGS" "Z" ∈ lwG) (kk : J μ d mc ms Q k n nx ls (.int 1 :: st) h) : J μ d mc ms Q k n pc ls st h := by
  intro p l e R s m args below meth c1 A D tyA adK adV b scr ad0 L0 Qc C ad L H locs lsc ho hW hS hL
  obtain ⟨hx, hb, hg, hml, hown, hts, hlocks, -, hK, hSt, hA, -, ⟨hR1, hR2, hR3, hR4⟩, -⟩ := id C
  obtain ⟨hd, hl, hn, hc, ht⟩ := oj_okE_spec (hg pc _ he)
  obtain rfl : len = 3 := of_decide_eq_true hl
  subst hn
  exact va_gets hx hb hSt.2.2.2.2.2.2.2.2.1 hS hown (hts _ hw) (fun _ h => h) hd (kk p l e R s m args below meth c1 A D tyA adK adV b scr ad0 L0 Qc C ad L H locs lsc ho hW hS hL)
theorem J_gsO {idx : Nat} (he : mT μ pc = some (.getstatic idx, len, nx, c, t)) (hw : Cond.fieldLink (oj_cls (mO μ)) idx RJ6 "DigitOnes" "[B" ∈ lwG) (kk : J μ d mc ms Q k n nx ls (.ref (oj_sa 3000) :: st) h) : J μ d mc ms Q k n pc ls st h := by
  intro p l e R s m args below meth c1 A D tyA adK adV b scr ad0 L0 Qc C ad L H locs lsc ho hW hS hL
  obtain ⟨hx, hb, hg, hml, hown, hts, hlocks, -, hK, hSt, hA, -, ⟨hR1, hR2, hR3, hR4⟩, -⟩ := id C
  obtain ⟨hd, hl, hn, hc, ht⟩ := oj_okE_spec (hg pc _ he)
  obtain rfl : len = 3 := of_decide_eq_true hl
  subst hn
  have K := kk p l e R s m args below meth c1 A D tyA adK adV b scr ad0 L0 Qc C ad L H locs lsc ho hW hS hL
  rw [List.map_cons, oj_vl hW] at K
  exact va_gets hx hb hSt.2.2.2.2.2.2.2.2.2.2.2.2.1.1 hS hown (hts _ hw) (fun _ h => h) hd K
theorem J_gsT {idx : Nat} (he : mT μ pc = some (.getstatic idx, len, nx, c, t)) (hw : Cond.fieldLink (oj_cls (mO μ)) idx RJ6 "DigitTens" "[B" ∈ lwG) (kk : J μ d mc ms Q k n nx ls (.ref (oj_sa 3001) :: st) h) : J μ d mc ms Q k n pc ls st h := by
  intro p l e R s m args below meth c1 A D tyA adK adV b scr ad0 L0 Qc C ad L H locs lsc ho hW hS hL
  obtain ⟨hx, hb, hg, hml, hown, hts, hlocks, -, hK, hSt, hA, -, ⟨hR1, hR2, hR3, hR4⟩, -⟩ := id C
  obtain ⟨hd, hl, hn, hc, ht⟩ := oj_okE_spec (hg pc _ he)
  obtain rfl : len = 3 := of_decide_eq_true hl
  subst hn
  have K := kk p l e R s m args below meth c1 A D tyA adK adV b scr ad0 L0 Qc C ad L H locs lsc ho hW hS hL
  rw [List.map_cons, oj_vl hW] at K
  exact va_gets hx hb hSt.2.2.2.2.2.2.2.2.2.2.2.2.2.1 hS hown (hts _ hw) (fun _ h => h) hd K
theorem J_bldO {j : Nat} (hj : j < 100) (he : mT μ pc = some (.baload, len, nx, c, t)) (kk : J μ d mc ms Q k n nx ls (.int (nI (48 + j % 10)) :: st) h) : J μ d mc ms Q k n pc ls (.int (nI j) :: .ref (oj_sa 3000) :: st) h := by
  intro p l e R s m args below meth c1 A D tyA adK adV b scr ad0 L0 Qc C ad L H locs lsc ho hW hS hL
  obtain ⟨hx, hb, hg, hml, hown, hts, hlocks, -, hK, hSt, hA, -, ⟨hR1, hR2, hR3, hR4⟩, -⟩ := id C
  obtain ⟨hd, hl, hn, hc, ht⟩ := oj_okE_spec (hg pc _ he)
  obtain rfl : len = 1 := of_decide_eq_true hl
  subst hn
  have K := kk p l e R s m args below meth c1 A D tyA adK adV b scr ad0 L0 Qc C ad L H locs lsc ho hW hS hL
  rw [List.map_cons, List.map_cons, oj_vl hW]
  exact va_tb hx hb hSt.2.2.2.2.2.2.2.2.2.2.2.2.1.2 hS (vp_in_nI hj (by omega)) (by rw [nI_clamp (by omega)]; rfl) hd K
theorem J_bldT {j : Nat} (hj : j < 100) (he : mT μ pc = some (.baload, len, nx, c, t)) (kk : J μ d mc ms Q k n nx ls (.int (nI (48 + j / 10)) :: st) h) : J μ d mc ms Q k n pc ls (.int (nI j) :: .ref (oj_sa 3001) :: st) h := by
  intro p l e R s m args below meth c1 A D tyA adK adV b scr ad0 L0 Qc C ad L H locs lsc ho hW hS hL
  obtain ⟨hx, hb, hg, hml, hown, hts, hlocks, -, hK, hSt, hA, -, ⟨hR1, hR2, hR3, hR4⟩, -⟩ := id C
  obtain ⟨hd, hl, hn, hc, ht⟩ := oj_okE_spec (hg pc _ he)
  obtain rfl : len = 1 := of_decide_eq_true hl
  subst hn
  have K := kk p l e R s m args below meth c1 A D tyA adK adV b scr ad0 L0 Qc C ad L H locs lsc ho hW hS hL
  rw [List.map_cons, List.map_cons, oj_vl hW]
  exact va_tb hx hb hSt.2.2.2.2.2.2.2.2.2.2.2.2.2.2 hS (vp_in_nI hj (by omega)) (by rw [nI_clamp (by omega)]; rfl) hd K
set_option maxRecDepth 100000 in
theorem sb_byt' : ∀ q, q < 32 → ∀ j, j < 100 → fits .byte (.int ((oj_byt.getD q []).getD j 0)) = true := by decide +kernel
theorem sb_lens : ∀ q, q < 32 → (oj_byt.getD q []).length < 100 := by decide +kernel
theorem sb_byt (q : Nat) (hq : q < 32) : ∀ j, fits .byte (.int ((oj_byt.getD q []).getD j 0)) = true := by
  intro j
  rcases Nat.lt_or_ge j 100 with h | h
  · exact sb_byt' q hq j h
  · have := sb_lens q hq
    rw [List.getD_eq_getElem?_getD, List.getElem?_eq_none (by omega)]
    rfl
theorem J_cpy {a a0 idx sp dp w n0 n1 : Nat} {f g : Nat → Int32} (he : mT μ pc = some (.invokestatic idx, len, nx, c, t)) (ha0 : h a0 = .inl (2, n0, .inl f)) (hf : sb_Fit f) (ha : h a = .inl (2, n1, .inl g)) (h4 : sp + w ≤ n0) (h5 : dp + w ≤ n1) (hn0 : n0 < 2 ^ 31) (hn1 : n1 < 2 ^ 31) (hw : Cond.methodLink (oj_cls (mO μ)) idx arraycopyName ∈ lwG) (hd1 : Nat.ble 2 d = true) (hcat : Nat.ble ((st.map fun v => v.category).sum) 8 = true) (kk : J μ d mc ms Q k n nx ls st (oj_up h a (.inl (2, n1, .inl (va_cpy f g sp dp w))))) : J μ d mc ms Q k n pc ls (.int (nI w) :: .int (nI dp) :: .ref a :: .int (nI sp) :: .ref a0 :: st) h := by
  intro p l e R s m args below meth c1 A D tyA adK adV b scr ad0 L0 Qc C ad L H locs lsc ho hW hS hL
  obtain ⟨hx, hb, hg, hml, hown, hts, hlocks, -, hK, hSt, hA, -, ⟨hR1, hR2, hR3, hR4⟩, -⟩ := id C
  obtain ⟨hd, hl, hn, hc, ht⟩ := oj_okE_spec (hg pc _ he)
  obtain rfl : len = 3 := of_decide_eq_true hl
  subst hn
  have hd2 := Nat.le_of_ble_eq_true hd1
  have hsum : ((st.map (oj_v ad)).map fun v => v.category).sum ≤ 8 := by rw [List.map_map]; simpa [Function.comp_def, oj_v_cat] using Nat.le_of_ble_eq_true hcat
  have h9 : nativeFrameWords "java/lang/System" "arraycopy" 5 + 11 ≤ 60 := by decide +kernel
  obtain ⟨i9, hi9, hw9⟩ := oj_idx hW (a := a) (by rw [ha]; intro z; cases z) (by rw [ha]; intro N9 y9 z; cases z)
  rw [ha] at hw9
  obtain ⟨i8, hi8, hw8⟩ := oj_idx hW (a := a0) (by rw [ha0]; intro z; cases z) (by rw [ha0]; intro N9 y9 z; cases z)
  rw [ha0] at hw8
  have KK := fun H1 locs1 hW1 hS1 => kk p l e R s m args below meth c1 A D tyA adK adV b scr ad0 L0 Qc C ad L H1 locs1 lsc ho hW1 hS1 hL
  refine va_copyi hx hb (hml.trans hL.1.symm) hown (hts _ hw) (hts _ (by decide +kernel)) (hts _ (by decide +kernel)) (hts _ (by decide +kernel)) hK hW.1 hW.2.1 hS i8 i9 2 2 hw8 hw9 rfl rfl rfl (nI_pos (by omega)) (nI_pos (by omega)) (nI_pos (by omega)) (by rw [nI_clamp (by omega), nI_clamp (by omega)]; exact h4) (by rw [nI_clamp (by omega), nI_clamp (by omega)]; exact h5) (fun i _ => hf _) (by omega) (by omega) hd (fun H1 locs1 hP1 hD1 hS1 => ?_)
  rw [nI_clamp (n := sp) (by omega), nI_clamp (n := dp) (by omega), nI_clamp (n := w) (by omega)] at hP1 hD1
  exact KK H1 locs1 (oj_W.put hW hi9 (by intro z; cases z) hP1 hD1) hS1
theorem J_cpyK {a q idx sp dp w n0 n1 : Nat} {g : Nat → Int32} (he : mT μ pc = some (.invokestatic idx, len, nx, c, t)) (hq : q < 32) (hq0 : oj_len.getD q 0 = n0) (ha : h a = .inl (2, n1, .inl g)) (h4 : sp + w ≤ n0) (h5 : dp + w ≤ n1) (hn0 : n0 < 2 ^ 31) (hn1 : n1 < 2 ^ 31) (hw : Cond.methodLink (oj_cls (mO μ)) idx arraycopyName ∈ lwG) (hd1 : Nat.ble 2 d = true) (hcat : Nat.ble ((st.map fun v => v.category).sum) 8 = true) (kk : J μ d mc ms Q k n nx ls st (oj_up h a (.inl (2, n1, .inl (va_cpy (fun j => (oj_byt.getD q []).getD j 0) g sp dp w))))) : J μ d mc ms Q k n pc ls (.int (nI w) :: .int (nI dp) :: .ref a :: .int (nI sp) :: .ref (oj_sa (1000 + q)) :: st) h := by
  intro p l e R s m args below meth c1 A D tyA adK adV b scr ad0 L0 Qc C ad L H locs lsc ho hW hS hL
  obtain ⟨hx, hb, hg, hml, hown, hts, hlocks, -, hK, hSt, hA, -, ⟨hR1, hR2, hR3, hR4⟩, -⟩ := id C
  obtain ⟨hd, hl, hn, hc, ht⟩ := oj_okE_spec (hg pc _ he)
  obtain rfl : len = 3 := of_decide_eq_true hl
  subst hn
  have hd2 := Nat.le_of_ble_eq_true hd1
  have hsum : ((st.map (oj_v ad)).map fun v => v.category).sum ≤ 8 := by rw [List.map_map]; simpa [Function.comp_def, oj_v_cat] using Nat.le_of_ble_eq_true hcat
  have h9 : nativeFrameWords "java/lang/System" "arraycopy" 5 + 11 ≤ 60 := by decide +kernel
  obtain ⟨i9, hi9, hw9⟩ := oj_idx hW (a := a) (by rw [ha]; intro z; cases z) (by rw [ha]; intro N9 y9 z; cases z)
  rw [ha] at hw9
  have hT := (hSt.1.1 q hq).2.2.2
  rw [hq0] at hT
  have hv := hSt.2.2.2.2.2.2.2.2.2.2.1 q hq
  have hbf := sb_byt q hq
  have KK := fun H1 locs1 hW1 hS1 => kk p l e R s m args below meth c1 A D tyA adK adV b scr ad0 L0 Qc C ad L H1 locs1 lsc ho hW1 hS1 hL
  show W p l e R s m args below meth c1 H locs k n Qc (F0 m pc lsc (.int (nI w) :: .int (nI dp) :: .ref (ad a) :: .int (nI sp) :: oj_v ad (.ref (oj_sa (1000 + q))) :: st.map (oj_v ad)))
  rw [oj_vl hW, hv]
  refine vk_copyt hx hb (hml.trans hL.1.symm) hown (hts _ hw) (hts _ (by decide +kernel)) (hts _ (by decide +kernel)) (hts _ (by decide +kernel)) hK hW.1 hW.2.1 hS hT i9 2 hw9 rfl (nI_pos (by omega)) (nI_pos (by omega)) (nI_pos (by omega)) (by rw [nI_clamp (by omega), nI_clamp (by omega)]; exact h4) (by rw [nI_clamp (by omega), nI_clamp (by omega)]; exact h5) (fun i _ => hbf _) (by omega) (by omega) hd (fun H1 locs1 hP1 hD1 hS1 => ?_)
  rw [nI_clamp (n := sp) (by omega), nI_clamp (n := dp) (by omega), nI_clamp (n := w) (by omega)] at hP1 hD1
  exact KK H1 locs1 (oj_W.put hW hi9 (by intro z; cases z) hP1 hD1) hS1
theorem J_clone {a q0 idx N : Nat} {f : Nat → Int32} (he : mT μ pc = some (.invokevirtual idx, len, nx, c, t)) (hal : mA μ = true) (ha : h a = .inl (2, N, .inl f)) (hf : sb_Fit f) (hN : N ≤ 1000) (hw : Cond.methodLink (oj_cls (mO μ)) idx ⟨"[B", "clone", "()Ljava/lang/Object;"⟩ ∈ lwG) (hd1 : Nat.ble 2 d = true) (hcat : Nat.ble ((st.map fun v => v.category).sum) 8 = true)
    (hbd : oj_bd q0 h) (ha9 : q0 < 999999) (hst : ∀ v, Value.ref v ∈ st → v < q0 ∨ 999999 ≤ v) (hls : ∀ (j v : Nat), ls[j]? = some (some (.ref v)) → v < q0 ∨ 999999 ≤ v) (hmc : k + 1 ≤ mc) (hms : n + N ≤ ms) (kk : J μ d mc ms Q (k + 1) (n + N) nx ls (.ref q0 :: st) (oj_up h q0 (.inl (2, N, .inl f)))) : J μ d mc ms Q k n pc ls (.ref a :: st) h := by
  intro p l e R s m args below meth c1 A D tyA adK adV b scr ad0 L0 Qc C ad L H locs lsc ho hW hS hL
  obtain ⟨hx, hb, hg, hml, hown, hts, hlocks, -, hK, hSt, hA, -, ⟨hR1, hR2, hR3, hR4⟩, -⟩ := id C
  obtain ⟨hd, hl, hn, hc, ht⟩ := oj_okE_spec (hg pc _ he)
  obtain rfl : len = 3 := of_decide_eq_true hl
  subst hn
  have hd2 := Nat.le_of_ble_eq_true hd1
  have hsum : ((st.map (oj_v ad)).map fun v => v.category).sum ≤ 8 := by rw [List.map_map]; simpa [Function.comp_def, oj_v_cat] using Nat.le_of_ble_eq_true hcat
  obtain ⟨i9, hi9, hw9⟩ := oj_idx hW (a := a) (by rw [ha]; intro z; cases z) (by rw [ha]; intro N9 y9 z; cases z)
  rw [ha] at hw9
  refine va_clone (x := (N, .inl f)) (ty := .byte) hx hb (hml.trans hL.1.symm) hown (hts _ hw) (hts _ (by decide +kernel)) (hts _ (by decide +kernel)) (hts _ (by decide +kernel)) (hts _ (by decide +kernel)) (hSt.2.2.1 ("[B", "java/lang/Cloneable") (by decide +kernel)) hK hW.1 hW.2.1 hS hA i9 2 hw9 rfl (hK.2 2 _ rfl).2 (fun i v hv => va_fit (cA := tyA 2) (n := N) (F := fun j => .int (f j)) (ty := .byte) (fun i _ => hf i) i v hv) (by omega) (by omega) (Nat.le_trans hmc hR3) (Nat.le_trans hms hR4) hd (fun q H1 hK1 hP1 hD1 hS1 => ?_)
  obtain ⟨ad', L', ho', hW', hL', hst', hq⟩ := oj_grow C ho hW hL hal hbd ha9 hst hls (q := q) (x := .inl (2, N, .inl f)) (by intro z; cases z) (e0 := .inl (tyA 2, N, .inl f)) (fun ad => rfl) hP1 hD1
  have K := kk p l e R s m args below meth c1 A D tyA adK adV b scr ad0 L0 Qc C ad' L' H1 locs lsc ho' hW' hS1 hL'
  rw [show (Value.ref q0 :: st).map (oj_v ad') = .ref q :: st.map (oj_v ad) by rw [List.map_cons, hst']; show Value.ref (ad' q0) :: _ = _; rw [hq]] at K
  exact K
theorem J_castB {a idx N : Nat} {f : Nat → Int32} (he : mT μ pc = some (.checkcast idx, len, nx, c, t)) (ha : h a = .inl (2, N, .inl f)) (hw : Cond.classLink (oj_cls (mO μ)) idx "[B" ∈ lwG) (kk : J μ d mc ms Q k n nx ls (.ref a :: st) h) : J μ d mc ms Q k n pc ls (.ref a :: st) h := by
  intro p l e R s m args below meth c1 A D tyA adK adV b scr ad0 L0 Qc C ad L H locs lsc ho hW hS hL
  obtain ⟨hx, hb, hg, hml, hown, hts, hlocks, -, hK, hSt, hA, -, ⟨hR1, hR2, hR3, hR4⟩, -⟩ := id C
  obtain ⟨hd, hl, hn, hc, ht⟩ := oj_okE_spec (hg pc _ he)
  obtain rfl : len = 3 := of_decide_eq_true hl
  subst hn
  obtain ⟨i9, hi9, hw9⟩ := oj_idx hW (a := a) (by rw [ha]; intro z; cases z) (by rw [ha]; intro N9 y9 z; cases z)
  rw [ha] at hw9
  exact va_castA hx hb hown (hts _ hw) hW.1 i9 hw9 (hK.2 2 _ rfl).2 hd (kk p l e R s m args below meth c1 A D tyA adK adV b scr ad0 L0 Qc C ad L H locs lsc ho hW hS hL)
theorem J_alenB {a N : Nat} {f : Nat → Int32} (he : mT μ pc = some (.arraylength, len, nx, c, t)) (ha : h a = .inl (2, N, .inl f)) (kk : J μ d mc ms Q k n nx ls (.int (nI N) :: st) h) : J μ d mc ms Q k n pc ls (.ref a :: st) h := by
  intro p l e R s m args below meth c1 A D tyA adK adV b scr ad0 L0 Qc C ad L H locs lsc ho hW hS hL
  obtain ⟨hx, hb, hg, hml, hown, hts, hlocks, -, hK, hSt, hA, -, ⟨hR1, hR2, hR3, hR4⟩, -⟩ := id C
  obtain ⟨hd, hl, hn, hc, ht⟩ := oj_okE_spec (hg pc _ he)
  obtain rfl : len = 1 := of_decide_eq_true hl
  subst hn
  obtain ⟨i9, hi9, hw9⟩ := oj_idx hW (a := a) (by rw [ha]; intro z; cases z) (by rw [ha]; intro N9 y9 z; cases z)
  rw [ha] at hw9
  exact va_alen hx hb hK hW.1 i9 2 hw9 rfl rfl hd (kk p l e R s m args below meth c1 A D tyA adK adV b scr ad0 L0 Qc C ad L H locs lsc ho hW hS hL)
theorem J_alenI {a N : Nat} {f : Nat → Int32} (he : mT μ pc = some (.arraylength, len, nx, c, t)) (ha : h a = .inl (0, N, .inl f)) (kk : J μ d mc ms Q k n nx ls (.int (nI N) :: st) h) : J μ d mc ms Q k n pc ls (.ref a :: st) h := by
  intro p l e R s m args below meth c1 A D tyA adK adV b scr ad0 L0 Qc C ad L H locs lsc ho hW hS hL
  obtain ⟨hx, hb, hg, hml, hown, hts, hlocks, -, hK, hSt, hA, -, ⟨hR1, hR2, hR3, hR4⟩, -⟩ := id C
  obtain ⟨hd, hl, hn, hc, ht⟩ := oj_okE_spec (hg pc _ he)
  obtain rfl : len = 1 := of_decide_eq_true hl
  subst hn
  obtain ⟨i9, hi9, hw9⟩ := oj_idx hW (a := a) (by rw [ha]; intro z; cases z) (by rw [ha]; intro N9 y9 z; cases z)
  rw [ha] at hw9
  exact va_alen hx hb hK hW.1 i9 0 hw9 rfl rfl hd (kk p l e R s m args below meth c1 A D tyA adK adV b scr ad0 L0 Qc C ad L H locs lsc ho hW hS hL)
end OJ13D
