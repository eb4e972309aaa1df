theorem oj_good_in {w0 : Cond} (hw : w0 ∈ lwG) : GoodIn lwG (w0 :: lwG) := fun w h => by
  have h2 : w ∈ lwG := by
    rcases List.mem_cons.mp h with q | q
    · rw [q]; exact hw
    · exact q
  exact ⟨h2, good_of_word (List.mem_filter.mp h2).2⟩
theorem oj_cw_good (μ : MI) : goodWord (oj_cw μ) = true := by
  unfold oj_cw
  cases mH μ <;> rfl
def oj_isA (i : Instr) : Bool := match i with
  | .astore _ => true
  | .astore_n _ => true
  | _ => false
/-- the exception E is caught in the frame: the first handler that takes it, which keeps it in a local and goes on -/
def oj_cau (μ : MI) (d mc ms : Nat) (Q : QT) (k n pc : Nat) (ls : List (Option Value)) (E : String) (h' : AHp) : Prop :=
  ∃ (pre : List (Nat × Nat × Nat × Nat)) (x : Nat × Nat × Nat × Nat) (suf : List (Nat × Nat × Nat × Nat)) (nm : String), mH μ = pre ++ x :: suf ∧ covers ⟨x.1, x.2.1, x.2.2.1, x.2.2.2⟩ pc = true ∧ x.2.2.2 ≠ 0 ∧ Cond.classLink (oj_cls (mO μ)) x.2.2.2 nm ∈ lwG ∧ (E, nm) ∈ oj_casts ∧
    (∀ z ∈ pre, z.2.2.2 ≠ 0 ∧ ∃ nm', Cond.classLink (oj_cls (mO μ)) z.2.2.2 nm' ∈ lwG ∧ (E, nm') ∈ oj_ncasts) ∧ ∃ (i : Instr) (len nx : Nat) (c : Int32) (t : Nat), mT μ x.2.2.1 = some (i, len, nx, c, t) ∧ oj_isA i = true ∧ t < ls.length ∧ J μ d mc ms Q k n nx (oj_set ls t none) [] h'
section OJ5
variable {μ : MI} {d mc ms : Nat} {Q : QT} {k n pc : Nat} {ls : List (Option Value)} {st : List Value} {h : AHp} {i : Instr} {len nx : Nat} {c : Int32} {t : Nat}
set_option maxHeartbeats 1000000 in
theorem oj_back {p : Program} {l : Launch} {e : Env} {R : Room} {s : State} {m : MethodId} {args : Array Value} {below : List Frame} {meth : Method} {c1 : Code} {A : Nat → Prop} {D : va_G} {tyA : Nat → ClassId} {adK adV : Nat → Nat} {b : Nat} {scr : Nat → (Nat → Int32) → Prop} {ad0 : Nat → Nat} {L0 : List Nat} {Qc : State → Prop}
    (C : oj_ctx μ d mc ms Q p l e R s m args below meth c1 A D tyA adK adV b scr ad0 L0 Qc) {ad : Nat → Nat} {L : List Nat} {H : Heap} {locs : List Loc} {lsc : Array Slot} (ho : oj_ok (mA μ) ad0 L0 ad L) (hW : oj_W D tyA A b scr adK ad L h H) (hS : va_S A s.heap H locs) (hL : oj_L ad (mL μ) ls lsc)
    {al' : Bool} {Q' : QT} {mc' ms' : Nat} {rest stc : List Value} {aa : Array Value}
    (hr : vx_Run p l e R s m args below meth c1 H locs k n mc' ms' (F0 m pc lsc stc) (rest.map (oj_v ad)) (oj_QC al' Q' (va_A (oj_w ad tyA L h) H.size) D tyA adK b scr ad L aa) (oj_XC Q' (va_A (oj_w ad tyA L h) H.size) D tyA adK b scr ad L) (va_A (oj_w ad tyA L h) H.size))
    (hal : al' = true → mA μ = true ∧ (∀ a, Value.ref a ∈ rest → h a ≠ nilc ∨ 999999 ≤ a) ∧ ∀ (j a : Nat), ls[j]? = some (some (.ref a)) → h a ≠ nilc ∨ 999999 ≤ a)
    (hmc : k + mc' ≤ mc) (hms : n + ms' ≤ ms)
    (kr : ∀ (v : Option Value) (h' : AHp), Q' (.inl v) h' → J μ d mc ms Q (k + mc') (n + ms') (pc + 3) ls (v.toList ++ rest) h')
    (kx : ∀ (E : String) (h' : AHp), Q' (.inr E) h' → (mH μ = [] ∧ mA μ = false ∧ Q (.inr E) h') ∨ oj_cau μ d mc ms Q (k + mc') (n + ms') pc ls E h') :
    W p l e R s m args below meth c1 H locs k n Qc (F0 m pc lsc stc) := by
  obtain ⟨hx, hb, hg, hml, hown, hts, hlocks, -, -, hSt, hA, -, -, hxt, -, hend⟩ := id C
  have hAA : ∀ q, va_A (oj_w ad tyA L h) H.size q → A q := by
    rintro q (⟨k9, e9, h9⟩ | h9)
    · exact hW.2.1.2 k9 _ h9
    · exact hA q (Nat.le_trans hS.1 h9)
  have hSS : ∀ (st₀ t1 : State) (H' : Heap) (Lc : List Loc), st₀.heap = H → H' = t1.heap → va_F (va_A (oj_w ad tyA L h) H.size) st₀ t1 → (∀ z ∈ Lc, va_A (oj_w ad tyA L h) H.size z.base) → va_S A s.heap H' (locs ++ Lc) := by
    intro st₀ t1 H' Lc h0 e1 hF hLc
    obtain ⟨hz, hk⟩ := hF
    rw [h0] at hz hk
    rw [e1]
    refine ⟨Nat.le_trans hS.1 hz, fun q h1 h2 => ?_, fun z hz => ?_⟩
    · rw [hk q (Nat.lt_of_lt_of_le h1 hS.1) fun y => h2 (hAA q y)]
      exact hS.2.1 q h1 h2
    · rcases List.mem_append.mp hz with q | q
      · exact hS.2.2 z q
      · exact hAA _ (hLc z q)
  intro T hT X
  rcases hr T hT X with ⟨v, st₀, t1, T', Lc, h0, X', hLc, e1, e2, ⟨⟨v', h', ad', L', hv, hq, hok, hW'⟩, hF⟩, st1⟩ | ⟨q, st₀, t1, T', Lc, E, ce, h0, X', hLc, e1, e2, ⟨⟨h', hq, hW'⟩, hF⟩, hce, hcv, hcl, st1⟩
  · have hS' := hSS st₀ t1 T'.heap Lc h0 e1 hF hLc
    have hW2 : oj_W D tyA A b scr adK ad' L' h' T'.heap := by
      rw [e1]
      exact ⟨hW'.1, hW'.2.1.weaken (fun _ _ _ z => hAA _ z), hW'.2.2⟩
    have hdom : ∀ a, h a ≠ nilc ∨ 999999 ≤ a → ad' a = ad a := by
      intro a ha
      refine hok.2.1 a ?_
      rcases ha with ha | ha
      · rcases hW.2.2.1 a ha with q | q
        · exact Or.inl q
        · exact Or.inr (by omega)
      · exact Or.inr ha
    have hconv : ∀ v : Value, (al' = true → ∀ a, v = .ref a → h a ≠ nilc ∨ 999999 ≤ a) → oj_v ad' v = oj_v ad v := by
      intro v hv
      cases hal' : al' with
      | false => rw [(hok.1 hal').1]
      | true =>
        cases v with
        | ref a => exact congrArg Value.ref (hdom a (hv hal' a rfl))
        | _ => rfl
    have ho2 : oj_ok (mA μ) ad0 L0 ad' L' := by
      cases hal' : al' with
      | false => obtain ⟨q1, q2⟩ := hok.1 hal'; subst q1; subst q2; exact ho
      | true =>
        refine ⟨fun z => absurd ((hal hal').1.symm.trans z) (by decide), fun a ha => ?_, fun a ha => hok.2.2 a (ho.2.2 a ha)⟩
        rw [hok.2.1 a (ha.imp (ho.2.2 a) id)]
        exact ho.2.1 a ha
    have hL2 : oj_L ad' (mL μ) ls lsc := ⟨hL.1, hL.2.1, hL.2.2.1, fun j v hv => by rw [hconv v (fun z a ha => (hal z).2.2 j a (by rw [hv, ha]))]; exact hL.2.2.2 j v hv⟩
    cases hv
    obtain ⟨t2, a1, b1⟩ := kr v' h' hq p l e R s m args below meth c1 A D tyA adK adV b scr ad0 L0 Qc C ad' L' T'.heap (locs ++ Lc) lsc ho2 hW2 hS' hL2 T' rfl X'
    refine ⟨t2, st1 t2 ?_, b1⟩
    have hstk : (v'.toList ++ rest).map (oj_v ad') = (v'.map (oj_v ad')).toList ++ rest.map (oj_v ad) := by
      rw [List.map_append]
      congr 1
      · cases v' <;> rfl
      · exact List.map_congr_left fun v hv => hconv v fun z a ha => (hal z).2.1 a (by rw [← ha]; exact hv)
    rw [hstk] at a1
    exact a1
  · have hS' := hSS st₀ t1 T'.heap Lc h0 e1 hF hLc
    have hW2 : oj_W D tyA A b scr adK ad L h' T'.heap := by
      rw [e1]
      exact ⟨hW'.1, hW'.2.1.weaken (fun _ _ _ z => hAA _ z), hW'.2.2⟩
    have hce' : T'.heap[q]? = some ce := by rw [e1]; exact hce
    rcases kx E h' hq with ⟨hH, hmA, hQ⟩ | ⟨pre, x, suf, nm, hH, hcov, hx0, hlk, hcs, hpre, i9, len9, nx9, c9, t9, he9, hi9, ht9, hJ⟩
    · obtain ⟨Qc', hQc⟩ := hend.2 hmA hH
      obtain ⟨q1, q2⟩ := ho.1 hmA
      have K : vx_W p l e R s m args below meth c1 T'.heap (locs ++ Lc) (k + mc') (n + ms') Qc (F0 m pc lsc (rest.map (oj_v ad))) q := by
        rw [hQc]
        refine vx_out (fun z hz => ?_) hlocks hce' hcv hcl (fun t ht hvm => ⟨⟨h', hQ, ?_⟩, hS'.F ht⟩) hS'.2.2 hmc hms
        · rw [hxt, hH] at hz; cases hz
        · rw [ht, ← q1, ← q2]; exact hW2
      obtain ⟨t2, a1, b1⟩ := K T' rfl X'
      exact ⟨t2, st1.trans a1, b1⟩
    · have K : vx_W p l e R s m args below meth c1 T'.heap (locs ++ Lc) (k + mc') (n + ms') Qc (F0 m pc lsc (rest.map (oj_v ad))) q := by
        refine vx_catch (own := oj_cls (mO μ)) (name := nm) hown (tableOf pre) ⟨x.1, x.2.1, x.2.2.1, x.2.2.2⟩ (tableOf suf) ?_ (fun z hz => ?_) hcov hx0 (hts _ hlk) (va_Nw.use rfl (hSt.2.2.1 _ hcs)) hce' hcv hcl ?_
        · rw [hxt, hH]; simp [tableOf]
        · obtain ⟨w, hw, rfl⟩ := List.mem_map.mp hz
          obtain ⟨z0, nm', z1, z2⟩ := hpre w hw
          exact Or.inr ⟨z0, nm', hts _ z1, hSt.2.2.2.1 _ z2⟩
        · obtain ⟨hd9, hl9, hn9, -, ht99⟩ := oj_okE_spec (hg x.2.2.1 _ he9)
          have hJ' := fun ls' hL' => hJ p l e R s m args below meth c1 A D tyA adK adV b scr ad0 L0 Qc C ad L T'.heap (locs ++ Lc) ls' ho hW2 hS' hL'
          cases i9
          case astore w =>
            obtain rfl : len9 = 2 := of_decide_eq_true hl9
            obtain rfl : w = t9 := of_decide_eq_true ht99
            subst hn9
            exact lv_astore hx hb hd9 (oj_lv_has hL) (Nat.lt_of_lt_of_eq ht9 hL.2.1) rfl (fun ls' hl' => hJ' ls' (oj_L_none hL hl'))
          case astore_n w =>
            obtain rfl : len9 = 1 := of_decide_eq_true hl9
            have hw9 : (w : Nat) = t9 := of_decide_eq_true ht99
            subst hn9
            exact lv_astore_n hx hb hd9 hw9 (oj_lv_has hL) (Nat.lt_of_lt_of_eq ht9 hL.2.1) rfl (fun ls' hl' => hJ' ls' (oj_L_none hL hl'))
          all_goals exact absurd hi9 (by simp [oj_isA])
      obtain ⟨t2, a1, b1⟩ := K T' rfl X'
      exact ⟨t2, st1.trans a1, b1⟩
/-- what stands ready when a call is made -/
theorem oj_pre {p : Program} {l : Launch} {e : Env} {R : Room} {s : State} {m : MethodId} {args : Array Value} {below : List Frame} {meth : Method} {c1 : Code} {A : Nat → Prop} {D : va_G} {tyA : Nat → ClassId} {adK adV : Nat → Nat} {b : Nat} {scr : Nat → (Nat → Int32) → Prop} {ad0 : Nat → Nat} {L0 : List Nat} {Qc : State → Prop}
    (C : oj_ctx μ d mc ms Q p l e R s m args below meth c1 A D tyA adK adV b scr ad0 L0 Qc) {ad : Nat → Nat} {L : List Nat} {H : Heap} {locs : List Loc} (hW : oj_W D tyA A b scr adK ad L h H) (hS : va_S A s.heap H locs) (av : List Value) : ∀ U : State, U.heap = H → s.WarmedH U.vm → oj_Pc av D tyA adK adV b scr ad L h H.size (av.map (oj_v ad)).toArray U := by
  obtain ⟨-, -, -, -, -, -, -, -, hK, hSt, hA, -, -, -, hscr, -⟩ := id C
  intro U hU hWm
  have hAA : ∀ q, va_A (oj_w ad tyA L h) H.size q → A q := by
    rintro q (⟨k9, e9, h9⟩ | h9)
    · exact hW.2.1.2 k9 _ h9
    · exact hA q (Nat.le_trans hS.1 h9)
  refine ⟨rfl, by rw [hU], ?_, va_K.moved hWm.alike hK, oj_S.to hSt hS hAA hWm hU, fun N xs hs => ?_⟩
  rotate_left
  · obtain ⟨g1, g2, g3⟩ := hscr N xs hs
    rw [hU]
    exact ⟨(va_X.kept g1 (hS.2.1 b g2 g3)).moved hWm.alike, Nat.lt_of_lt_of_le g2 hS.1, fun q => g3 (hAA b q)⟩
  rw [hU]
  exact ⟨hW.1, hW.2.1.self, hW.2.2⟩
def oj_spV (st : List Value) (na : Nat) : Option (List Value × Nat × List Value) := match st.drop na with
  | .ref a :: rest => some ((st.take na).reverse, a, rest)
  | _ => none
theorem oj_spV_eq {st : List Value} {na a : Nat} {As rest : List Value} (h : oj_spV st na = some (As, a, rest)) : st = As.reverse ++ .ref a :: rest ∧ (Nat.ble na st.length = true → As.length = na) := by
  unfold oj_spV at h
  split at h
  · rename_i a' rest' hd
    cases h
    refine ⟨?_, fun hb => ?_⟩
    · rw [List.reverse_reverse, ← hd, List.take_append_drop]
    · rw [List.length_reverse, List.length_take]
      have := Nat.le_of_ble_eq_true hb
      omega
  · cases h
theorem oj_spV_len {st : List Value} {na a : Nat} {As rest : List Value} (h : oj_spV st na = some (As, a, rest)) : As.length = na := by
  have h1 := oj_spV_eq h
  refine h1.2 ?_
  unfold oj_spV at h
  split at h
  · rename_i a' rest' hd
    refine Nat.ble_eq_true_of_le ?_
    rcases Nat.lt_or_ge st.length na with q | q
    · rw [List.drop_of_length_le (by omega)] at hd; cases hd
    · exact q
  · cases h
/-- an instance method -/
theorem J_callV {μ' : MI} {idx d' mc' ms' na a : Nat} {fs As rest : List Value} {Q' : QT} (he : mT μ pc = some (.invokevirtual idx, len, nx, c, t)) (hi : Nat.blt idx 1024 = true) (hct : oj_cl (mO μ * 1024 + idx) = some (0, μ')) (hna : oj_na (mO μ * 1024 + idx) = some na) (hsp : oj_spV st na = some (As, a, rest)) (ha : h a = .inr (mO μ', fs)) (hmo : Nat.blt (mO μ') 7 = true) (hal : mA μ' = false) (hd : Nat.ble (d' + 1) d = true) (hcat : Nat.ble ((rest.map fun v => v.category).sum) 8 = true)
    (hM : JM μ' d' mc' ms' (.ref a :: As) h Q') (hmc : k + mc' ≤ mc) (hms : n + ms' ≤ ms)
    (kx : ∀ (E : String) (h' : AHp), Q' (.inr E) h' → (mH μ = [] ∧ mA μ = false ∧ Q (.inr E) h') ∨ oj_cau μ d mc ms Q (k + mc') (n + ms') pc ls E h')
    (kr : ∀ (v : Option Value) (h' : AHp), Q' (.inl v) h' → J μ d mc ms Q (k + mc') (n + ms') nx ls (v.toList ++ rest) h') : J μ d mc ms Q k n pc ls st h := by
  intro p l e R s m args below meth c1 A D tyA adK adV b scr ad0 L0 Qc C ad L H locs lsc ho hW hS hL
  obtain ⟨hx, hb, hg, hml, hown, hts, hlocks, -, hK, -, -, hls, ⟨hR1, hR2, hR3, hR4⟩, -⟩ := id C
  obtain ⟨hdc, hl, hn, -, -⟩ := oj_okE_spec (hg pc _ he)
  obtain rfl : len = 3 := of_decide_eq_true hl
  subst hn
  obtain ⟨ix, na', hna', hck⟩ := oj_cl_chk hct
  cases hna.symm.trans hna'
  obtain ⟨hst, -⟩ := oj_spV_eq hsp
  have hlen := oj_spV_len hsp
  have hk1 := (oj_key (o := mO μ) (Nat.le_of_ble_eq_true hi)).1
  have hk2 := (oj_key (o := mO μ) (Nat.le_of_ble_eq_true hi)).2
  unfold oj_chkC at hck
  rw [hk1, hk2] at hck
  simp only [Bool.and_eq_true, decide_eq_true_eq] at hck
  obtain ⟨g1, g2, g3, g4, g5, hck⟩ := hck
  split at hck
  case h_1 i0 i1 i2 i3 i4 _ =>
    simp only [Bool.and_eq_true, decide_eq_true_eq] at hck
    obtain ⟨f0, f1, f2, f3, f4, hH⟩ := hck
    have hcode : oj_cw μ' = .code (mY μ') (mC μ') (mL μ') (mR μ') := by unfold oj_cw; rw [hH]
    have w0 := oj_lwG f0 rfl
    have w1 := oj_lwG f1 rfl
    have w2 := oj_lwG f2 rfl
    have w3 := oj_lwG f3 rfl
    have w4 := oj_lwG (oj_cwAt_eq f4) (oj_cw_good μ')
    have hd1 := Nat.le_of_ble_eq_true hd
    have cw : CallW R s args (oj_cls (mO μ)) (mY μ').cls idx (mY μ') (mC μ') (mL μ') (mR μ') (oj_cw μ' :: lwG) (oj_rm d' mc' ms') mc' ms' As.length :=
      ⟨callB_of As.length hts (oj_good_in w4) (by rw [hcode]) rfl rfl (hts _ w3) (hts _ w0) ⟨g1, g2, by rw [g3, hlen]⟩ ⟨by show d' + 1 ≤ _; omega, by show 8 + (mL μ' + 11) + 40 * d' ≤ _; omega⟩, hts _ w1, hts _ w2⟩
    obtain ⟨i9, hi9, hw9⟩ := oj_idx hW (a := a) (by rw [ha]; exact oj_inr_ne (Nat.lt_succ_of_lt (Nat.le_of_ble_eq_true hmo))) (by rw [ha]; intro N9 y9 z; cases z)
    rw [ha] at hw9
    obtain ⟨r9, hr9⟩ : ∃ r9 : vw_C, vwCl[mO μ']? = some r9 := by
      obtain ⟨q', h1, -⟩ := hW.1 i9 _ hw9
      exact ⟨q', h1⟩
    have hrc := va_recv hK hW.1 hr9 hw9
    have hC9 : r9.1 = (mY μ').cls := by
      obtain ⟨C9, T9, N9⟩ := r9
      rw [g5, ← oj_hc_eq (Nat.le_of_ble_eq_true hmo)]
      exact (oj_cl_ok hr9).2.2.2.2.1
    rw [hC9] at hrc
    have hpp := oj_pre C hW hS (.ref a :: As)
    have hr := vx_runV (e := e) (below := below) (meth := meth) (locs := locs) (As := As.map (oj_v ad)) (rest := rest.map (oj_v ad)) (b := ad a) (g := F0 m pc lsc (st.map (oj_v ad))) ⟨hx, hb, hml, hown, hts⟩ (hM l hls D tyA adK adV b scr ad L H.size) cw ⟨oj_blind, hrc, hpp⟩ rfl (List.length_map _) hL.1 (by rw [hst]; simp [oj_v]) (lv_room (by rw [List.map_map]; simpa [Function.comp_def, oj_v_cat] using Nat.le_of_ble_eq_true hcat)) hdc ⟨Nat.le_trans hmc hR3, Nat.le_trans hms hR4⟩
    refine oj_back C ho hW hS hL hr (fun z => absurd (hal.symm.trans z) (by decide)) hmc hms kr kx
  all_goals (first | omega | exact absurd hck (by simp))
def oj_spS (st : List Value) (na : Nat) : Option (List Value × List Value) := bif Nat.ble na st.length then some ((st.take na).reverse, st.drop na) else none
theorem oj_spS_eq {st : List Value} {na : Nat} {As rest : List Value} (h : oj_spS st na = some (As, rest)) : st = As.reverse ++ rest ∧ As.length = na := by
  unfold oj_spS at h
  cases hb : Nat.ble na st.length with
  | false => rw [hb] at h; cases h
  | true =>
    rw [hb] at h
    cases h
    refine ⟨by rw [List.reverse_reverse, List.take_append_drop], ?_⟩
    rw [List.length_reverse, List.length_take]
    have := Nat.le_of_ble_eq_true hb
    omega
/-- a static method -/
theorem J_callS {μ' : MI} {idx d' mc' ms' na kd : Nat} {As rest : List Value} {Q' : QT} (he : mT μ pc = some (.invokestatic idx, len, nx, c, t)) (hi : Nat.blt idx 1024 = true) (hct : oj_cl (mO μ * 1024 + idx) = some (kd, μ')) (hna : oj_na (mO μ * 1024 + idx) = some na) (hkd : kd = 1 ∨ kd = 3) (hsp : oj_spS st na = some (As, rest)) (hal : mA μ' = false) (hd : Nat.ble (d' + 1) d = true) (hcat : Nat.ble ((rest.map fun v => v.category).sum) 8 = true)
    (hM : JM μ' d' mc' ms' As h Q') (hmc : k + mc' ≤ mc) (hms : n + ms' ≤ ms)
    (kx : ∀ (E : String) (h' : AHp), Q' (.inr E) h' → (mH μ = [] ∧ mA μ = false ∧ Q (.inr E) h') ∨ oj_cau μ d mc ms Q (k + mc') (n + ms') pc ls E h')
    (kr : ∀ (v : Option Value) (h' : AHp), Q' (.inl v) h' → J μ d mc ms Q (k + mc') (n + ms') nx ls (v.toList ++ rest) h') : J μ d mc ms Q k n pc ls st h := by
  intro p l e R s m args below meth c1 A D tyA adK adV b scr ad0 L0 Qc C ad L H locs lsc ho hW hS hL
  obtain ⟨hx, hb, hg, hml, hown, hts, hlocks, -, hK, hSt, -, hls, ⟨hR1, hR2, hR3, hR4⟩, -⟩ := id C
  obtain ⟨hdc, hl, hn, -, -⟩ := oj_okE_spec (hg pc _ he)
  obtain rfl : len = 3 := of_decide_eq_true hl
  subst hn
  obtain ⟨ix, na', hna', hck⟩ := oj_cl_chk hct
  cases hna.symm.trans hna'
  obtain ⟨hst, hlen⟩ := oj_spS_eq hsp
  have hk1 := (oj_key (o := mO μ) (Nat.le_of_ble_eq_true hi)).1
  have hk2 := (oj_key (o := mO μ) (Nat.le_of_ble_eq_true hi)).2
  unfold oj_chkC at hck
  rw [hk1, hk2] at hck
  simp only [Bool.and_eq_true, decide_eq_true_eq] at hck
  obtain ⟨g1, g2, g3, g4, g5, hck⟩ := hck
  have hd1 := Nat.le_of_ble_eq_true hd
  have hpp := oj_pre C hW hS As
  have hfin : ∀ (cx : (oj_cw μ' ∈ lwG) ∧ Cond.initialized (mY μ').cls ∈ lwG ∧ Cond.static (mY μ') ∈ lwG) , (Cond.methodLink (oj_cls (mO μ)) idx (mY μ') ∈ lwG ∨ (mH μ' = [] ∧ ∃ z ∈ oj_nests, z.1 = oj_cls (mO μ) ∧ z.2.1 = idx ∧ z.2.2.1 = mY μ')) → W p l e R s m args below meth c1 H locs k n Qc (F0 m pc lsc (st.map (oj_v ad))) := by
    rintro ⟨w4, w3, w1⟩ hlink
    have hstk : (F0 m pc lsc (st.map (oj_v ad))).stack = (As.map (oj_v ad)).reverse ++ rest.map (oj_v ad) := by show st.map (oj_v ad) = _; rw [hst]; simp
    have hWr : 2 * (F0 m pc lsc (st.map (oj_v ad))).monitorRoom + ((rest.map (oj_v ad)).map fun v => v.category).sum ≤ 8 := lv_room (by rw [List.map_map]; simpa [Function.comp_def, oj_v_cat] using Nat.le_of_ble_eq_true hcat)
    have hG := oj_good_in w4
    have hdd : (mY μ').cls ≠ "java/lang/invoke/MethodHandle" ∧ (mY μ').cls ≠ "java/lang/invoke/VarHandle" ∧ (parseMethodDescriptor (mY μ').desc).map (fun d => d.parameters.length) = some As.length := ⟨g1, g2, by rw [g3, hlen]⟩
    have hRR : (oj_rm d' mc' ms').frames + 1 ≤ R.frames ∧ 8 + (mL μ' + 11) + (oj_rm d' mc' ms').locals ≤ R.locals := ⟨by show d' + 1 ≤ _; omega, by show 8 + (mL μ' + 11) + 40 * d' ≤ _; omega⟩
    have K : vx_Run p l e R s m args below meth c1 H locs k n mc' ms' (F0 m pc lsc (st.map (oj_v ad))) (rest.map (oj_v ad)) (oj_QC (mA μ') Q' (va_A (oj_w ad tyA L h) H.size) D tyA adK b scr ad L (As.map (oj_v ad)).toArray) (oj_XC Q' (va_A (oj_w ad tyA L h) H.size) D tyA adK b scr ad L) (va_A (oj_w ad tyA L h) H.size) := by
      rcases hlink with w0 | ⟨hH, z, hz, e1, e2, e3⟩
      · cases hH : mH μ' with
        | nil =>
          have hcode : oj_cw μ' = .code (mY μ') (mC μ') (mL μ') (mR μ') := by unfold oj_cw; rw [hH]
          exact vx_runS (e := e) (below := below) (meth := meth) (locs := locs) (As := As.map (oj_v ad)) (rest := rest.map (oj_v ad)) (g := F0 m pc lsc (st.map (oj_v ad))) ⟨hx, hb, hml, hown, hts⟩ (hM l hls D tyA adK adV b scr ad L H.size) ⟨callB_of As.length hts hG (by rw [hcode]) rfl rfl (hts _ w3) (hts _ w0) hdd hRR, hts _ w1⟩ ⟨oj_blind, hpp⟩ rfl (List.length_map _) hL.1 hstk hWr hdc ⟨Nat.le_trans hmc hR3, Nat.le_trans hms hR4⟩
        | cons x xs =>
          have hcode : oj_cw μ' = .codeWith (mY μ') (mC μ') (mL μ') (mR μ') (x :: xs) := by unfold oj_cw; rw [hH]
          refine vx_runSX (e := e) (below := below) (meth := meth) (locs := locs) (As := As.map (oj_v ad)) (rest := rest.map (oj_v ad)) (g := F0 m pc lsc (st.map (oj_v ad))) (own := oj_cls (mO μ)) (hh := x :: xs) (n := As.length) ⟨hx, hb, hml, hown, hts⟩ (hM l hls D tyA adK adV b scr ad L H.size) (vx_cwSW As.length hts (fun w hw => ?_) (by rw [hcode]) rfl rfl hdd hRR) ⟨oj_blind, hpp⟩ rfl (List.length_map _) hL.1 hstk hWr hdc ⟨Nat.le_trans hmc hR3, Nat.le_trans hms hR4⟩
          unfold va_wsS at hw
          rcases List.mem_append.mp hw with q | q
          · have : w ∈ lwG := by
              simp only [List.mem_cons, List.not_mem_nil, or_false] at q
              rcases q with q | q | q <;> rw [q] <;> assumption
            exact ⟨this, good_of_word (List.mem_filter.mp this).2⟩
          · exact hG w q
      · have hcode : oj_cw μ' = .code (mY μ') (mC μ') (mL μ') (mR μ') := by unfold oj_cw; rw [hH]
        have hnw := hSt.2.2.2.2.1 z hz
        rw [e1, e2, e3] at hnw
        exact vx_runSN (e := e) (below := below) (meth := meth) (locs := locs) (As := As.map (oj_v ad)) (rest := rest.map (oj_v ad)) (g := F0 m pc lsc (st.map (oj_v ad))) (host := z.2.2.2) ⟨hx, hb, hml, hown, hts⟩ (hM l hls D tyA adK adV b scr ad L H.size) ⟨va_cnB As.length hts hG (by rw [hcode]) rfl rfl hnw (hts _ w3) hdd hRR, hts _ w1, trivial⟩ ⟨oj_blind, hpp⟩ rfl (List.length_map _) hL.1 hstk hWr hdc ⟨Nat.le_trans hmc hR3, Nat.le_trans hms hR4⟩
    exact oj_back C ho hW hS hL K (fun z => absurd (hal.symm.trans z) (by decide)) hmc hms kr kx
  split at hck
  case h_2 i0 i1 i2 i3 _ =>
    simp only [Bool.and_eq_true, decide_eq_true_eq] at hck
    obtain ⟨f0, f1, f2, f3⟩ := hck
    exact hfin ⟨oj_lwG (oj_cwAt_eq f3) (oj_cw_good μ'), oj_lwG f2 rfl, oj_lwG f1 rfl⟩ (Or.inl (oj_lwG f0 rfl))
  case h_4 i1 i2 i3 _ =>
    simp only [Bool.and_eq_true, decide_eq_true_eq] at hck
    obtain ⟨f0, f1, f2, f3, hH⟩ := hck
    obtain ⟨z, hz, hz2⟩ := List.any_eq_true.mp f0
    exact hfin ⟨oj_lwG (oj_cwAt_eq f3) (oj_cw_good μ'), oj_lwG f2 rfl, oj_lwG f1 rfl⟩ (Or.inr ⟨hH, z, hz, of_decide_eq_true hz2⟩)
  all_goals (first | omega | exact absurd hck (by simp))
end OJ5
