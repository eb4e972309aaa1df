/-! new cells -/
def oj_lo (N : Nat) (x : AC) : Prop := match x with
  | .inl (_, n, .inr (.inr (.inr (.inr f)))) => ∀ j v, j < n → f j = some v → v < N
  | .inl _ => True
  | .inr (_, fs) => ∀ v, Value.ref v ∈ fs → v < N ∨ 999999 ≤ v
def oj_bd (N : Nat) (h : AHp) : Prop := (∀ x, N ≤ x → x < 999999 → h x = nilc) ∧ ∀ x, oj_lo N (h x)
theorem oj_lo.mono {N M : Nat} {x : AC} (h : oj_lo N x) (hNM : N ≤ M) : oj_lo M x := by
  unfold oj_lo at h ⊢
  split at h
  · intro j v hj hv; exact Nat.lt_of_lt_of_le (h j v hj hv) hNM
  · trivial
  · intro v hv; exact (h v hv).imp (fun q => Nat.lt_of_lt_of_le q hNM) id
theorem oj_bd.push {N : Nat} {h : AHp} (hb : oj_bd N h) {c : AC} (hc : oj_lo (N + 1) c) : oj_bd (N + 1) (oj_up h N c) := by
  refine ⟨fun x h1 h2 => ?_, fun x => ?_⟩
  · simp only [oj_up]
    rw [if_neg (by omega)]
    exact hb.1 x (by omega) h2
  · simp only [oj_up]
    split
    · exact hc
    · exact (hb.2 x).mono (by omega)
theorem oj_bd.put {N : Nat} {h : AHp} (hb : oj_bd N h) {a : Nat} (ha : a < N) {c : AC} (hc : oj_lo N c) : oj_bd N (oj_up h a c) := by
  refine ⟨fun x h1 h2 => ?_, fun x => ?_⟩
  · simp only [oj_up]
    rw [if_neg (by omega)]
    exact hb.1 x h1 h2
  · simp only [oj_up]
    split
    · exact hc
    · exact hb.2 x
theorem oj_ne {a b : Nat} (ha : a < 999999) (h : b < a ∨ 999999 ≤ b) : b ≠ a := by omega
theorem oj_c_lo {a q : Nat} {ad : Nat → Nat} {tyA : Nat → ClassId} {x : AC} (ha : a < 999999) (h : oj_lo a x) : oj_c (fun y => if y = a then q else ad y) tyA x = oj_c ad tyA x := by
  obtain ⟨t, n, y⟩ | ⟨ci, fs⟩ := x
  · obtain f | f | f | f | f := y
    · rfl
    · rfl
    · rfl
    · rfl
    · have : (fun j => if j < n then (f j).map fun y => if y = a then q else ad y else none) = fun j => if j < n then (f j).map ad else none := by
        funext j
        by_cases hjn : j < n
        · rw [if_pos hjn, if_pos hjn]
          cases hf : f j with
          | none => rfl
          | some v =>
            have h1 : v < a := h j v hjn hf
            simp [Nat.ne_of_lt h1]
        · rw [if_neg hjn, if_neg hjn]
      show (Sum.inl (tyA t, n, .inr (.inr (.inr (.inr (fun j => if j < n then (f j).map fun y => if y = a then q else ad y else none))))) : va_E) = _
      rw [this]; rfl
  · have : fs.map (oj_v fun y => if y = a then q else ad y) = fs.map (oj_v ad) := List.map_congr_left fun v hv => by
      cases v with
      | ref b =>
        have h1 : b < a ∨ 999999 ≤ b := h b hv
        show Value.ref (if b = a then q else ad b) = .ref (ad b)
        rw [if_neg (oj_ne ha h1)]
      | _ => rfl
    show (Sum.inr (ci, _) : va_E) = _
    rw [this]; rfl
section OJ8
variable {μ : MI} {d mc ms : Nat} {Q : QT} {k n pc : Nat} {ls : List (Option Value)} {st : List Value} {h : AHp} {i : Instr} {len nx : Nat} {c : Int32} {t : Nat}
theorem oj_grow {p : Program} {l : Launch} {e : Env} {R : Room} {s : State} {m : MethodId} {args : Array Value} {below : List Frame} {meth : Method} {c1 : Code} {A : Nat → Prop} {D : va_G} {tyA : Nat → ClassId} {adK adV : Nat → Nat} {b : Nat} {scr : Nat → (Nat → Int32) → Prop} {ad0 : Nat → Nat} {L0 : List Nat} {Qc : State → Prop}
    (C : oj_ctx μ d mc ms Q p l e R s m args below meth c1 A D tyA adK adV b scr ad0 L0 Qc) {ad : Nat → Nat} {L : List Nat} {H H1 : Heap} {lsc : Array Slot} (ho : oj_ok (mA μ) ad0 L0 ad L) (hW : oj_W D tyA A b scr adK ad L h H) (hL : oj_L ad (mL μ) ls lsc)
    (hal : mA μ = true) {a : Nat} (hbd : oj_bd a h) (ha9 : a < 999999) (hst : ∀ v, Value.ref v ∈ st → v < a ∨ 999999 ≤ v) (hls : ∀ (j v : Nat), ls[j]? = some (some (.ref v)) → v < a ∨ 999999 ≤ v)
    {q : Nat} {x : AC} (hx : x ≠ nilc) {e0 : va_E} (he0 : ∀ ad, oj_c ad tyA x = e0) (hP : va_P D vwCl (oj_w ad tyA L h ++ [(q, e0)]) H1) (hD : va_D A (oj_w ad tyA L h ++ [(q, e0)])) :
    ∃ (ad' : Nat → Nat) (L' : List Nat), oj_ok (mA μ) ad0 L0 ad' L' ∧ oj_W D tyA A b scr adK ad' L' (oj_up h a x) H1 ∧ oj_L ad' (mL μ) ls lsc ∧ st.map (oj_v ad') = st.map (oj_v ad) ∧ ad' a = q := by
  have hna : ∀ y ∈ L, y ≠ a := fun y hy q => by
    subst q
    exact (hW.2.2.2.2.2.2 y hy).2 (hbd.1 y (Nat.le_refl _) ha9)
  have hv : ∀ v : Value, (∀ y, v = .ref y → y < a ∨ 999999 ≤ y) → oj_v (fun y => if y = a then q else ad y) v = oj_v ad v := by
    intro v hv
    cases v with
    | ref y =>
      have h1 := hv y rfl
      show Value.ref (if y = a then q else ad y) = .ref (ad y)
      rw [if_neg (oj_ne ha9 h1)]
    | _ => rfl
  have hw : oj_w (fun y => if y = a then q else ad y) tyA (L ++ [a]) (oj_up h a x) = oj_w ad tyA L h ++ [(q, e0)] := by
    unfold oj_w
    rw [List.map_append]
    congr 1
    · refine List.map_congr_left fun y hy => ?_
      simp only [oj_up, if_neg (hna y hy)]
      rw [oj_c_lo ha9 (hbd.2 y)]
    · simp [oj_up, he0]
  refine ⟨fun y => if y = a then q else ad y, L ++ [a], ⟨fun z => absurd (hal.symm.trans z) (by decide), fun y hy => ?_, fun y hy => List.mem_append_left _ (ho.2.2 y hy)⟩, ⟨by rw [hw]; exact hP, by rw [hw]; exact hD, fun y hy => ?_, fun i => ?_, ?_, ?_, fun y hy => ?_⟩, ⟨hL.1, hL.2.1, hL.2.2.1, fun j v hj => ?_⟩, ?_, if_pos rfl⟩
  · have : y ≠ a := by
      rcases hy with hy | hy
      · exact hna y (ho.2.2 y hy)
      · omega
    simp only [if_neg this]
    exact ho.2.1 y hy
  · by_cases z : y = a
    · exact Or.inl (List.mem_append_right _ (by rw [z]; exact List.mem_singleton_self _))
    · simp only [oj_up, if_neg z] at hy
      exact (hW.2.2.1 y hy).imp (fun w => List.mem_append_left _ w) id
  · show (if oj_sa i = a then q else ad (oj_sa i)) = _
    rw [if_neg (oj_ne ha9 (Or.inr (oj_sa_ge i)))]; exact hW.2.2.2.1 i
  · show (if 999999 = a then q else ad 999999) = _
    rw [if_neg (by omega)]; exact hW.2.2.2.2.1
  · simp only [oj_up, if_neg (show ¬ 999999 = a by omega)]
    exact hW.2.2.2.2.2.1
  · rcases List.mem_append.mp hy with z | z
    · simp only [oj_up, if_neg (hna y z)]
      exact hW.2.2.2.2.2.2 y z
    · have : y = a := List.mem_singleton.mp z
      subst this
      simp only [oj_up, if_true]
      exact ⟨ha9, hx⟩
  · rw [hv v (fun y hy => hls j y (by rw [hj, hy]))]
    exact hL.2.2.2 j v hj
  · exact List.map_congr_left fun v hv' => hv v fun y hy => hst y (by rw [← hy]; exact hv')
theorem J_new {a idx ci N : Nat} {fs : List Value} (he : mT μ pc = some (.new idx, len, nx, c, t)) (hal : mA μ = true) (hcl : Cond.classLink (oj_cls (mO μ)) idx (oj_hc ci) ∈ lwG) (hins : Cond.instantiable (oj_hc ci) N ∈ lwG) (hini : Cond.initialized (oj_hc ci) ∈ lwG) (hci : (vwCl[ci]?.map fun r => r.2.2) = some N) (hfs : ∀ j, j < N → defaultValue (oj_ty ci j) = vp_V fs j) (hfm : ∀ ad, fs.map (oj_v ad) = fs)
    (hbd : oj_bd a h) (ha9 : a < 999999) (hst : ∀ v, Value.ref v ∈ st → v < a ∨ 999999 ≤ v) (hls : ∀ (j v : Nat), ls[j]? = some (some (.ref v)) → v < a ∨ 999999 ≤ v) (hmc : k + 1 ≤ mc) (hms : n + N ≤ ms) (kk : J μ d mc ms Q (k + 1) (n + N) nx ls (.ref a :: st) (oj_up h a (.inr (ci, fs)))) : J μ d mc ms Q k n pc ls st h := by
  intro p l e R s m args below meth c1 A D tyA adK adV b scr ad0 L0 Qc C ad L H locs lsc ho hW hS hL
  obtain ⟨hx, hb, hg, hml, hown, hts, hlocks, -, hK, -, hA, hls9, ⟨hR1, hR2, hR3, hR4⟩, -⟩ := id C
  obtain ⟨hd, hl, hn, hc, ht⟩ := oj_okE_spec (hg pc _ he)
  obtain rfl : len = 3 := of_decide_eq_true hl
  subst hn
  cases hr : vwCl[ci]? with
  | none => rw [hr] at hci; cases hci
  | some r =>
    obtain ⟨CC, T, N'⟩ := r
    rw [hr] at hci
    obtain rfl : N' = N := Option.some.inj hci
    obtain ⟨hin, hty, hnm, h7, hCC, -⟩ := oj_cl_ok hr
    subst hCC
    refine va_new hx hb hts hin (oj_ty ci) hty hown (hts _ hcl) (hts _ hins) (hts _ hini) hK hW.1 hW.2.1 hS hA hr hfs (Nat.le_trans hmc hR3) (Nat.le_trans hms hR4) hd (fun q H1 hP1 hD1 hS1 => ?_)
    obtain ⟨ad', L', ho', hW', hL', hst', hq⟩ := oj_grow C ho hW hL hal hbd ha9 hst hls (q := q) (oj_inr_ne h7) (x := .inr (ci, fs)) (e0 := .inr (ci, fs)) (fun ad => by show (Sum.inr (ci, fs.map (oj_v ad)) : va_E) = _; rw [hfm]) hP1 hD1
    have := kk p l e R s m args below meth c1 A D tyA adK adV b scr ad0 L0 Qc C ad' L' H1 locs lsc ho' hW' hS1 hL'
    rw [show (Value.ref a :: st).map (oj_v ad') = .ref q :: st.map (oj_v ad) by rw [List.map_cons, hst']; show Value.ref (ad' a) :: _ = _; rw [hq]] at this
    exact this
def oj_aty (tag : Nat) : FieldType := match tag with
  | 0 => .int
  | 1 => .char
  | _ => .byte
def oj_a0 (tag : Nat) : (Nat → Int32) ⊕ (Nat → Int64) ⊕ (Nat → UInt32) ⊕ (Nat → UInt64) ⊕ (Nat → Option Nat) := match tag with
  | 0 => .inl fun _ => 0
  | 1 => .inl fun _ => 0
  | _ => .inl fun _ => 0
theorem J_newa {a tag N : Nat} {x : Int32} {aty : ArrayType} (he : mT μ pc = some (.newarray aty, len, nx, c, t)) (hal : mA μ = true) (htag : tag < 4) (hty : newarray.typeOf aty = oj_aty tag) (harr : Cond.arrayClass (oj_aty tag) ∈ lwG) (hx0 : ¬ x < 0) (hN : x.toNatClampNeg = N) (hN2 : N ≤ 65536)
    (hbd : oj_bd a h) (ha9 : a < 999999) (hst : ∀ v, Value.ref v ∈ st → v < a ∨ 999999 ≤ v) (hls : ∀ (j v : Nat), ls[j]? = some (some (.ref v)) → v < a ∨ 999999 ≤ v) (hmc : k + 1 ≤ mc) (hms : n + N ≤ ms) (kk : J μ d mc ms Q (k + 1) (n + N) nx ls (.ref a :: st) (oj_up h a (.inl (tag, N, oj_a0 tag)))) : J μ d mc ms Q k n pc ls (.int x :: st) h := by
  intro p l e R s m args below meth c1 A D tyA adK adV b scr ad0 L0 Qc C ad L H locs lsc ho hW hS hL
  obtain ⟨hx, hb, hg, hml, hown, hts, hlocks, -, hK, -, hA, hls9, ⟨hR1, hR2, hR3, hR4⟩, -⟩ := id C
  obtain ⟨hd, hl, hn, hc, ht⟩ := oj_okE_spec (hg pc _ he)
  obtain rfl : len = 2 := of_decide_eq_true hl
  subst hn
  refine va_newa (a0 := (N, oj_a0 tag)) hx hb (by rw [hty]; exact hts _ harr) hty hK hW.1 hW.2.1 hS hA ?_ hx0 hN ?_ (Nat.le_trans hmc hR3) (Nat.le_trans hms hR4) hd (fun q cA H1 hK1 hP1 hD1 hS1 => ?_)
  · intro cA
    match tag, htag with
    | 0, _ => rfl
    | 1, _ => rfl
    | 2, _ => rfl
    | 3, _ => rfl
  · match tag, htag with
    | 0, _ => show N * 4 ≤ 536870912; omega
    | 1, _ => show N * 2 ≤ 536870912; omega
    | 2, _ => show N * 1 ≤ 536870912; omega
    | 3, _ => show N * 1 ≤ 536870912; omega
  · have hcA : cA = tyA tag := by
      have h1 := (hK1.2 (oj_tys tyA).length (cA, oj_aty tag) (by rw [List.getElem?_append_right (Nat.le_refl _), Nat.sub_self]; rfl)).2
      match tag, htag with
      | 0, _ => exact Option.some.inj ((show s.vm.findClass _ = some cA from h1).symm.trans (hK.2 0 _ rfl).2)
      | 1, _ => exact Option.some.inj ((show s.vm.findClass _ = some cA from h1).symm.trans (hK.2 1 _ rfl).2)
      | 2, _ => exact Option.some.inj ((show s.vm.findClass _ = some cA from h1).symm.trans (hK.2 2 _ rfl).2)
      | 3, _ => exact Option.some.inj ((show s.vm.findClass _ = some cA from h1).symm.trans (hK.2 3 _ rfl).2)
    rw [hcA] at hP1 hD1
    obtain ⟨ad', L', ho', hW', hL', hst', hq⟩ := oj_grow C ho hW hL hal hbd ha9 hst hls (q := q) (x := .inl (tag, N, oj_a0 tag)) (by intro z; cases z) (e0 := .inl (tyA tag, N, oj_a0 tag)) (fun ad => by
      match tag, htag with
      | 0, _ => rfl
      | 1, _ => rfl
      | 2, _ => rfl
      | 3, _ => rfl) hP1 hD1
    have := kk p l e R s m args below meth c1 A D tyA adK adV b scr ad0 L0 Qc C ad' L' H1 locs lsc ho' hW' hS1 hL'
    rw [show (Value.ref a :: st).map (oj_v ad') = .ref q :: st.map (oj_v ad) by rw [List.map_cons, hst']; show Value.ref (ad' a) :: _ = _; rw [hq]] at this
    exact this
theorem J_objInit {a idx : Nat} (he : mT μ pc = some (.invokespecial idx, len, nx, c, t)) (hw : Cond.methodLink (oj_cls (mO μ)) idx objectInit ∈ lwG) (hd1 : Nat.ble 1 d = true) (hcat : Nat.ble ((st.map fun v => v.category).sum) 8 = true) (kk : J μ d mc ms Q k n nx ls st h) : J μ d mc ms Q k n pc ls (.ref a :: st) h := by
  intro p l e R s m args below meth c1 A D tyA adK adV b scr ad0 L0 Qc C ad L H locs lsc ho hW hS hL
  obtain ⟨hx, hb, hg, hml, hown, hts, hlocks, -, hK, -, hA, hls9, ⟨hR1, hR2, hR3, hR4⟩, -⟩ := id C
  obtain ⟨hd, hl, hn, hc, ht⟩ := oj_okE_spec (hg pc _ he)
  obtain rfl : len = 3 := of_decide_eq_true hl
  subst hn
  have hd2 := Nat.le_of_ble_eq_true hd1
  have hsum : ((st.map (oj_v ad)).map fun v => v.category).sum ≤ 8 := by rw [List.map_map]; simpa [Function.comp_def, oj_v_cat] using Nat.le_of_ble_eq_true hcat
  refine W.objInit (g := F0 m pc lsc (.ref (ad a) :: st.map (oj_v ad))) hx hb hown (hts _ hw) (hts _ (by decide +kernel)) (hts _ (by decide +kernel)) rfl (by rw [hml]; exact hL.1) rfl hd (by omega) ?_ ?_
  · show 2 * 0 + _ + 12 ≤ _
    omega
  · exact kk p l e R s m args below meth c1 A D tyA adK adV b scr ad0 L0 Qc C ad L H locs lsc ho hW hS hL
theorem J_ldcI {is : Nat} {v : Int32} (he : mT μ pc = some (.ldc is, len, nx, c, t)) (hw : Cond.constant (oj_cls (mO μ)) is v ∈ lwG) (kk : J μ d mc ms Q k n nx ls (.int v :: st) h) : J μ d mc ms Q k n pc ls st h := by
  intro p l e R s m args below meth c1 A D tyA adK adV b scr ad0 L0 Qc C ad L H locs lsc ho hW hS hL
  obtain ⟨hx, hb, hg, hml, hown, hts, hlocks, -, hK, hSt, -⟩ := id C
  obtain ⟨hd, hl, hn, hc, ht⟩ := oj_okE_spec (hg pc _ he)
  obtain rfl : len = 2 := of_decide_eq_true hl
  subst hn
  exact lv_ldc hx hb hown (hts _ hw) hd (kk p l e R s m args below meth c1 A D tyA adK adV b scr ad0 L0 Qc C ad L H locs lsc ho hW hS hL)
/-- the script: its ints, its length -/
theorem J_sld {N : Nat} {xs : Nat → Int32} {x : Int32} (he : mT μ pc = some (.iaload, len, nx, c, t)) (ha : h 999999 = .inl (9, N, .inl xs)) (hin : vp_in x N) (kk : J μ d mc ms Q k n nx ls (.int (xs x.toNatClampNeg) :: st) h) : J μ d mc ms Q k n pc ls (.int x :: .ref 999999 :: st) h := by
  intro p l e R s m args below meth c1 A D tyA adK adV b scr ad0 L0 Qc C ad L H locs lsc ho hW hS hL
  obtain ⟨hx, hb, hg, hml, hown, hts, hlocks, -, hK, hSt, -, -, -, -, hscr, -⟩ := id C
  obtain ⟨hd, hl, hn, hc, ht⟩ := oj_okE_spec (hg pc _ he)
  obtain rfl : len = 1 := of_decide_eq_true hl
  subst hn
  obtain ⟨hX, hbl, hbA⟩ : va_X b N xs s s.heap ∧ b < s.heap.size ∧ ¬ A b := by
    rcases hW.2.2.2.2.2.1 with q | ⟨N', xs', q, hs⟩
    · rw [ha] at q; cases q
    · rw [ha] at q; cases q; exact hscr N xs hs
  show W p l e R s m args below meth c1 H locs k n Qc (F0 m pc lsc (.int x :: .ref (ad 999999) :: st.map (oj_v ad)))
  rw [hW.2.2.2.2.1]
  exact va_sld hx hb hX hbl hbA hS hin hd (kk p l e R s m args below meth c1 A D tyA adK adV b scr ad0 L0 Qc C ad L H locs lsc ho hW hS hL)
theorem J_slen {N : Nat} {xs : Nat → Int32} (he : mT μ pc = some (.arraylength, len, nx, c, t)) (ha : h 999999 = .inl (9, N, .inl xs)) (kk : J μ d mc ms Q k n nx ls (.int (Int32.ofNat N) :: st) h) : J μ d mc ms Q k n pc ls (.ref 999999 :: st) h := by
  intro p l e R s m args below meth c1 A D tyA adK adV b scr ad0 L0 Qc C ad L H locs lsc ho hW hS hL
  obtain ⟨hx, hb, hg, hml, hown, hts, hlocks, -, hK, hSt, -, -, -, -, hscr, -⟩ := id C
  obtain ⟨hd, hl, hn, hc, ht⟩ := oj_okE_spec (hg pc _ he)
  obtain rfl : len = 1 := of_decide_eq_true hl
  subst hn
  obtain ⟨hX, hbl, hbA⟩ : va_X b N xs s s.heap ∧ b < s.heap.size ∧ ¬ A b := by
    rcases hW.2.2.2.2.2.1 with q | ⟨N', xs', q, hs⟩
    · rw [ha] at q; cases q
    · rw [ha] at q; cases q; exact hscr N xs hs
  show W p l e R s m args below meth c1 H locs k n Qc (F0 m pc lsc (.ref (ad 999999) :: st.map (oj_v ad)))
  rw [hW.2.2.2.2.1]
  exact va_slen hx hb hX hbl hbA hS hd (kk p l e R s m args below meth c1 A D tyA adK adV b scr ad0 L0 Qc C ad L H locs lsc ho hW hS hL)
theorem J_max {idx : Nat} {x y : Int32} (he : mT μ pc = some (.invokestatic idx, len, nx, c, t)) (hw : Cond.methodLink (oj_cls (mO μ)) idx Lib.Math.max.name ∈ lwG) (hd1 : Nat.ble 1 d = true) (hcat : Nat.ble ((st.map fun v => v.category).sum) 8 = true) (hmc : k ≤ mc) (hms : n ≤ ms) (kk : J μ d mc ms Q k n nx ls (.int (if x < y then y else x) :: st) h) : J μ d mc ms Q k n pc ls (.int y :: .int x :: st) h := by
  intro p l e R s m args below meth c1 A D tyA adK adV b scr ad0 L0 Qc C ad L H locs lsc ho hW hS hL
  obtain ⟨hx, hb, hg, hml, hown, hts, hlocks, -, hK, hSt, -, -, ⟨hR1, hR2, hR3, hR4⟩, -⟩ := id C
  obtain ⟨hd, hl, hn, hc, ht⟩ := oj_okE_spec (hg pc _ he)
  obtain rfl : len = 3 := of_decide_eq_true hl
  subst hn
  have hd2 := Nat.le_of_ble_eq_true hd1
  have hsum : ((st.map (oj_v ad)).map fun v => v.category).sum ≤ 8 := by rw [List.map_map]; simpa [Function.comp_def, oj_v_cat] using Nat.le_of_ble_eq_true hcat
  exact va_mmax hx hb (hml.trans hL.1.symm) hown (hts _ hw) (hts _ (by decide +kernel)) (hts _ (by decide +kernel)) (hts _ (by decide +kernel)) (by omega) (by omega) (Nat.le_trans hmc hR3) (Nat.le_trans hms hR4) hd (kk p l e R s m args below meth c1 A D tyA adK adV b scr ad0 L0 Qc C ad L H locs lsc ho hW hS hL)
theorem J_min {idx : Nat} {x y : Int32} (he : mT μ pc = some (.invokestatic idx, len, nx, c, t)) (hw : Cond.methodLink (oj_cls (mO μ)) idx Lib.Math.min.name ∈ lwG) (hd1 : Nat.ble 1 d = true) (hcat : Nat.ble ((st.map fun v => v.category).sum) 8 = true) (hmc : k ≤ mc) (hms : n ≤ ms) (kk : J μ d mc ms Q k n nx ls (.int (if y < x then y else x) :: st) h) : J μ d mc ms Q k n pc ls (.int y :: .int x :: st) h := by
  intro p l e R s m args below meth c1 A D tyA adK adV b scr ad0 L0 Qc C ad L H locs lsc ho hW hS hL
  obtain ⟨hx, hb, hg, hml, hown, hts, hlocks, -, hK, hSt, -, -, ⟨hR1, hR2, hR3, hR4⟩, -⟩ := id C
  obtain ⟨hd, hl, hn, hc, ht⟩ := oj_okE_spec (hg pc _ he)
  obtain rfl : len = 3 := of_decide_eq_true hl
  subst hn
  have hd2 := Nat.le_of_ble_eq_true hd1
  have hsum : ((st.map (oj_v ad)).map fun v => v.category).sum ≤ 8 := by rw [List.map_map]; simpa [Function.comp_def, oj_v_cat] using Nat.le_of_ble_eq_true hcat
  exact va_mmin hx hb (hml.trans hL.1.symm) hown (hts _ hw) (hts _ (by decide +kernel)) (hts _ (by decide +kernel)) (hts _ (by decide +kernel)) (by omega) (by omega) (Nat.le_trans hmc hR3) (Nat.le_trans hms hR4) hd (kk p l e R s m args below meth c1 A D tyA adK adV b scr ad0 L0 Qc C ad L H locs lsc ho hW hS hL)
end OJ8
