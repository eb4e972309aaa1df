section OJ3b
variable {μ : MI} {d mc ms : Nat} {Q : QT} {k n pc : Nat} {ls : List (Option Value)} {st : List Value} {h : AHp} {i : Instr} {len nx : Nat} {c : Int32} {t : Nat}
set_option maxHeartbeats 1000000 in
theorem JM_ofL {av : List Value} (hg : oj_good μ) (hcls : (mY μ).cls = oj_cls (mO μ)) (hpl : plainName (mY μ).cls = true) (hlen : av.length ≤ mL μ) (hcat : ∀ v ∈ av, v.category = 1) (hj : J μ d mc ms Q 0 0 0 (oj_ent av (mL μ)) [] h) : JM μ d mc ms av h Q := by
  intro l hl D tyA adK adV b scr ad L sz
  have body : ∀ p e s m args below meth c s₁, BodyLoose p l (mY μ) (headSpec (oj_cw μ :: lwG) (oj_rm d mc ms)) (mC μ) (mL μ) (mR μ) e s m args below meth c s₁ → c.maxLocals = mL μ → c.exceptionTable.toList = tableOf (mH μ) → oj_Pc av D tyA adK adV b scr ad L h sz args s →
      W p l e (headSpec (oj_cw μ :: lwG) (oj_rm d mc ms)).room s m args below meth c s.heap [] 0 0 (vx_MQ below (oj_QC (mA μ) Q (va_A (oj_w ad tyA L h) sz) D tyA adK b scr ad L) (oj_XC Q (va_A (oj_w ad tyA L h) sz) D tyA adK b scr ad L) args s mc ms (va_A (oj_w ad tyA L h) sz)) (entryFrame m args (mL μ)) := by
    intro p e s m args below meth c s₁ B hml hxt hv
    obtain ⟨rfl, hsz, hW, hK, hS, hSc⟩ := hv
    have hr := B.returns
    have hts := atoms_spec (ws := oj_cw μ :: lwG) B.pre
    have hown : s.vm.findClass (mY μ).cls = some m.cls := findClass_of_methodNamed B.named
    have hlocks := B.notSynchronized
    have hname := (name_of_methodNamed B.named B.method).1
    have hx := B.exec
    have hb := B.bytes
    rw [lg_entry_eq]
    have hlo := oj_entry (ad := ad) (nL := mL μ) hcat hlen
    refine hj p l e _ s m _ below meth c (va_A (oj_w ad tyA L h) sz) D tyA adK adV b scr ad L _ ⟨hx, hb, hg, hml, by rw [← hcls]; exact hown, fun w hw => hts w (List.mem_cons_of_mem _ hw), hlocks, fun q => hname.trans q, hK, hS, fun q hq => Or.inr (by rw [← hsz]; exact hq), hl, ⟨Nat.le_refl _, Nat.le_refl _, Nat.le_refl _, Nat.le_refl _⟩, hxt, hSc, ?_, fun _ _ => ⟨_, rfl⟩⟩ ad L s.heap [] _ ⟨fun _ => ⟨rfl, rfl⟩, fun _ _ => rfl, fun _ q => q⟩ hW va_S.rf hlo
    intro ad' L' H locs h' pc' lsc i v hok hW' hS' hd hrets hQ
    have hq : ∀ (t : State) (v' : Option Value), v' = v.map (oj_v ad') → t.heap = H → s.WarmedH t.vm → oj_QC (mA μ) Q (va_A (oj_w ad tyA L h) sz) D tyA adK b scr ad L (av.map (oj_v ad)).toArray s (.returned v') t := fun t v' hv' ht _ => ⟨⟨v, h', ad', L', by rw [hv'], hQ, hok, by rw [ht]; exact hW'⟩, hS'.F ht⟩
    refine vx_ret ?_
    cases i
    case ireturn =>
      cases v with
      | none => exact absurd hrets (by simp [oj_rets])
      | some v =>
        cases v with
        | int x =>
          cases hret : mR μ with
          | none => rw [hret] at hrets; exact absurd hrets (by simp [oj_rets])
          | some ty =>
            rw [hret] at hrets hr
            exact W.zret hx hb hr (of_decide_eq_true hrets) (fun t ht hW => hq t _ rfl ht hW) hS'.2.2 hd
        | _ => exact absurd hrets (by simp [oj_rets])
    case lreturn =>
      cases v with
      | none => exact absurd hrets (by simp [oj_rets])
      | some v =>
        cases v with
        | long x => exact W.lret hx hb (hr.trans (of_decide_eq_true hrets)) (fun t ht hW => hq t _ rfl ht hW) hS'.2.2 hd
        | _ => exact absurd hrets (by simp [oj_rets])
    case freturn =>
      cases v with
      | none => exact absurd hrets (by simp [oj_rets])
      | some v =>
        cases v with
        | float x => exact W.fret hx hb (hr.trans (of_decide_eq_true hrets)) (fun t ht hW => hq t _ rfl ht hW) hS'.2.2 hd
        | _ => exact absurd hrets (by simp [oj_rets])
    case dreturn =>
      cases v with
      | none => exact absurd hrets (by simp [oj_rets])
      | some v =>
        cases v with
        | double x => exact W.dret hx hb (hr.trans (of_decide_eq_true hrets)) (fun t ht hW => hq t _ rfl ht hW) hS'.2.2 hd
        | _ => exact absurd hrets (by simp [oj_rets])
    case areturn =>
      cases hret : mR μ with
      | none =>
        rw [hret] at hrets
        cases v with
        | none => exact absurd hrets (by simp [oj_rets])
        | some v => cases v <;> exact absurd hrets (by simp [oj_rets])
      | some ty =>
        have hrt : (∃ n, ty = .object n) ∨ ∃ t, ty = .array t := by
          rw [hret] at hrets
          cases v with
          | none => exact absurd hrets (by simp [oj_rets])
          | some v =>
            cases v <;> cases ty <;> first
              | exact Or.inl ⟨_, rfl⟩
              | exact Or.inr ⟨_, rfl⟩
              | exact absurd hrets (by simp [oj_rets])
        rw [hret] at hr
        cases v with
        | none => exact absurd hrets (by simp [oj_rets])
        | some v =>
          cases v with
          | ref x => exact W.aret hx hb hr hrt (Or.inr ⟨_, rfl⟩) (fun t ht hW => hq t _ rfl ht hW) hS'.2.2 hd
          | null => exact W.aret hx hb hr hrt (Or.inl rfl) (fun t ht hW => hq t _ rfl ht hW) hS'.2.2 hd
          | _ => exact absurd hrets (by simp [oj_rets])
    case return_ =>
      cases v with
      | none => exact W.vret hx hb (hr.trans (of_decide_eq_true hrets)) (fun t ht hW => hq t _ rfl ht hW) hS'.2.2 hd
      | some v => exact absurd hrets (by simp [oj_rets])
    all_goals exact absurd hrets (by simp [oj_rets])
  cases hH : mH μ with
  | nil =>
    refine vx_ofW (cc := mC μ) (maxL := mL μ) (ret := mR μ) (ws' := lwG) hpl (by unfold oj_cw; rw [hH]) ?_
    intro p e s m args below meth c s₁ B hml ht hv
    refine body p e s m args below meth c s₁ B hml ?_ hv
    rw [hH]
    exact List.eq_nil_iff_forall_not_mem.mpr fun x hx => ht x hx
  | cons x xs =>
    refine vx_ofWH (cc := mC μ) (maxL := mL μ) (ret := mR μ) (hh := x :: xs) (ws' := lwG) hpl (by unfold oj_cw; rw [hH]) ?_
    intro p e s m args below meth c s₁ B hml hv
    refine body p e s m args below meth c s₁ B hml ?_ hv
    rw [hH]
    refine vx_table (x := mY μ) B (y := mY μ) (bytes := mC μ) (maxL' := mL μ) (ret' := mR μ) ?_
    have := atoms_spec (ws := oj_cw μ :: lwG) B.pre _ List.mem_cons_self
    unfold oj_cw at this
    rw [hH] at this
    exact this
end OJ3b
theorem rets_i {μ : MI} {x : Int32} (hr : mR μ = some .int) : oj_rets (mR μ) .ireturn (some (.int x)) = true := by rw [hr]; exact decide_eq_true rfl
/-! the law's own state: the class at 0, the script, and where new cells may come -/
theorem CrAt_lo {h : AHp} {a N : Nat} {l : List Row} {nb : Int32} (H : CrAt h a l nb) (ha : a + 7 < N) : ∀ x, a ≤ x → x ≤ a + 7 → oj_lo N (h x) := by
  obtain ⟨R, ⟨e0, e1, e2, e3, e4, e5, e6, e7, -⟩, -⟩ := H
  intro x h1 h2
  obtain rfl | rfl | rfl | rfl | rfl | rfl | rfl | rfl : x = a ∨ x = a + 1 ∨ x = a + 2 ∨ x = a + 3 ∨ x = a + 4 ∨ x = a + 5 ∨ x = a + 6 ∨ x = a + 7 := by omega
  · rw [e0]; exact lo_ref ⟨Or.inl (by omega), Or.inl (by omega), Or.inl (by omega), Or.inl (by omega), Or.inl (by omega), Or.inl (by omega), Or.inl (by omega), trivial⟩
  · rw [e1]; exact trivial
  · rw [e2]; exact trivial
  · rw [e3]; exact trivial
  · rw [e4]; exact trivial
  · rw [e5]; exact trivial
  · rw [e6]; exact trivial
  · rw [e7]; exact trivial
theorem LnR_lo {h : AHp} {a N : Nat} {q : LQ} (H : LnR h a q) (ha : a + 9 < N) : ∀ x, a ≤ x → x ≤ a + 9 → oj_lo N (h x) := by
  obtain ⟨sl, -, e0, e1, hc⟩ := H
  intro x h1 h2
  obtain rfl | rfl | h3 : x = a ∨ x = a + 1 ∨ a + 2 ≤ x := by omega
  · rw [e0]; exact lo_ref ⟨Or.inl (by omega), Or.inl (by omega), trivial⟩
  · rw [e1]; exact trivial
  · exact CrAt_lo hc (by omega) x h3 (by omega)
theorem nodup_le : ∀ (n : Nat) (l : List Nat), l.Nodup → (∀ x ∈ l, x < n) → l.length ≤ n := by
  intro n
  induction n with
  | zero =>
    intro l _ h
    cases l with
    | nil => exact Nat.le_refl _
    | cons x l => exact absurd (h x List.mem_cons_self) (Nat.not_lt_zero _)
  | succ n ih =>
    intro l hn h
    by_cases hm : n ∈ l
    · have h1 := ih (l.erase n) (hn.erase n) (fun x hx => by
        have h2 := h x (List.mem_of_mem_erase hx)
        have h3 : x ≠ n := ((hn.mem_erase_iff).mp hx).1
        omega)
      rw [List.length_erase_of_mem hm] at h1
      omega
    · have := ih l hn (fun x hx => by
        have h2 := h x hx
        have h3 : x ≠ n := fun z => hm (z ▸ hx)
        omega)
      omega
/-- eight blocks of ten in eighty places: each place is in one -/
theorem HB_cover {g : Nat → Nat} (H : HB g) {x : Nat} (h1 : 33 ≤ x) (h2 : x ≤ 112) : ∃ i, i < 8 ∧ g i ≤ x ∧ x ≤ g i + 9 := by
  refine Decidable.byContradiction fun hno => ?_
  have hL : ((List.range 80).map fun k => g (k / 10) + k % 10).Nodup := by
    unfold List.Nodup
    rw [List.pairwise_map]
    refine List.Pairwise.imp_of_mem ?_ (List.pairwise_lt_range (n := 80))
    intro a b ha hb hab
    have ha2 := List.mem_range.mp ha
    have hb2 := List.mem_range.mp hb
    by_cases e : a / 10 = b / 10
    · rw [e]; omega
    · have := H.2 (a / 10) (b / 10) (by omega) (by omega) e
      omega
  have hx : x ∉ ((List.range 80).map fun k => g (k / 10) + k % 10) := by
    intro hm
    obtain ⟨k, hk, e⟩ := List.mem_map.mp hm
    have hk2 := List.mem_range.mp hk
    exact hno ⟨k / 10, by omega, by omega, by omega⟩
  have hN : ((x :: ((List.range 80).map fun k => g (k / 10) + k % 10)).map fun y => y - 33).Nodup := by
    unfold List.Nodup
    rw [List.pairwise_map]
    refine List.Pairwise.imp_of_mem ?_ (List.nodup_cons.mpr ⟨hx, hL⟩)
    have hb : ∀ y ∈ (x :: ((List.range 80).map fun k => g (k / 10) + k % 10)), 33 ≤ y ∧ y ≤ 112 := by
      intro y hy
      rcases List.mem_cons.mp hy with rfl | hy
      · exact ⟨h1, h2⟩
      · obtain ⟨k, hk, e⟩ := List.mem_map.mp hy
        have hk2 := List.mem_range.mp hk
        have := H.1 (k / 10) (by omega)
        omega
    intro a b ha hb2 hab
    have := hb a ha
    have := hb b hb2
    omega
  have hle := nodup_le 80 _ hN (by
    intro y hy
    obtain ⟨z, hz, e⟩ := List.mem_map.mp hy
    rcases List.mem_cons.mp hz with rfl | hz
    · omega
    · obtain ⟨k, hk, e2⟩ := List.mem_map.mp hz
      have hk2 := List.mem_range.mp hk
      have := H.1 (k / 10) (by omega)
      omega)
  rw [List.length_map, List.length_cons, List.length_map, List.length_range] at hle
  omega
theorem CRep_lo {h : AHp} {A : AS} {N : Nat} (H : CRep h A) (hN : 121 ≤ N) : ∀ x, x ≤ 120 → oj_lo N (h x) := by
  obtain ⟨e, hL, ⟨q1, w1⟩, ⟨q2, w2⟩, -, hH, hO, T, p, m, hP⟩ := H
  obtain ⟨f, g, hB, hf, h31, h32, -, hq, -⟩ := hH
  obtain ⟨o0, ⟨fo, o1, -⟩, -⟩ := hO
  obtain ⟨p0, ⟨fp, p1, -⟩, p2, p3, p4, p5, -⟩ := hP
  intro x hx
  obtain rfl | h1 | h1 | h1 | rfl | rfl | h1 | rfl | rfl | h1 : x = 0 ∨ (1 ≤ x ∧ x ≤ 10) ∨ (11 ≤ x ∧ x ≤ 20) ∨ (21 ≤ x ∧ x ≤ 30) ∨ x = 31 ∨ x = 32 ∨ (33 ≤ x ∧ x ≤ 112) ∨ x = 113 ∨ x = 114 ∨ (115 ≤ x ∧ x ≤ 120) := by omega
  · rw [e]; exact lo_ref ⟨Or.inl (by omega), Or.inl (by omega), Or.inl (by omega), Or.inl (by omega), Or.inl (by omega), Or.inl (by omega), trivial⟩
  · exact LnR_lo hL (by omega) x h1.1 (by omega)
  · exact LnR_lo w1 (by omega) x h1.1 (by omega)
  · exact LnR_lo w2 (by omega) x h1.1 (by omega)
  · rw [h31]; exact lo_ref ⟨Or.inl (by omega), trivial⟩
  · rw [h32]
    intro j v hj hv
    rw [hf j hj] at hv
    cases hv
    have := hB.1 j hj
    omega
  · obtain ⟨i, hi, z1, z2⟩ := HB_cover hB h1.1 h1.2
    have := hB.1 i hi
    obtain ⟨q, hq⟩ := hq i hi
    exact LnR_lo hq (by omega) x z1 z2
  · rw [o0]; exact lo_ref ⟨Or.inl (by omega), trivial⟩
  · rw [show (114 : Nat) = 113 + 1 from rfl, o1]; exact trivial
  · obtain rfl | rfl | rfl | rfl | rfl | rfl : x = 115 ∨ x = 115 + 1 ∨ x = 115 + 2 ∨ x = 115 + 3 ∨ x = 115 + 4 ∨ x = 115 + 5 := by omega
    · rw [p0]; exact lo_ref ⟨Or.inl (by omega), Or.inl (by omega), Or.inl (by omega), Or.inl (by omega), Or.inl (by omega), trivial⟩
    · rw [p1]; exact trivial
    · rw [p2]; exact trivial
    · rw [p3]; exact trivial
    · rw [p4]; exact trivial
    · rw [p5]; exact trivial
/-- the law's world: the class, the script, new cells from M on -/
def LWs (N : Nat) (xs : Nat → Int32) (A : AS) (M : Nat) (h : AHp) : Prop := CRep h A ∧ oj_bd M h ∧ 121 ≤ M ∧ h 999999 = .inl (9, N, .inl xs)
theorem LWs.step {N : Nat} {xs : Nat → Int32} {A B : AS} {M : Nat} {h h' : AHp} (H : LWs N xs A M h) (S : CStep h B h') : LWs N xs B M h' := by
  obtain ⟨-, hb, hM, hs⟩ := H
  refine ⟨S.1, ⟨fun x z1 z2 => (S.2 x (by omega)).trans (hb.1 x z1 z2), fun x => ?_⟩, hM, (S.2 _ (by omega)).trans hs⟩
  rcases Nat.lt_or_ge 120 x with z | z
  · rw [S.2 x z]; exact hb.2 x
  · exact CRep_lo S.1 hM x z
theorem CRep_up {h h' : AHp} {A : AS} (hh : ∀ x, x ≤ 120 → h' x = h x) (H : CRep h A) : CRep h' A := by
  obtain ⟨e, hL, ⟨q1, w1⟩, ⟨q2, w2⟩, hsv2, hH, hO, T, p, m, hP⟩ := H
  exact ⟨(hh _ (by decide)).trans e, LnR_mv (fun x z1 z2 => hh x (by omega)) hL, ⟨q1, LnR_mv (fun x z1 z2 => hh x (by omega)) w1⟩, ⟨q2, LnR_mv (fun x z1 z2 => hh x (by omega)) w2⟩, fun q w => LnR_mv (fun x z1 z2 => hh x (by omega)) (hsv2 q w), HsAt_mv (fun x z1 z2 => hh x (by omega)) hH, OutAt_mv (fun x z1 z2 => hh x (by omega)) hO, T, p, m, PgAt_mv (fun x z1 z2 => hh x (by omega)) hP⟩
set_option maxRecDepth 100000 in
set_option maxHeartbeats 2000000 in
theorem c_cell {d N i : Nat} {xs : Nat → Int32} {h : AHp} (e : h 999999 = .inl (9, N, .inl xs)) (hN : N ≤ 260) (hi : i < 100000) : JM mi_L_cell d 0 0 [.ref 999999, .int (nI i)] h (fun r h' => (∃ x, r = .inl (some (.int x))) ∧ h' = h) := by
  refine JM_of gd_L_cell rfl (by decide +kernel) (Nat.le_of_ble_eq_true rfl) (oj_cats rfl) (by decide) ?_
  have tail : ∀ v : Int32, J mi_L_cell d 0 0 (fun r h' => (∃ x, r = .inl (some (.int x))) ∧ h' = h) 0 0 15 (oj_ent [.ref 999999, .int (nI i)] (mL mi_L_cell)) [.int v, .int 69069] h := by
    intro v
    iterate 13 (refine J_step rfl rfl ?_)
    refine J_ldcI (v := 1103515245) rfl (by decide +kernel) ?_
    iterate 7 (refine J_step rfl rfl ?_)
    exact J_iret rfl rfl rfl rfl ⟨⟨_, rfl⟩, rfl⟩
  refine J_ldcI (v := 69069) rfl (by decide +kernel) ?_
  iterate 2 (refine J_step rfl rfl ?_)
  refine J_slen rfl e ?_
  refine J_ic rfl (fun _ => ?_) (fun z => ?_)
  · refine J_step rfl rfl ?_
    exact tail _
  · have hlt : i < N := by
      rcases Nat.lt_or_ge i N with w | w
      · exact w
      · exact absurd (show nI N ≤ nI i from nI_le w (by omega)) z
    iterate 2 (refine J_step rfl rfl ?_)
    refine J_sld rfl e (vp_in_nI hlt (by omega)) ?_
    refine J_step rfl rfl ?_
    exact tail _
set_option maxRecDepth 100000 in
set_option maxHeartbeats 2000000 in
theorem c_in {N i n : Nat} {xs : Nat → Int32} {h : AHp} (e : h 999999 = .inl (9, N, .inl xs)) (hN : N ≤ 260) (hi : i < 100000) (hn : 0 < n) (hn2 : n < 1000) : JM mi_L_in 1 0 0 [.ref 999999, .int (nI i), .int (nI n)] h (fun r h' => (∃ v, v < n ∧ r = .inl (some (.int (nI v)))) ∧ h' = h) := by
  refine JM_of gd_L_in rfl (by decide +kernel) (Nat.le_of_ble_eq_true rfl) (oj_cats rfl) (by decide) ?_
  iterate 2 (refine J_step rfl rfl ?_)
  refine J_callS rfl rfl rfl rfl (Or.inl rfl) rfl rfl rfl rfl (c_cell (d := 0) e hN hi) (Nat.le_refl _) (Nat.le_refl _) (fun E h' z => by obtain ⟨⟨x, z⟩, -⟩ := z; cases z) (fun v h' z => ?_)
  obtain ⟨⟨x, z1⟩, rfl⟩ := z
  cases z1
  refine J_ldcI (v := 2147483647) rfl (by decide +kernel) ?_
  obtain ⟨j, hj, ej⟩ := pk_andE x (m := 2147483647) 31 (by decide)
  refine J_step rfl rfl ?_
  rw [ej]
  refine J_step rfl rfl ?_
  refine J_irem rfl (nI_ne0 hn (by omega)) ?_
  rw [pk_rem hj hn (by omega)]
  exact J_iret rfl rfl rfl rfl ⟨⟨_, Nat.mod_lt _ hn, rfl⟩, rfl⟩
