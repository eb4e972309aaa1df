/-! fields -/
def oj_fl (key : Nat) : Option (Nat × Nat) := bif Nat.ble 8192 key then none else oj_ftab key
def oj_chkF (key : Nat) (q : Nat × Nat) (ix : List Nat) : Bool := match vwCl[q.1]? with
  | some (_, T, N) => decide (q.2 < N) && decide (lw_tbl[ix.headD 0]? = some (.fieldLink (oj_cls (key / 1024)) (key % 1024) (T q.2).1 (T q.2).2.1 (T q.2).2.2.1))
  | none => false
set_option maxRecDepth 100000 in
theorem oj_ftab_all : (List.range 8192).all (fun key => match oj_ftab key with | none => true | some q => (match oj_fix key with | some ix => oj_chkF key q ix | none => false)) = true := by decide +kernel
theorem oj_lwG {w : Cond} {i : Nat} (h : lw_tbl[i]? = some w) (hg : goodWord w = true) : w ∈ lwG := List.mem_filter.mpr ⟨List.mem_of_getElem? h, hg⟩
theorem oj_fl_ok {key ci k : Nat} (h : oj_fl key = some (ci, k)) : ∃ (C : String) (T : u_T) (N : Nat), vwCl[ci]? = some (C, T, N) ∧ k < N ∧ Cond.fieldLink (oj_cls (key / 1024)) (key % 1024) (T k).1 (T k).2.1 (T k).2.2.1 ∈ lwG := by
  unfold oj_fl at h
  cases hb : Nat.ble 8192 key with
  | true => rw [hb] at h; cases h
  | false =>
    rw [hb] at h
    have hlt : key < 8192 := by
      rcases Nat.lt_or_ge key 8192 with q | q
      · exact q
      · rw [Nat.ble_eq_true_of_le q] at hb; cases hb
    have h1 := List.all_eq_true.mp oj_ftab_all key (List.mem_range.mpr hlt)
    have h' : oj_ftab key = some (ci, k) := h
    rw [h'] at h1
    cases hx : oj_fix key with
    | none => simp only [hx] at h1; cases h1
    | some ix =>
      simp only [hx, oj_chkF] at h1
      cases hv : vwCl[ci]? with
      | none => rw [hv] at h1; cases h1
      | some r =>
        obtain ⟨C, T, N⟩ := r
        rw [hv] at h1
        simp only [Bool.and_eq_true, decide_eq_true_eq] at h1
        exact ⟨C, T, N, rfl, h1.1, oj_lwG h1.2 rfl⟩
def oj_ty (ci k : Nat) : FieldType := match ci with
  | 0 => tyX0 k
  | 1 => tyX1 k
  | 2 => tyX2 k
  | 3 => tyX3 k
  | 4 => tyX4 k
  | 5 => tyX5 k
  | 6 => tyJ4 k
  | _ => tyJ0 k
/-- the name of a class of objects: 7 is String (as a class of methods 7 is the law's) -/
def oj_hc (ci : Nat) : String := bif Nat.beq ci 7 then RJ0 else oj_cls ci
theorem oj_hc_eq {ci : Nat} (h : ci < 7) : oj_hc ci = oj_cls ci := by
  unfold oj_hc
  cases hb : Nat.beq ci 7 with
  | true => exact absurd (Nat.eq_of_beq_eq_true hb) (by omega)
  | false => rfl
set_option maxRecDepth 100000 in
theorem oj_uws : ∀ q ∈ vwCl, ∀ w ∈ u_ws q.1 q.2.1 q.2.2, w ∈ lwG := by decide +kernel
theorem oj_cl_ok {ci : Nat} {C : String} {T : u_T} {N : Nat} (h : vwCl[ci]? = some (C, T, N)) : (∀ w ∈ u_ws C T N, w ∈ lwG) ∧ (∀ k, k < N → parseFieldDescriptor (T k).2.2.1 = some (oj_ty ci k)) ∧ (∀ a, a < N → ∀ b, b < N → a ≠ b → (T a).2.1 ≠ (T b).2.1) ∧ ci < 8 ∧ C = oj_hc ci ∧ (ci ≠ 6 → ∀ k, (T k).1 = C) := by
  have hm := List.mem_of_getElem? h
  refine ⟨oj_uws _ hm, ?_⟩
  match ci, h with
  | 0, h => cases h; exact ⟨tyX0_ok, nmX0, by decide, rfl, fun _ k => by unfold TX0; split <;> rfl⟩
  | 1, h => cases h; exact ⟨tyX1_ok, nmX1, by decide, rfl, fun _ k => by unfold TX1; split <;> rfl⟩
  | 2, h => cases h; exact ⟨tyX2_ok, nmX2, by decide, rfl, fun _ k => by unfold TX2; split <;> rfl⟩
  | 3, h => cases h; exact ⟨tyX3_ok, nmX3, by decide, rfl, fun _ k => by unfold TX3; split <;> rfl⟩
  | 4, h => cases h; exact ⟨tyX4_ok, nmX4, by decide, rfl, fun _ k => by unfold TX4; split <;> rfl⟩
  | 5, h => cases h; exact ⟨tyX5_ok, nmX5, by decide, rfl, fun _ k => by unfold TX5; split <;> rfl⟩
  | 6, h => cases h; exact ⟨tyJ4_ok, nmJ4, by decide, rfl, fun z => absurd rfl z⟩
  | 7, h => cases h; exact ⟨tyJ0_ok, nmJ0, by decide, rfl, fun _ k => by unfold TJ0; split <;> rfl⟩
  | k + 8, h => simp [vwCl] at h
theorem oj_inr_ne {ci : Nat} {fs : List Value} (h : ci < 8) : (.inr (ci, fs) : AC) ≠ nilc := by
  intro z
  injection z with z
  injection z with z1 z2
  omega
section OJ2
variable {μ : MI} {d mc ms : Nat} {Q : QT} {k n pc : Nat} {ls : List (Option Value)} {st : List Value} {h : AHp} {i : Instr} {len nx : Nat} {c : Int32} {t : Nat}
theorem oj_key {o idx : Nat} (hi : idx < 1024) : (o * 1024 + idx) / 1024 = o ∧ (o * 1024 + idx) % 1024 = idx := by omega
theorem J_getf {a idx ci k0 : Nat} {fs : List Value} {v : Value} (he : mT μ pc = some (.getfield idx, len, nx, c, t)) (hi : Nat.blt idx 1024 = true) (hf : oj_fl (mO μ * 1024 + idx) = some (ci, k0)) (ha : h a = .inr (ci, fs)) (hv : fs[k0]? = some v) (kk : J μ d mc ms Q k n nx ls (v :: st) h) : J μ d mc ms Q k n pc ls (.ref a :: st) h := by
  intro p l e R s m args below meth c1 A D tyA adK adV b scr ad0 L0 Qc C ad L H locs lsc ho hW hS hL
  obtain ⟨hx, hb, hg, hml, hown, hts, -, -, hK, -⟩ := id C
  obtain ⟨hd, hl, hn, hc, ht⟩ := oj_okE_spec (hg pc _ he)
  have KK := kk p l e R s m args below meth c1 A D tyA adK adV b scr ad0 L0 Qc C ad L H locs lsc ho hW hS hL
  obtain rfl : len = 3 := of_decide_eq_true hl
  subst hn
  obtain ⟨CC, T, N, hcl, hk0, hw⟩ := oj_fl_ok hf
  rw [(oj_key (Nat.le_of_ble_eq_true hi)).1, (oj_key (Nat.le_of_ble_eq_true hi)).2] at hw
  obtain ⟨hin, hty, hnm, h7, -, -⟩ := oj_cl_ok hcl
  obtain ⟨i9, hi9, hw9⟩ := oj_idx hW (a := a) (by rw [ha]; exact oj_inr_ne h7) (by rw [ha]; intro N9 y9 z; cases z)
  rw [ha] at hw9
  exact va_get hx hb hts hin hown hK hW.1 i9 hw9 hcl k0 hk0 (hts _ hw) (fun _ h9 => h9) (by show (fs.map (oj_v ad))[k0]? = _; rw [List.getElem?_map, hv]; rfl) hd KK
theorem oj_map_set (ad : Nat → Nat) (fs : List Value) (k0 : Nat) (v : Value) : (fs.map (oj_v ad)).set k0 (oj_v ad v) = (fs.set k0 v).map (oj_v ad) := by rw [List.map_set]
theorem J_putf {a idx ci k0 : Nat} {fs : List Value} {v : Value} (he : mT μ pc = some (.putfield idx, len, nx, c, t)) (hi : Nat.blt idx 1024 = true) (hf : oj_fl (mO μ * 1024 + idx) = some (ci, k0)) (ha : h a = .inr (ci, fs)) (hl0 : Nat.blt k0 fs.length = true) (hnf : (vwCl[ci]?.map fun r => (r.2.1 k0).2.2.2) = some false) (hr : ∀ ad, oj_v ad v = v) (hn0 : narrow (oj_ty ci k0) v = v) (hfit : fits (oj_ty ci k0) v = true) (kk : J μ d mc ms Q k n nx ls st (oj_up h a (.inr (ci, fs.set k0 v)))) : J μ d mc ms Q k n pc ls (v :: .ref a :: st) h := by
  intro p l e R s m args below meth c1 A D tyA adK adV b scr ad0 L0 Qc C ad L H locs lsc ho hW hS hL
  obtain ⟨hx, hb, hg, hml, hown, hts, -, -, hK, -⟩ := id C
  obtain ⟨hd, hl, hn, hc, ht⟩ := oj_okE_spec (hg pc _ he)
  obtain rfl : len = 3 := of_decide_eq_true hl
  subst hn
  obtain ⟨CC, T, N, hcl, hk0, hw⟩ := oj_fl_ok hf
  rw [(oj_key (Nat.le_of_ble_eq_true hi)).1, (oj_key (Nat.le_of_ble_eq_true hi)).2] at hw
  obtain ⟨hin, hty, hnm, h7, -, -⟩ := oj_cl_ok hcl
  obtain ⟨i9, hi9, hw9⟩ := oj_idx hW (a := a) (by rw [ha]; exact oj_inr_ne h7) (by rw [ha]; intro N9 y9 z; cases z)
  rw [ha] at hw9
  have hnf' : (T k0).2.2.2 = false := by rw [hcl] at hnf; exact Option.some.inj hnf
  show W p l e R s m args below meth c1 H locs k n Qc (F0 m pc lsc (oj_v ad v :: .ref (ad a) :: st.map (oj_v ad)))
  have hset : (.inr (ci, (fs.map (oj_v ad)).set k0 (oj_v ad v)) : va_E) = oj_c ad tyA (.inr (ci, fs.set k0 v)) := by rw [oj_map_set]; rfl
  rw [hr ad]
  refine va_put hx hb hts hin (oj_ty ci) hty hnm hown hK hW.1 hW.2.1 hS i9 hw9 hcl k0 hk0 (hts _ hw) (fun _ h9 => h9) hnf' (hty k0 hk0) hn0 hfit (by rw [List.length_map]; exact Nat.le_of_ble_eq_true hl0) hd (fun H1 locs1 hP1 hD1 hS1 => ?_)
  rw [← hr ad, hset] at hP1 hD1
  exact kk p l e R s m args below meth c1 A D tyA adK adV b scr ad0 L0 Qc C ad L H1 locs1 lsc ho (oj_W.put hW hi9 (oj_inr_ne h7) hP1 hD1) hS1 hL
/-- a constructor's final field that holds a cell -/
theorem J_putF {a b1 idx ci k0 : Nat} {fs : List Value} (he : mT μ pc = some (.putfield idx, len, nx, c, t)) (hi : Nat.blt idx 1024 = true) (hf : oj_fl (mO μ * 1024 + idx) = some (ci, k0)) (ha : h a = .inr (ci, fs)) (hl0 : Nat.blt k0 fs.length = true) (hnf : (vwCl[ci]?.map fun r => (r.2.1 k0).2.2.2) = some true) (hini : (mY μ).name = "<init>") (hoc : ci = mO μ) (hr : ∀ x, narrow (oj_ty ci k0) (.ref x) = .ref x ∧ fits (oj_ty ci k0) (.ref x) = true) (kk : J μ d mc ms Q k n nx ls st (oj_up h a (.inr (ci, fs.set k0 (.ref b1))))) (h6 : ci ≠ 6 := by decide) (h7' : ci ≠ 7 := by decide) : J μ d mc ms Q k n pc ls (.ref b1 :: .ref a :: st) h := by
  intro p l e R s m args below meth c1 A D tyA adK adV b scr ad0 L0 Qc C ad L H locs lsc ho hW hS hL
  obtain ⟨hx, hb, hg, hml, hown, hts, -, hin2, hK, -⟩ := id C
  obtain ⟨hd, hl, hn, hc, ht⟩ := oj_okE_spec (hg pc _ he)
  obtain rfl : len = 3 := of_decide_eq_true hl
  subst hn
  obtain ⟨CC, T, N, hcl, hk0, hw⟩ := oj_fl_ok hf
  rw [(oj_key (Nat.le_of_ble_eq_true hi)).1, (oj_key (Nat.le_of_ble_eq_true hi)).2] at hw
  obtain ⟨hin, hty, hnm, h7, hCC, hT1⟩ := oj_cl_ok hcl
  obtain ⟨i9, hi9, hw9⟩ := oj_idx hW (a := a) (by rw [ha]; exact oj_inr_ne h7) (by rw [ha]; intro N9 y9 z; cases z)
  rw [ha] at hw9
  have hnf' : (T k0).2.2.2 = true := by rw [hcl] at hnf; exact Option.some.inj hnf
  have hset : (.inr (ci, (fs.map (oj_v ad)).set k0 (oj_v ad (.ref b1))) : va_E) = oj_c ad tyA (.inr (ci, fs.set k0 (.ref b1))) := by rw [oj_map_set]; rfl
  refine va_putF hx hb hts hin (oj_ty ci) hty hnm hown hK hW.1 hW.2.1 hS i9 hw9 hcl k0 hk0 (hts _ hw) (fun _ h9 => h9) hnf' (hin2 hini) (by rw [hT1 (fun z => h6 z), hCC, oj_hc_eq (Nat.lt_of_le_of_ne (Nat.le_of_lt_succ h7) (fun z => h7' z)), hoc]) (hty k0 hk0) (hr _).1 (hr _).2 (by rw [List.length_map]; exact Nat.le_of_ble_eq_true hl0) hd (fun H1 locs1 hP1 hD1 hS1 => ?_)
  rw [hset] at hP1 hD1
  exact kk p l e R s m args below meth c1 A D tyA adK adV b scr ad0 L0 Qc C ad L H1 locs1 lsc ho (oj_W.put hW hi9 (oj_inr_ne h7) hP1 hD1) hS1 hL
/-! ends -/
theorem J_ret {v : Option Value} (he : mT μ pc = some (i, len, nx, c, t)) (hr : oj_rets (mR μ) i v = true) (hk : k ≤ mc) (hn : n ≤ ms) (hq : Q (.inl v) h) (hst : st = v.toList) : J μ d mc ms Q k n pc ls st h := by
  intro p l e R s m args below meth c1 A D tyA adK adV b scr ad0 L0 Qc C ad L H locs lsc ho hW hS hL
  obtain ⟨-, -, hg, -, -, -, -, -, -, -, -, -, -, -, -, hend⟩ := id C
  obtain ⟨hd, hl, -, -, -⟩ := oj_okE_spec (hg pc _ he)
  have hlen : len = 1 := by
    cases i <;> first | (exact of_decide_eq_true hl) | (exact absurd hr (by simp [oj_rets]))
  subst hlen; subst hst
  have hk' : W p l e R s m args below meth c1 H locs mc ms Qc (F0 m pc lsc (v.map (oj_v ad)).toList) := hend.1 ad L H locs h pc lsc i v ho hW hS hd hr hq
  rw [show v.toList.map (oj_v ad) = (v.map (oj_v ad)).toList by cases v <;> rfl]
  exact W.widen hk hn hk'
end OJ2
