/-! a builder at work in the law: hb the heap before it, new cells from B0 on -/
def SBx (hb h : AHp) (a B0 M n : Nat) : Prop := ∃ b m f, SBs h a b m n f ∧ B0 ≤ a ∧ a < M ∧ B0 ≤ b ∧ b < M ∧ oj_bd M h ∧ ∀ x, (x < B0 ∨ 999999 ≤ x) → h x = hb x
abbrev okB (hb : AHp) (B0 : Nat) : Nat → Prop := fun x => (x < B0 ∨ 999999 ≤ x) ∧ (hb x ≠ nilc ∨ 999999 ≤ x)
theorem loLv_imp {P R : Nat → Prop} (hPR : ∀ x, P x → R x) : ∀ {l : List Value}, loLv P l → loLv R l
  | [], _ => trivial
  | v :: l, H => by cases v <;> first | exact ⟨hPR _ H.1, loLv_imp hPR H.2⟩ | exact loLv_imp (l := l) hPR H
theorem loLs_imp {P R : Nat → Prop} (hPR : ∀ x, P x → R x) : ∀ {l : List (Option Value)}, loLs P l → loLs R l
  | [], _ => trivial
  | none :: l, H => loLs_imp (l := l) hPR H
  | some v :: l, H => by cases v <;> first | exact ⟨hPR _ H.1, loLs_imp hPR H.2⟩ | exact loLs_imp (l := l) hPR H
theorem SBx.ok {hb h : AHp} {a B0 M n : Nat} (H : SBx hb h a B0 M n) : ∀ x, okB hb B0 x → (h x ≠ nilc ∨ 999999 ≤ x) := by
  obtain ⟨b, m, f, -, -, -, -, -, -, hk⟩ := H
  intro x hx
  rw [hk x hx.1]
  exact hx.2
theorem SBx.of {hb h h' : AHp} {a B0 M b n n' : Nat} (hB : B0 ≤ b) (ha : B0 ≤ a) (haM : a < M) (hbM : B0 ≤ M) (hk : ∀ x, (x < B0 ∨ 999999 ≤ x) → h x = hb x) (hM : M < 999990) (hb9 : b < M) (K : SBok h h' a b M n') : ∃ M', SBx hb h' a B0 M' n' ∧ M ≤ M' ∧ M' ≤ M + 1 := by
  obtain ⟨b', m', f', M', H1, h2, h3, h4, h5, h6, h7⟩ := K
  refine ⟨M', ⟨b', m', f', H1, ha, by omega, by omega, h3, h6, fun x hx => ?_⟩, h4, h5⟩
  rw [h7 x (by omega) (by omega) (by omega), hk x hx]
section OJ80
variable {μ : MI} {d mc ms : Nat} {Q : QT} {k n pc : Nat} {ls : List (Option Value)} {st : List Value} {h : AHp} {i : Instr} {len nx : Nat} {c : Int32} {t : Nat}
theorem J_appS {hb : AHp} {a B0 M w s nn idx : Nat} (H : SBx hb h a B0 M nn) (HS : StrA h s w a M) (hq : nn + w ≤ 60) (hM : M < 999990) (he : mT μ pc = some (.invokevirtual idx, len, nx, c, t)) (hw : ∀ x ∈ wsV (oj_cls (mO μ)) idx (oj_hc 6) (mY mi_J4_append_15ec4) [oj_cw mi_J4_append_15ec4], x ∈ lwG) (hA : mA μ = true) (hd : Nat.ble 6 d = true) (hcat : Nat.ble ((st.map fun v => v.category).sum) 8 = true) (hst : loLv (okB hb B0) st) (hls : loLs (okB hb B0) ls) (hmc : k + 1 ≤ mc) (hms : n + 122 ≤ ms)
    (kk : ∀ M' h', SBx hb h' a B0 M' (nn + w) → M ≤ M' → M' ≤ M + 1 → J μ d mc ms Q (k + 1) (n + 122) nx ls (.ref a :: st) h') : J μ d mc ms Q k n pc ls (.ref s :: .ref a :: st) h := by
  obtain ⟨b, m, f, H1, g1, g2, g3, g4, g5, g6⟩ := id H
  refine J_dV (μ' := mi_J4_append_15ec4) (na := 1) (As := [.ref s]) (ci := 6) he rfl H1.1 rfl hw (by decide +kernel) (by decide) rfl hd hcat (c_appS H1 HS hq g5 hM g2 g4) hmc hms (oj_halT hA (loLv_imp H.ok hst) (loLs_imp H.ok hls)) (fun E h' z => by cases z.1) (fun v h' z => ?_)
  obtain ⟨z1, z2⟩ := z
  cases z1
  obtain ⟨M', K, k1, k2⟩ := SBx.of (n := nn) g3 g1 g2 (by omega) g6 hM g4 z2
  exact kk M' h' K k1 k2
theorem J_appI {hb : AHp} {a B0 M v nn idx : Nat} (H : SBx hb h a B0 M nn) (hv : v < 100) (hq : nn + sgN v ≤ 60) (hM : M < 999990) (he : mT μ pc = some (.invokevirtual idx, len, nx, c, t)) (hw : ∀ x ∈ wsV (oj_cls (mO μ)) idx (oj_hc 6) (mY mi_J4_append_bf812) [oj_cw mi_J4_append_bf812], x ∈ lwG) (hA : mA μ = true) (hd : Nat.ble 6 d = true) (hcat : Nat.ble ((st.map fun v => v.category).sum) 8 = true) (hst : loLv (okB hb B0) st) (hls : loLs (okB hb B0) ls) (hmc : k + 1 ≤ mc) (hms : n + 122 ≤ ms)
    (kk : ∀ M' h', SBx hb h' a B0 M' (nn + sgN v) → M ≤ M' → M' ≤ M + 1 → J μ d mc ms Q (k + 1) (n + 122) nx ls (.ref a :: st) h') : J μ d mc ms Q k n pc ls (.int (nI v) :: .ref a :: st) h := by
  obtain ⟨b, m, f, H1, g1, g2, g3, g4, g5, g6⟩ := id H
  refine J_dV (μ' := mi_J4_append_bf812) (na := 1) (As := [.int (nI v)]) (ci := 6) he rfl H1.1 rfl hw (by decide +kernel) (by decide) rfl hd hcat (c_appI H1 hv hq g5 hM g2 g4) hmc hms (oj_halT hA (loLv_imp H.ok hst) (loLs_imp H.ok hls)) (fun E h' z => by cases z.1) (fun v h' z => ?_)
  obtain ⟨z1, z2⟩ := z
  cases z1
  obtain ⟨M', K, k1, k2⟩ := SBx.of (n := nn) g3 g1 g2 (by omega) g6 hM g4 z2
  exact kk M' h' K k1 k2
/-- new StringBuilder() -/
theorem J_sbNew {M ik ic n1 n2 n3 t1 t2 t3 : Nat} {c1 c2 c3 : Int32} (h0 : mT μ pc = some (.new ik, 3, n1, c1, t1)) (h3 : mT μ (pc + 3) = some (.dup, 1, n2, c2, t2)) (h4 : mT μ (pc + 4) = some (.invokespecial ic, 3, n3, c3, t3)) (q1 : n1 = pc + 3) (q2 : n2 = pc + 4)
    (w1 : Cond.classLink (oj_cls (mO μ)) ik (oj_hc 6) ∈ lwG) (w2 : Cond.instantiable (oj_hc 6) 4 ∈ lwG) (w3 : Cond.initialized (oj_hc 6) ∈ lwG) (hw : ∀ x ∈ [Cond.methodLink (oj_cls (mO μ)) ic (mY mi_J4_init_da8c8), .instanceMethod (mY mi_J4_init_da8c8), .initialized (mY mi_J4_init_da8c8).cls] ++ [oj_cw mi_J4_init_da8c8], x ∈ lwG)
    (hA : mA μ = true) (hbd : oj_bd M h) (hM : M < 999980) (hd : Nat.ble 4 d = true) (hcat : Nat.ble ((st.map fun v => v.category).sum) 7 = true) (hst : loLv (okB h M) st) (hls : loLs (okB h M) ls) (hmc : k + 2 ≤ mc) (hms : n + 20 ≤ ms)
    (kk : ∀ h', SBx h h' M M (M + 2) 0 → J μ d mc ms Q (k + 2) (n + 20) n3 ls (.ref M :: st) h') : J μ d mc ms Q k n pc ls st h := by
  subst q1; subst q2
  refine J_new (a := M) (ci := 6) (N := 4) (fs := [.null, .int 0, .int 0, .int 0]) h0 hA w1 w2 w3 rfl (by decide +kernel) (fun _ => rfl) hbd (by omega) (fun v hv => loLv_mem (P := fun v => v < M ∨ 999999 ≤ v) hv (loLv_imp (fun _ z => z.1) hst)) (fun j v hj => loLs_at (P := fun v => v < M ∨ 999999 ≤ v) hj (loLs_imp (fun _ z => z.1) hls)) (by omega) (by omega) ?_
  refine J_step h3 rfl ?_
  have hb1 : oj_bd (M + 1) (oj_up h M (.inr (6, [.null, .int 0, .int 0, .int 0]))) := hbd.push (lo_ref trivial)
  have hup : ∀ x, okB h M x → (oj_up h M (.inr (6, [.null, .int 0, .int 0, .int 0])) x ≠ nilc ∨ 999999 ≤ x) := fun x hx => by
    rw [up_ne (by have := hx.1; omega)]; exact hx.2
  refine J_dI (μ' := mi_J4_init_da8c8) (na := 0) (As := []) (rest := .ref M :: st) h4 rfl hw (by decide +kernel) (by decide) rfl rfl rfl hd ?_ (c_sbNew up_at hb1 (by omega) (Nat.lt_succ_self _)) (by omega) (by omega) (oj_halT hA ⟨nnR up_at (by decide), loLv_imp hup hst⟩ (loLs_imp hup hls)) (fun E h' z => by cases z.1) (fun v h' z => ?_)
  · refine Nat.ble_eq_true_of_le ?_
    have := Nat.le_of_ble_eq_true hcat
    show 1 + (st.map fun v => v.category).sum ≤ 8
    omega
  · obtain ⟨z1, rfl⟩ := z
    cases z1
    refine J_widen (Nat.le_refl _) (Nat.le_refl _) (kk _ ⟨M + 1, 16, fun _ => 0, ⟨up_at, (up_ne (by omega)).trans up_at, sb_fit0, by omega, by omega⟩, Nat.le_refl _, by omega, by omega, by omega, ?_, fun x hx => ?_⟩)
    · refine (hb1.push (by exact trivial)).put (by omega) (lo_ref ⟨Or.inl (by omega), trivial⟩)
    · exact (up_ne (by omega)).trans ((up_ne (by omega)).trans (up_ne (by omega)))
/-- toString() of a builder: a text s of its letters -/
theorem J_sbStr {hb : AHp} {a B0 M nn idx : Nat} (H : SBx hb h a B0 M nn) (hM : M < 999980) (he : mT μ pc = some (.invokevirtual idx, len, nx, c, t)) (hw : ∀ x ∈ wsV (oj_cls (mO μ)) idx (oj_hc 6) (mY mi_J4_toString_0e30d) [oj_cw mi_J4_toString_0e30d], x ∈ lwG) (hA : mA μ = true) (hd : Nat.ble 7 d = true) (hcat : Nat.ble ((st.map fun v => v.category).sum) 8 = true) (hst : loLv (okB hb B0) st) (hls : loLs (okB hb B0) ls) (hmc : k + 2 ≤ mc) (hms : n + 204 ≤ ms)
    (kk : ∀ h' f', sb_Fit f' → h' M = .inr (7, [.ref (M + 1), .int 0, .int 0, .int 0]) → h' (M + 1) = .inl (2, nn, .inl f') → oj_bd (M + 2) h' → (∀ x, (x < M ∨ 999999 ≤ x) → h' x = h x) → B0 ≤ M → (∀ x, (x < B0 ∨ 999999 ≤ x) → h' x = hb x) → J μ d mc ms Q (k + 2) (n + 204) nx ls (.ref M :: st) h') : J μ d mc ms Q k n pc ls (.ref a :: st) h := by
  obtain ⟨b, m, f, H1, g1, g2, g3, g4, g5, g6⟩ := id H
  refine J_dV (μ' := mi_J4_toString_0e30d) (na := 0) (As := []) (ci := 6) he rfl H1.1 rfl hw (by decide +kernel) (by decide) rfl hd hcat (c_sbStr H1 g5 hM g2 g4) hmc hms (oj_halT hA (loLv_imp H.ok hst) (loLs_imp H.ok hls)) (fun E h' z => by cases z.1) (fun v h' z => ?_)
  obtain ⟨z1, f', hf', e1, e2, hb2, hk⟩ := z
  cases z1
  exact kk h' f' hf' e1 e2 hb2 hk (by omega) (fun x hx => (hk x (by omega)).trans (g6 x hx))
end OJ80
