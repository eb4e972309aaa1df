section OJ47
variable {μ : MI} {d mc ms : Nat} {Q : QT} {k n pc : Nat} {ls : List (Option Value)} {st : List Value} {h : AHp} {i : Instr} {len nx : Nat} {c : Int32} {t : Nat}
/-- an array of lines, made -/
theorem J_newA {a N idx : Nat} {x : Int32} (he : mT μ pc = some (.anewarray idx, len, nx, c, t)) (hal : mA μ = true) (hcl : Cond.classLink (oj_cls (mO μ)) idx RX2 ∈ lwG) (hx0 : ¬ x < 0) (hN : x.toNatClampNeg = N) (hN2 : N ≤ 65536)
    (hbd : oj_bd a h) (ha9 : a < 999999) (hst : ∀ v, Value.ref v ∈ st → v < a ∨ 999999 ≤ v) (hls : ∀ (j v : Nat), ls[j]? = some (some (.ref v)) → v < a ∨ 999999 ≤ v) (hmc : k + 1 ≤ mc) (hms : n + N ≤ ms) (kk : J μ d mc ms Q (k + 1) (n + N) nx ls (.ref a :: st) (oj_up h a (.inl (4, N, .inr (.inr (.inr (.inr fun _ => none))))))) : J μ d mc ms Q k n pc ls (.int x :: st) h := by
  intro p l e R s m args below meth c1 A D tyA adK adV b scr ad0 L0 Qc C ad L H locs lsc ho hW hS hL
  obtain ⟨hx, hb, hg, hml, hown, hts, hlocks, -, hK, hSt, hA, hls9, ⟨hR1, hR2, hR3, hR4⟩, -⟩ := id C
  obtain ⟨hd, hl, hn, hc, ht⟩ := oj_okE_spec (hg pc _ he)
  obtain rfl : len = 3 := of_decide_eq_true hl
  subst hn
  refine va_newq (N' := N) hx hb hown (hts _ hcl) hSt.2.2.2.2.2.2.2.2.2.2.2.1 hK hW.1 hW.2.1 hS hA hx0 hN (by omega) (Nat.le_trans hmc hR3) (Nat.le_trans hms hR4) hd (fun q cA H1 hK1 hP1 hD1 hS1 => ?_)
  have hcA : cA = tyA 4 := by
    have h1 := (hK1.2 (oj_tys tyA).length (cA, .object RX2) (by rw [List.getElem?_append_right (Nat.le_refl _), Nat.sub_self]; rfl)).2
    obtain ⟨kA, cp, -, -, -, g1⟩ := h1
    obtain ⟨kB, cq, -, -, -, g2⟩ := (hK.2 4 _ rfl).2
    exact Option.some.inj (g1.symm.trans g2)
  rw [hcA] at hP1 hD1
  obtain ⟨ad', L', ho', hW', hL', hst', hq⟩ := oj_grow C ho hW hL hal hbd ha9 hst hls (q := q) (x := .inl (4, N, .inr (.inr (.inr (.inr fun _ => none))))) (by intro z; cases z) (e0 := .inl (tyA 4, N, .inr (.inr (.inr (.inr fun _ => none))))) (fun ad => by simp only [oj_c, Option.map_none, ite_self]) hP1 hD1
  have := kk p l e R s m args below meth c1 A D tyA adK adV b scr ad0 L0 Qc C ad' L' H1 locs lsc ho' hW' hS1 hL'
  rw [show (Value.ref a :: st).map (oj_v ad') = .ref q :: st.map (oj_v ad) by rw [List.map_cons, hst']; show Value.ref (ad' a) :: _ = _; rw [hq]] at this
  exact this
end OJ47
def loL (N : Nat) : List Value → Prop
  | [] => True
  | .ref b :: l => (b < N ∨ 999999 ≤ b) ∧ loL N l
  | .int _ :: l => loL N l
  | .long _ :: l => loL N l
  | .float _ :: l => loL N l
  | .double _ :: l => loL N l
  | _ :: l => loL N l
theorem loL_mem {N : Nat} : ∀ {l : List Value}, loL N l → ∀ v, Value.ref v ∈ l → v < N ∨ 999999 ≤ v
  | [], _, v, hv => by cases hv
  | x :: l, h, v, hv => by
    rcases List.mem_cons.mp hv with e | e
    · subst e; exact h.1
    · have : loL N l := by
        cases x <;> first | exact h | exact h.2
      exact loL_mem this v e
theorem CrAt_mv {h1 h2 : AHp} {b : Nat} {l : List Row} {nb : Int32} (hh : ∀ x, b ≤ x → x ≤ b + 7 → h2 x = h1 x) (H : CrAt h1 b l nb) : CrAt h2 b l nb := by
  obtain ⟨R, ⟨c0, c1, c2, c3, c4, c5, c6, c7, cl⟩, hR⟩ := H
  exact ⟨R, ⟨(hh _ (by omega) (by omega)).trans c0, (hh _ (by omega) (by omega)).trans c1, (hh _ (by omega) (by omega)).trans c2, (hh _ (by omega) (by omega)).trans c3, (hh _ (by omega) (by omega)).trans c4, (hh _ (by omega) (by omega)).trans c5, (hh _ (by omega) (by omega)).trans c6, (hh _ (by omega) (by omega)).trans c7, cl⟩, hR⟩
def F00 : Nat → Int32 := fun i => if i = 1 then 4 else if i = 5 then 1 else 0
/-- a new line -/
def LQ0 : LQ := (fun _ => 2, F00, [], 0, 0)
theorem nnl {h : AHp} {a ci : Nat} {fs : List Value} (e : h a = .inr (ci, fs)) (hc : ci < 99) : h a ≠ nilc ∨ 999999 ≤ a := Or.inl (by rw [e]; intro z; have := congrArg (fun x : AC => match x with | .inr (k, _) => k | .inl _ => 0) z; have : ci = 99 := this; omega)
set_option maxRecDepth 100000 in
set_option maxHeartbeats 2000000 in
theorem c_crInit {h : AHp} {a : Nat} (e0 : h a = .inr (0, [.null, .null, .null, .null, .null, .null, .null, .int 0, .int 0])) (b0 : oj_bd (a + 1) h) (ha : a + 20 < 999999) : JM mi_X0_init 1 7 140 [.ref a] h (fun r h' => r = .inl none ∧ CrAt h' a [] 0 ∧ oj_bd (a + 8) h' ∧ ∀ y, y < a ∨ a + 7 < y → h' y = h y) := by
  have k0 : ∀ y, y < a ∨ a + 7 < y → h y = h y := fun _ _ => rfl
  refine JM_of gd_X0_init rfl (by decide +kernel) (Nat.le_of_ble_eq_true rfl) (oj_cats rfl) (by decide) ?_
  iterate 1 (refine J_step rfl rfl ?_)
  refine J_objInit rfl (by decide +kernel) rfl rfl ?_
  iterate 2 (refine J_step rfl rfl ?_)
  refine J_newa (a := a + 1) (tag := 0) (N := 20) rfl rfl (by decide) rfl (by decide +kernel) (by decide) (by decide) (by decide) b0 (by omega) (by refine loL_mem ?_; simp [loL] <;> omega) (by intro j v hj; rcases j with _ | _ | _ | _ | j <;> first | (cases hj; done) | (cases hj; omega)) (Nat.le_of_ble_eq_true rfl) (Nat.le_of_ble_eq_true rfl) ?_
  refine J_heap (h2 := (oj_up h (a + 1) (.inl (0, 20, .inl fun _ => 0)))) rfl ?_
  have e1 : (oj_up h (a + 1) (.inl (0, 20, .inl fun _ => 0))) (a + 1) = .inl (0, 20, .inl fun _ => 0) := if_pos rfl
  have u1 : ∀ y, y ≠ a + 1 → (oj_up h (a + 1) (.inl (0, 20, .inl fun _ => 0))) y = h y := fun y z => if_neg z
  have b1 : oj_bd (a + 1 + 1) (oj_up h (a + 1) (.inl (0, 20, .inl fun _ => 0))) := b0.push trivial
  generalize (oj_up h (a + 1) (.inl (0, 20, .inl fun _ => 0))) = g1 at e1 u1 b1 ⊢
  have k1 : ∀ y, y < a ∨ a + 7 < y → g1 y = h y := fun y z => (u1 y (by omega)).trans (k0 y z)
  have e0_1 : g1 (a) = .inr (0, [.null, .null, .null, .null, .null, .null, .null, .int 0, .int 0]) := (u1 _ (by omega)).trans e0
  clear e0
  refine J_putF rfl rfl rfl e0_1 rfl rfl rfl rfl (fun x => ⟨rfl, rfl⟩) ?_
  refine J_heap (h2 := (oj_up g1 (a) (.inr (0, [.ref (a + 1), .null, .null, .null, .null, .null, .null, .int 0, .int 0])))) rfl ?_
  have e2 : (oj_up g1 (a) (.inr (0, [.ref (a + 1), .null, .null, .null, .null, .null, .null, .int 0, .int 0]))) (a) = .inr (0, [.ref (a + 1), .null, .null, .null, .null, .null, .null, .int 0, .int 0]) := if_pos rfl
  have u2 : ∀ y, y ≠ a → (oj_up g1 (a) (.inr (0, [.ref (a + 1), .null, .null, .null, .null, .null, .null, .int 0, .int 0]))) y = g1 y := fun y z => if_neg z
  have b2 : oj_bd (a + 1 + 1) (oj_up g1 (a) (.inr (0, [.ref (a + 1), .null, .null, .null, .null, .null, .null, .int 0, .int 0]))) := b1.put (by omega) (by refine loL_mem ?_; simp [loL] <;> omega)
  generalize (oj_up g1 (a) (.inr (0, [.ref (a + 1), .null, .null, .null, .null, .null, .null, .int 0, .int 0]))) = g2 at e2 u2 b2 ⊢
  have k2 : ∀ y, y < a ∨ a + 7 < y → g2 y = h y := fun y z => (u2 y (by omega)).trans (k1 y z)
  have e1_2 : g2 (a + 1) = .inl (0, 20, .inl fun _ => 0) := (u2 _ (by omega)).trans e1
  clear e1 e0_1
  iterate 2 (refine J_step rfl rfl ?_)
  refine J_newa (a := a + 2) (tag := 0) (N := 20) rfl rfl (by decide) rfl (by decide +kernel) (by decide) (by decide) (by decide) b2 (by omega) (by refine loL_mem ?_; simp [loL] <;> omega) (by intro j v hj; rcases j with _ | _ | _ | _ | j <;> first | (cases hj; done) | (cases hj; omega)) (Nat.le_of_ble_eq_true rfl) (Nat.le_of_ble_eq_true rfl) ?_
  refine J_heap (h2 := (oj_up g2 (a + 2) (.inl (0, 20, .inl fun _ => 0)))) rfl ?_
  have e3 : (oj_up g2 (a + 2) (.inl (0, 20, .inl fun _ => 0))) (a + 2) = .inl (0, 20, .inl fun _ => 0) := if_pos rfl
  have u3 : ∀ y, y ≠ a + 2 → (oj_up g2 (a + 2) (.inl (0, 20, .inl fun _ => 0))) y = g2 y := fun y z => if_neg z
  have b3 : oj_bd (a + 2 + 1) (oj_up g2 (a + 2) (.inl (0, 20, .inl fun _ => 0))) := b2.push trivial
  generalize (oj_up g2 (a + 2) (.inl (0, 20, .inl fun _ => 0))) = g3 at e3 u3 b3 ⊢
  have k3 : ∀ y, y < a ∨ a + 7 < y → g3 y = h y := fun y z => (u3 y (by omega)).trans (k2 y z)
  have e2_3 : g3 (a) = .inr (0, [.ref (a + 1), .null, .null, .null, .null, .null, .null, .int 0, .int 0]) := (u3 _ (by omega)).trans e2
  have e1_3 : g3 (a + 1) = .inl (0, 20, .inl fun _ => 0) := (u3 _ (by omega)).trans e1_2
  clear e2 e1_2
  refine J_putF rfl rfl rfl e2_3 rfl rfl rfl rfl (fun x => ⟨rfl, rfl⟩) ?_
  refine J_heap (h2 := (oj_up g3 (a) (.inr (0, [.ref (a + 1), .ref (a + 2), .null, .null, .null, .null, .null, .int 0, .int 0])))) rfl ?_
  have e4 : (oj_up g3 (a) (.inr (0, [.ref (a + 1), .ref (a + 2), .null, .null, .null, .null, .null, .int 0, .int 0]))) (a) = .inr (0, [.ref (a + 1), .ref (a + 2), .null, .null, .null, .null, .null, .int 0, .int 0]) := if_pos rfl
  have u4 : ∀ y, y ≠ a → (oj_up g3 (a) (.inr (0, [.ref (a + 1), .ref (a + 2), .null, .null, .null, .null, .null, .int 0, .int 0]))) y = g3 y := fun y z => if_neg z
  have b4 : oj_bd (a + 2 + 1) (oj_up g3 (a) (.inr (0, [.ref (a + 1), .ref (a + 2), .null, .null, .null, .null, .null, .int 0, .int 0]))) := b3.put (by omega) (by refine loL_mem ?_; simp [loL] <;> omega)
  generalize (oj_up g3 (a) (.inr (0, [.ref (a + 1), .ref (a + 2), .null, .null, .null, .null, .null, .int 0, .int 0]))) = g4 at e4 u4 b4 ⊢
  have k4 : ∀ y, y < a ∨ a + 7 < y → g4 y = h y := fun y z => (u4 y (by omega)).trans (k3 y z)
  have e3_4 : g4 (a + 2) = .inl (0, 20, .inl fun _ => 0) := (u4 _ (by omega)).trans e3
  have e1_4 : g4 (a + 1) = .inl (0, 20, .inl fun _ => 0) := (u4 _ (by omega)).trans e1_3
  clear e3 e2_3 e1_3
  iterate 2 (refine J_step rfl rfl ?_)
  refine J_newa (a := a + 3) (tag := 0) (N := 20) rfl rfl (by decide) rfl (by decide +kernel) (by decide) (by decide) (by decide) b4 (by omega) (by refine loL_mem ?_; simp [loL] <;> omega) (by intro j v hj; rcases j with _ | _ | _ | _ | j <;> first | (cases hj; done) | (cases hj; omega)) (Nat.le_of_ble_eq_true rfl) (Nat.le_of_ble_eq_true rfl) ?_
  refine J_heap (h2 := (oj_up g4 (a + 3) (.inl (0, 20, .inl fun _ => 0)))) rfl ?_
  have e5 : (oj_up g4 (a + 3) (.inl (0, 20, .inl fun _ => 0))) (a + 3) = .inl (0, 20, .inl fun _ => 0) := if_pos rfl
  have u5 : ∀ y, y ≠ a + 3 → (oj_up g4 (a + 3) (.inl (0, 20, .inl fun _ => 0))) y = g4 y := fun y z => if_neg z
  have b5 : oj_bd (a + 3 + 1) (oj_up g4 (a + 3) (.inl (0, 20, .inl fun _ => 0))) := b4.push trivial
  generalize (oj_up g4 (a + 3) (.inl (0, 20, .inl fun _ => 0))) = g5 at e5 u5 b5 ⊢
  have k5 : ∀ y, y < a ∨ a + 7 < y → g5 y = h y := fun y z => (u5 y (by omega)).trans (k4 y z)
  have e4_5 : g5 (a) = .inr (0, [.ref (a + 1), .ref (a + 2), .null, .null, .null, .null, .null, .int 0, .int 0]) := (u5 _ (by omega)).trans e4
  have e3_5 : g5 (a + 2) = .inl (0, 20, .inl fun _ => 0) := (u5 _ (by omega)).trans e3_4
  have e1_5 : g5 (a + 1) = .inl (0, 20, .inl fun _ => 0) := (u5 _ (by omega)).trans e1_4
  clear e4 e3_4 e1_4
  refine J_putF rfl rfl rfl e4_5 rfl rfl rfl rfl (fun x => ⟨rfl, rfl⟩) ?_
  refine J_heap (h2 := (oj_up g5 (a) (.inr (0, [.ref (a + 1), .ref (a + 2), .ref (a + 3), .null, .null, .null, .null, .int 0, .int 0])))) rfl ?_
  have e6 : (oj_up g5 (a) (.inr (0, [.ref (a + 1), .ref (a + 2), .ref (a + 3), .null, .null, .null, .null, .int 0, .int 0]))) (a) = .inr (0, [.ref (a + 1), .ref (a + 2), .ref (a + 3), .null, .null, .null, .null, .int 0, .int 0]) := if_pos rfl
  have u6 : ∀ y, y ≠ a → (oj_up g5 (a) (.inr (0, [.ref (a + 1), .ref (a + 2), .ref (a + 3), .null, .null, .null, .null, .int 0, .int 0]))) y = g5 y := fun y z => if_neg z
  have b6 : oj_bd (a + 3 + 1) (oj_up g5 (a) (.inr (0, [.ref (a + 1), .ref (a + 2), .ref (a + 3), .null, .null, .null, .null, .int 0, .int 0]))) := b5.put (by omega) (by refine loL_mem ?_; simp [loL] <;> omega)
  generalize (oj_up g5 (a) (.inr (0, [.ref (a + 1), .ref (a + 2), .ref (a + 3), .null, .null, .null, .null, .int 0, .int 0]))) = g6 at e6 u6 b6 ⊢
  have k6 : ∀ y, y < a ∨ a + 7 < y → g6 y = h y := fun y z => (u6 y (by omega)).trans (k5 y z)
  have e5_6 : g6 (a + 3) = .inl (0, 20, .inl fun _ => 0) := (u6 _ (by omega)).trans e5
  have e3_6 : g6 (a + 2) = .inl (0, 20, .inl fun _ => 0) := (u6 _ (by omega)).trans e3_5
  have e1_6 : g6 (a + 1) = .inl (0, 20, .inl fun _ => 0) := (u6 _ (by omega)).trans e1_5
  clear e5 e4_5 e3_5 e1_5
  iterate 2 (refine J_step rfl rfl ?_)
  refine J_newa (a := a + 4) (tag := 0) (N := 20) rfl rfl (by decide) rfl (by decide +kernel) (by decide) (by decide) (by decide) b6 (by omega) (by refine loL_mem ?_; simp [loL] <;> omega) (by intro j v hj; rcases j with _ | _ | _ | _ | j <;> first | (cases hj; done) | (cases hj; omega)) (Nat.le_of_ble_eq_true rfl) (Nat.le_of_ble_eq_true rfl) ?_
  refine J_heap (h2 := (oj_up g6 (a + 4) (.inl (0, 20, .inl fun _ => 0)))) rfl ?_
  have e7 : (oj_up g6 (a + 4) (.inl (0, 20, .inl fun _ => 0))) (a + 4) = .inl (0, 20, .inl fun _ => 0) := if_pos rfl
  have u7 : ∀ y, y ≠ a + 4 → (oj_up g6 (a + 4) (.inl (0, 20, .inl fun _ => 0))) y = g6 y := fun y z => if_neg z
  have b7 : oj_bd (a + 4 + 1) (oj_up g6 (a + 4) (.inl (0, 20, .inl fun _ => 0))) := b6.push trivial
  generalize (oj_up g6 (a + 4) (.inl (0, 20, .inl fun _ => 0))) = g7 at e7 u7 b7 ⊢
  have k7 : ∀ y, y < a ∨ a + 7 < y → g7 y = h y := fun y z => (u7 y (by omega)).trans (k6 y z)
  have e6_7 : g7 (a) = .inr (0, [.ref (a + 1), .ref (a + 2), .ref (a + 3), .null, .null, .null, .null, .int 0, .int 0]) := (u7 _ (by omega)).trans e6
  have e5_7 : g7 (a + 3) = .inl (0, 20, .inl fun _ => 0) := (u7 _ (by omega)).trans e5_6
  have e3_7 : g7 (a + 2) = .inl (0, 20, .inl fun _ => 0) := (u7 _ (by omega)).trans e3_6
  have e1_7 : g7 (a + 1) = .inl (0, 20, .inl fun _ => 0) := (u7 _ (by omega)).trans e1_6
  clear e6 e5_6 e3_6 e1_6
  refine J_putF rfl rfl rfl e6_7 rfl rfl rfl rfl (fun x => ⟨rfl, rfl⟩) ?_
  refine J_heap (h2 := (oj_up g7 (a) (.inr (0, [.ref (a + 1), .ref (a + 2), .ref (a + 3), .ref (a + 4), .null, .null, .null, .int 0, .int 0])))) rfl ?_
  have e8 : (oj_up g7 (a) (.inr (0, [.ref (a + 1), .ref (a + 2), .ref (a + 3), .ref (a + 4), .null, .null, .null, .int 0, .int 0]))) (a) = .inr (0, [.ref (a + 1), .ref (a + 2), .ref (a + 3), .ref (a + 4), .null, .null, .null, .int 0, .int 0]) := if_pos rfl
  have u8 : ∀ y, y ≠ a → (oj_up g7 (a) (.inr (0, [.ref (a + 1), .ref (a + 2), .ref (a + 3), .ref (a + 4), .null, .null, .null, .int 0, .int 0]))) y = g7 y := fun y z => if_neg z
  have b8 : oj_bd (a + 4 + 1) (oj_up g7 (a) (.inr (0, [.ref (a + 1), .ref (a + 2), .ref (a + 3), .ref (a + 4), .null, .null, .null, .int 0, .int 0]))) := b7.put (by omega) (by refine loL_mem ?_; simp [loL] <;> omega)
  generalize (oj_up g7 (a) (.inr (0, [.ref (a + 1), .ref (a + 2), .ref (a + 3), .ref (a + 4), .null, .null, .null, .int 0, .int 0]))) = g8 at e8 u8 b8 ⊢
  have k8 : ∀ y, y < a ∨ a + 7 < y → g8 y = h y := fun y z => (u8 y (by omega)).trans (k7 y z)
  have e7_8 : g8 (a + 4) = .inl (0, 20, .inl fun _ => 0) := (u8 _ (by omega)).trans e7
  have e5_8 : g8 (a + 3) = .inl (0, 20, .inl fun _ => 0) := (u8 _ (by omega)).trans e5_7
  have e3_8 : g8 (a + 2) = .inl (0, 20, .inl fun _ => 0) := (u8 _ (by omega)).trans e3_7
  have e1_8 : g8 (a + 1) = .inl (0, 20, .inl fun _ => 0) := (u8 _ (by omega)).trans e1_7
  clear e7 e6_7 e5_7 e3_7 e1_7
  iterate 2 (refine J_step rfl rfl ?_)
  refine J_newa (a := a + 5) (tag := 0) (N := 20) rfl rfl (by decide) rfl (by decide +kernel) (by decide) (by decide) (by decide) b8 (by omega) (by refine loL_mem ?_; simp [loL] <;> omega) (by intro j v hj; rcases j with _ | _ | _ | _ | j <;> first | (cases hj; done) | (cases hj; omega)) (Nat.le_of_ble_eq_true rfl) (Nat.le_of_ble_eq_true rfl) ?_
  refine J_heap (h2 := (oj_up g8 (a + 5) (.inl (0, 20, .inl fun _ => 0)))) rfl ?_
  have e9 : (oj_up g8 (a + 5) (.inl (0, 20, .inl fun _ => 0))) (a + 5) = .inl (0, 20, .inl fun _ => 0) := if_pos rfl
  have u9 : ∀ y, y ≠ a + 5 → (oj_up g8 (a + 5) (.inl (0, 20, .inl fun _ => 0))) y = g8 y := fun y z => if_neg z
  have b9 : oj_bd (a + 5 + 1) (oj_up g8 (a + 5) (.inl (0, 20, .inl fun _ => 0))) := b8.push trivial
  generalize (oj_up g8 (a + 5) (.inl (0, 20, .inl fun _ => 0))) = g9 at e9 u9 b9 ⊢
  have k9 : ∀ y, y < a ∨ a + 7 < y → g9 y = h y := fun y z => (u9 y (by omega)).trans (k8 y z)
  have e8_9 : g9 (a) = .inr (0, [.ref (a + 1), .ref (a + 2), .ref (a + 3), .ref (a + 4), .null, .null, .null, .int 0, .int 0]) := (u9 _ (by omega)).trans e8
  have e7_9 : g9 (a + 4) = .inl (0, 20, .inl fun _ => 0) := (u9 _ (by omega)).trans e7_8
  have e5_9 : g9 (a + 3) = .inl (0, 20, .inl fun _ => 0) := (u9 _ (by omega)).trans e5_8
  have e3_9 : g9 (a + 2) = .inl (0, 20, .inl fun _ => 0) := (u9 _ (by omega)).trans e3_8
  have e1_9 : g9 (a + 1) = .inl (0, 20, .inl fun _ => 0) := (u9 _ (by omega)).trans e1_8
  clear e8 e7_8 e5_8 e3_8 e1_8
  refine J_putF rfl rfl rfl e8_9 rfl rfl rfl rfl (fun x => ⟨rfl, rfl⟩) ?_
  refine J_heap (h2 := (oj_up g9 (a) (.inr (0, [.ref (a + 1), .ref (a + 2), .ref (a + 3), .ref (a + 4), .ref (a + 5), .null, .null, .int 0, .int 0])))) rfl ?_
  have e10 : (oj_up g9 (a) (.inr (0, [.ref (a + 1), .ref (a + 2), .ref (a + 3), .ref (a + 4), .ref (a + 5), .null, .null, .int 0, .int 0]))) (a) = .inr (0, [.ref (a + 1), .ref (a + 2), .ref (a + 3), .ref (a + 4), .ref (a + 5), .null, .null, .int 0, .int 0]) := if_pos rfl
  have u10 : ∀ y, y ≠ a → (oj_up g9 (a) (.inr (0, [.ref (a + 1), .ref (a + 2), .ref (a + 3), .ref (a + 4), .ref (a + 5), .null, .null, .int 0, .int 0]))) y = g9 y := fun y z => if_neg z
  have b10 : oj_bd (a + 5 + 1) (oj_up g9 (a) (.inr (0, [.ref (a + 1), .ref (a + 2), .ref (a + 3), .ref (a + 4), .ref (a + 5), .null, .null, .int 0, .int 0]))) := b9.put (by omega) (by refine loL_mem ?_; simp [loL] <;> omega)
  generalize (oj_up g9 (a) (.inr (0, [.ref (a + 1), .ref (a + 2), .ref (a + 3), .ref (a + 4), .ref (a + 5), .null, .null, .int 0, .int 0]))) = g10 at e10 u10 b10 ⊢
  have k10 : ∀ y, y < a ∨ a + 7 < y → g10 y = h y := fun y z => (u10 y (by omega)).trans (k9 y z)
  have e9_10 : g10 (a + 5) = .inl (0, 20, .inl fun _ => 0) := (u10 _ (by omega)).trans e9
  have e7_10 : g10 (a + 4) = .inl (0, 20, .inl fun _ => 0) := (u10 _ (by omega)).trans e7_9
  have e5_10 : g10 (a + 3) = .inl (0, 20, .inl fun _ => 0) := (u10 _ (by omega)).trans e5_9
  have e3_10 : g10 (a + 2) = .inl (0, 20, .inl fun _ => 0) := (u10 _ (by omega)).trans e3_9
  have e1_10 : g10 (a + 1) = .inl (0, 20, .inl fun _ => 0) := (u10 _ (by omega)).trans e1_9
  clear e9 e8_9 e7_9 e5_9 e3_9 e1_9
  iterate 2 (refine J_step rfl rfl ?_)
  refine J_newa (a := a + 6) (tag := 0) (N := 20) rfl rfl (by decide) rfl (by decide +kernel) (by decide) (by decide) (by decide) b10 (by omega) (by refine loL_mem ?_; simp [loL] <;> omega) (by intro j v hj; rcases j with _ | _ | _ | _ | j <;> first | (cases hj; done) | (cases hj; omega)) (Nat.le_of_ble_eq_true rfl) (Nat.le_of_ble_eq_true rfl) ?_
  refine J_heap (h2 := (oj_up g10 (a + 6) (.inl (0, 20, .inl fun _ => 0)))) rfl ?_
  have e11 : (oj_up g10 (a + 6) (.inl (0, 20, .inl fun _ => 0))) (a + 6) = .inl (0, 20, .inl fun _ => 0) := if_pos rfl
  have u11 : ∀ y, y ≠ a + 6 → (oj_up g10 (a + 6) (.inl (0, 20, .inl fun _ => 0))) y = g10 y := fun y z => if_neg z
  have b11 : oj_bd (a + 6 + 1) (oj_up g10 (a + 6) (.inl (0, 20, .inl fun _ => 0))) := b10.push trivial
  generalize (oj_up g10 (a + 6) (.inl (0, 20, .inl fun _ => 0))) = g11 at e11 u11 b11 ⊢
  have k11 : ∀ y, y < a ∨ a + 7 < y → g11 y = h y := fun y z => (u11 y (by omega)).trans (k10 y z)
  have e10_11 : g11 (a) = .inr (0, [.ref (a + 1), .ref (a + 2), .ref (a + 3), .ref (a + 4), .ref (a + 5), .null, .null, .int 0, .int 0]) := (u11 _ (by omega)).trans e10
  have e9_11 : g11 (a + 5) = .inl (0, 20, .inl fun _ => 0) := (u11 _ (by omega)).trans e9_10
  have e7_11 : g11 (a + 4) = .inl (0, 20, .inl fun _ => 0) := (u11 _ (by omega)).trans e7_10
  have e5_11 : g11 (a + 3) = .inl (0, 20, .inl fun _ => 0) := (u11 _ (by omega)).trans e5_10
  have e3_11 : g11 (a + 2) = .inl (0, 20, .inl fun _ => 0) := (u11 _ (by omega)).trans e3_10
  have e1_11 : g11 (a + 1) = .inl (0, 20, .inl fun _ => 0) := (u11 _ (by omega)).trans e1_10
  clear e10 e9_10 e7_10 e5_10 e3_10 e1_10
  refine J_putF rfl rfl rfl e10_11 rfl rfl rfl rfl (fun x => ⟨rfl, rfl⟩) ?_
  refine J_heap (h2 := (oj_up g11 (a) (.inr (0, [.ref (a + 1), .ref (a + 2), .ref (a + 3), .ref (a + 4), .ref (a + 5), .ref (a + 6), .null, .int 0, .int 0])))) rfl ?_
  have e12 : (oj_up g11 (a) (.inr (0, [.ref (a + 1), .ref (a + 2), .ref (a + 3), .ref (a + 4), .ref (a + 5), .ref (a + 6), .null, .int 0, .int 0]))) (a) = .inr (0, [.ref (a + 1), .ref (a + 2), .ref (a + 3), .ref (a + 4), .ref (a + 5), .ref (a + 6), .null, .int 0, .int 0]) := if_pos rfl
  have u12 : ∀ y, y ≠ a → (oj_up g11 (a) (.inr (0, [.ref (a + 1), .ref (a + 2), .ref (a + 3), .ref (a + 4), .ref (a + 5), .ref (a + 6), .null, .int 0, .int 0]))) y = g11 y := fun y z => if_neg z
  have b12 : oj_bd (a + 6 + 1) (oj_up g11 (a) (.inr (0, [.ref (a + 1), .ref (a + 2), .ref (a + 3), .ref (a + 4), .ref (a + 5), .ref (a + 6), .null, .int 0, .int 0]))) := b11.put (by omega) (by refine loL_mem ?_; simp [loL] <;> omega)
  generalize (oj_up g11 (a) (.inr (0, [.ref (a + 1), .ref (a + 2), .ref (a + 3), .ref (a + 4), .ref (a + 5), .ref (a + 6), .null, .int 0, .int 0]))) = g12 at e12 u12 b12 ⊢
  have k12 : ∀ y, y < a ∨ a + 7 < y → g12 y = h y := fun y z => (u12 y (by omega)).trans (k11 y z)
  have e11_12 : g12 (a + 6) = .inl (0, 20, .inl fun _ => 0) := (u12 _ (by omega)).trans e11
  have e9_12 : g12 (a + 5) = .inl (0, 20, .inl fun _ => 0) := (u12 _ (by omega)).trans e9_11
  have e7_12 : g12 (a + 4) = .inl (0, 20, .inl fun _ => 0) := (u12 _ (by omega)).trans e7_11
  have e5_12 : g12 (a + 3) = .inl (0, 20, .inl fun _ => 0) := (u12 _ (by omega)).trans e5_11
  have e3_12 : g12 (a + 2) = .inl (0, 20, .inl fun _ => 0) := (u12 _ (by omega)).trans e3_11
  have e1_12 : g12 (a + 1) = .inl (0, 20, .inl fun _ => 0) := (u12 _ (by omega)).trans e1_11
  clear e11 e10_11 e9_11 e7_11 e5_11 e3_11 e1_11
  iterate 2 (refine J_step rfl rfl ?_)
  refine J_newa (a := a + 7) (tag := 0) (N := 20) rfl rfl (by decide) rfl (by decide +kernel) (by decide) (by decide) (by decide) b12 (by omega) (by refine loL_mem ?_; simp [loL] <;> omega) (by intro j v hj; rcases j with _ | _ | _ | _ | j <;> first | (cases hj; done) | (cases hj; omega)) (Nat.le_of_ble_eq_true rfl) (Nat.le_of_ble_eq_true rfl) ?_
  refine J_heap (h2 := (oj_up g12 (a + 7) (.inl (0, 20, .inl fun _ => 0)))) rfl ?_
  have e13 : (oj_up g12 (a + 7) (.inl (0, 20, .inl fun _ => 0))) (a + 7) = .inl (0, 20, .inl fun _ => 0) := if_pos rfl
  have u13 : ∀ y, y ≠ a + 7 → (oj_up g12 (a + 7) (.inl (0, 20, .inl fun _ => 0))) y = g12 y := fun y z => if_neg z
  have b13 : oj_bd (a + 7 + 1) (oj_up g12 (a + 7) (.inl (0, 20, .inl fun _ => 0))) := b12.push trivial
  generalize (oj_up g12 (a + 7) (.inl (0, 20, .inl fun _ => 0))) = g13 at e13 u13 b13 ⊢
  have k13 : ∀ y, y < a ∨ a + 7 < y → g13 y = h y := fun y z => (u13 y (by omega)).trans (k12 y z)
  have e12_13 : g13 (a) = .inr (0, [.ref (a + 1), .ref (a + 2), .ref (a + 3), .ref (a + 4), .ref (a + 5), .ref (a + 6), .null, .int 0, .int 0]) := (u13 _ (by omega)).trans e12
  have e11_13 : g13 (a + 6) = .inl (0, 20, .inl fun _ => 0) := (u13 _ (by omega)).trans e11_12
  have e9_13 : g13 (a + 5) = .inl (0, 20, .inl fun _ => 0) := (u13 _ (by omega)).trans e9_12
  have e7_13 : g13 (a + 4) = .inl (0, 20, .inl fun _ => 0) := (u13 _ (by omega)).trans e7_12
  have e5_13 : g13 (a + 3) = .inl (0, 20, .inl fun _ => 0) := (u13 _ (by omega)).trans e5_12
  have e3_13 : g13 (a + 2) = .inl (0, 20, .inl fun _ => 0) := (u13 _ (by omega)).trans e3_12
  have e1_13 : g13 (a + 1) = .inl (0, 20, .inl fun _ => 0) := (u13 _ (by omega)).trans e1_12
  clear e12 e11_12 e9_12 e7_12 e5_12 e3_12 e1_12
  refine J_putF rfl rfl rfl e12_13 rfl rfl rfl rfl (fun x => ⟨rfl, rfl⟩) ?_
  refine J_heap (h2 := (oj_up g13 (a) (.inr (0, [.ref (a + 1), .ref (a + 2), .ref (a + 3), .ref (a + 4), .ref (a + 5), .ref (a + 6), .ref (a + 7), .int 0, .int 0])))) rfl ?_
  have e14 : (oj_up g13 (a) (.inr (0, [.ref (a + 1), .ref (a + 2), .ref (a + 3), .ref (a + 4), .ref (a + 5), .ref (a + 6), .ref (a + 7), .int 0, .int 0]))) (a) = .inr (0, [.ref (a + 1), .ref (a + 2), .ref (a + 3), .ref (a + 4), .ref (a + 5), .ref (a + 6), .ref (a + 7), .int 0, .int 0]) := if_pos rfl
  have u14 : ∀ y, y ≠ a → (oj_up g13 (a) (.inr (0, [.ref (a + 1), .ref (a + 2), .ref (a + 3), .ref (a + 4), .ref (a + 5), .ref (a + 6), .ref (a + 7), .int 0, .int 0]))) y = g13 y := fun y z => if_neg z
  have b14 : oj_bd (a + 7 + 1) (oj_up g13 (a) (.inr (0, [.ref (a + 1), .ref (a + 2), .ref (a + 3), .ref (a + 4), .ref (a + 5), .ref (a + 6), .ref (a + 7), .int 0, .int 0]))) := b13.put (by omega) (by refine loL_mem ?_; simp [loL] <;> omega)
  generalize (oj_up g13 (a) (.inr (0, [.ref (a + 1), .ref (a + 2), .ref (a + 3), .ref (a + 4), .ref (a + 5), .ref (a + 6), .ref (a + 7), .int 0, .int 0]))) = g14 at e14 u14 b14 ⊢
  have k14 : ∀ y, y < a ∨ a + 7 < y → g14 y = h y := fun y z => (u14 y (by omega)).trans (k13 y z)
  have e13_14 : g14 (a + 7) = .inl (0, 20, .inl fun _ => 0) := (u14 _ (by omega)).trans e13
  have e11_14 : g14 (a + 6) = .inl (0, 20, .inl fun _ => 0) := (u14 _ (by omega)).trans e11_13
  have e9_14 : g14 (a + 5) = .inl (0, 20, .inl fun _ => 0) := (u14 _ (by omega)).trans e9_13
  have e7_14 : g14 (a + 4) = .inl (0, 20, .inl fun _ => 0) := (u14 _ (by omega)).trans e7_13
  have e5_14 : g14 (a + 3) = .inl (0, 20, .inl fun _ => 0) := (u14 _ (by omega)).trans e5_13
  have e3_14 : g14 (a + 2) = .inl (0, 20, .inl fun _ => 0) := (u14 _ (by omega)).trans e3_13
  have e1_14 : g14 (a + 1) = .inl (0, 20, .inl fun _ => 0) := (u14 _ (by omega)).trans e1_13
  clear e13 e12_13 e11_13 e9_13 e7_13 e5_13 e3_13 e1_13
  iterate 2 (refine J_step rfl rfl ?_)
  refine J_putf rfl rfl rfl e14 rfl rfl (fun _ => rfl) rfl rfl ?_
  refine J_heap (h2 := (oj_up g14 (a) (.inr (0, [.ref (a + 1), .ref (a + 2), .ref (a + 3), .ref (a + 4), .ref (a + 5), .ref (a + 6), .ref (a + 7), .int 0, .int 0])))) rfl ?_
  have e15 : (oj_up g14 (a) (.inr (0, [.ref (a + 1), .ref (a + 2), .ref (a + 3), .ref (a + 4), .ref (a + 5), .ref (a + 6), .ref (a + 7), .int 0, .int 0]))) (a) = .inr (0, [.ref (a + 1), .ref (a + 2), .ref (a + 3), .ref (a + 4), .ref (a + 5), .ref (a + 6), .ref (a + 7), .int 0, .int 0]) := if_pos rfl
  have u15 : ∀ y, y ≠ a → (oj_up g14 (a) (.inr (0, [.ref (a + 1), .ref (a + 2), .ref (a + 3), .ref (a + 4), .ref (a + 5), .ref (a + 6), .ref (a + 7), .int 0, .int 0]))) y = g14 y := fun y z => if_neg z
  have b15 : oj_bd (a + 7 + 1) (oj_up g14 (a) (.inr (0, [.ref (a + 1), .ref (a + 2), .ref (a + 3), .ref (a + 4), .ref (a + 5), .ref (a + 6), .ref (a + 7), .int 0, .int 0]))) := b14.put (by omega) (by refine loL_mem ?_; simp [loL] <;> omega)
  generalize (oj_up g14 (a) (.inr (0, [.ref (a + 1), .ref (a + 2), .ref (a + 3), .ref (a + 4), .ref (a + 5), .ref (a + 6), .ref (a + 7), .int 0, .int 0]))) = g15 at e15 u15 b15 ⊢
  have k15 : ∀ y, y < a ∨ a + 7 < y → g15 y = h y := fun y z => (u15 y (by omega)).trans (k14 y z)
  have e13_15 : g15 (a + 7) = .inl (0, 20, .inl fun _ => 0) := (u15 _ (by omega)).trans e13_14
  have e11_15 : g15 (a + 6) = .inl (0, 20, .inl fun _ => 0) := (u15 _ (by omega)).trans e11_14
  have e9_15 : g15 (a + 5) = .inl (0, 20, .inl fun _ => 0) := (u15 _ (by omega)).trans e9_14
  have e7_15 : g15 (a + 4) = .inl (0, 20, .inl fun _ => 0) := (u15 _ (by omega)).trans e7_14
  have e5_15 : g15 (a + 3) = .inl (0, 20, .inl fun _ => 0) := (u15 _ (by omega)).trans e5_14
  have e3_15 : g15 (a + 2) = .inl (0, 20, .inl fun _ => 0) := (u15 _ (by omega)).trans e3_14
  have e1_15 : g15 (a + 1) = .inl (0, 20, .inl fun _ => 0) := (u15 _ (by omega)).trans e1_14
  clear e14 e13_14 e11_14 e9_14 e7_14 e5_14 e3_14 e1_14
  iterate 2 (refine J_step rfl rfl ?_)
  refine J_putf rfl rfl rfl e15 rfl rfl (fun _ => rfl) rfl rfl ?_
  refine J_heap (h2 := (oj_up g15 (a) (.inr (0, [.ref (a + 1), .ref (a + 2), .ref (a + 3), .ref (a + 4), .ref (a + 5), .ref (a + 6), .ref (a + 7), .int 0, .int 0])))) rfl ?_
  have e16 : (oj_up g15 (a) (.inr (0, [.ref (a + 1), .ref (a + 2), .ref (a + 3), .ref (a + 4), .ref (a + 5), .ref (a + 6), .ref (a + 7), .int 0, .int 0]))) (a) = .inr (0, [.ref (a + 1), .ref (a + 2), .ref (a + 3), .ref (a + 4), .ref (a + 5), .ref (a + 6), .ref (a + 7), .int 0, .int 0]) := if_pos rfl
  have u16 : ∀ y, y ≠ a → (oj_up g15 (a) (.inr (0, [.ref (a + 1), .ref (a + 2), .ref (a + 3), .ref (a + 4), .ref (a + 5), .ref (a + 6), .ref (a + 7), .int 0, .int 0]))) y = g15 y := fun y z => if_neg z
  have b16 : oj_bd (a + 7 + 1) (oj_up g15 (a) (.inr (0, [.ref (a + 1), .ref (a + 2), .ref (a + 3), .ref (a + 4), .ref (a + 5), .ref (a + 6), .ref (a + 7), .int 0, .int 0]))) := b15.put (by omega) (by refine loL_mem ?_; simp [loL] <;> omega)
  generalize (oj_up g15 (a) (.inr (0, [.ref (a + 1), .ref (a + 2), .ref (a + 3), .ref (a + 4), .ref (a + 5), .ref (a + 6), .ref (a + 7), .int 0, .int 0]))) = g16 at e16 u16 b16 ⊢
  have k16 : ∀ y, y < a ∨ a + 7 < y → g16 y = h y := fun y z => (u16 y (by omega)).trans (k15 y z)
  have e13_16 : g16 (a + 7) = .inl (0, 20, .inl fun _ => 0) := (u16 _ (by omega)).trans e13_15
  have e11_16 : g16 (a + 6) = .inl (0, 20, .inl fun _ => 0) := (u16 _ (by omega)).trans e11_15
  have e9_16 : g16 (a + 5) = .inl (0, 20, .inl fun _ => 0) := (u16 _ (by omega)).trans e9_15
  have e7_16 : g16 (a + 4) = .inl (0, 20, .inl fun _ => 0) := (u16 _ (by omega)).trans e7_15
  have e5_16 : g16 (a + 3) = .inl (0, 20, .inl fun _ => 0) := (u16 _ (by omega)).trans e5_15
  have e3_16 : g16 (a + 2) = .inl (0, 20, .inl fun _ => 0) := (u16 _ (by omega)).trans e3_15
  have e1_16 : g16 (a + 1) = .inl (0, 20, .inl fun _ => 0) := (u16 _ (by omega)).trans e1_15
  clear e15 e13_15 e11_15 e9_15 e7_15 e5_15 e3_15 e1_15
  refine J_vret rfl rfl rfl rfl ⟨rfl, ⟨fun _ _ => 0, ⟨e16, e1_16, e3_16, e5_16, e7_16, e9_16, e11_16, e13_16, Nat.zero_le _⟩, fun j r hj => by cases hj⟩, b16, k16⟩
set_option maxRecDepth 100000 in
set_option maxHeartbeats 2000000 in
theorem c_outInit {h : AHp} {a : Nat} (e0 : h a = .inr (3, [.null, .int 0])) (b0 : oj_bd (a + 1) h) (ha : a + 20 < 999999) : JM mi_X3_init 1 1 96 [.ref a] h (fun r h' => r = .inl none ∧ OutAt h' a [] ∧ oj_bd (a + 2) h' ∧ ∀ y, y < a ∨ a + 1 < y → h' y = h y) := by
  have k0 : ∀ y, y < a ∨ a + 1 < y → h y = h y := fun _ _ => rfl
  refine JM_of gd_X3_init rfl (by decide +kernel) (Nat.le_of_ble_eq_true rfl) (oj_cats rfl) (by decide) ?_
  iterate 1 (refine J_step rfl rfl ?_)
  refine J_objInit rfl (by decide +kernel) rfl rfl ?_
  iterate 2 (refine J_step rfl rfl ?_)
  refine J_newa (a := a + 1) (tag := 1) (N := 96) rfl rfl (by decide) rfl (by decide +kernel) (by decide) (by decide) (by decide) b0 (by omega) (by refine loL_mem ?_; simp [loL] <;> omega) (by intro j v hj; rcases j with _ | _ | _ | _ | j <;> first | (cases hj; done) | (cases hj; omega)) (Nat.le_of_ble_eq_true rfl) (Nat.le_of_ble_eq_true rfl) ?_
  refine J_heap (h2 := (oj_up h (a + 1) (.inl (1, 96, .inl fun _ => 0)))) rfl ?_
  have e1 : (oj_up h (a + 1) (.inl (1, 96, .inl fun _ => 0))) (a + 1) = .inl (1, 96, .inl fun _ => 0) := if_pos rfl
  have u1 : ∀ y, y ≠ a + 1 → (oj_up h (a + 1) (.inl (1, 96, .inl fun _ => 0))) y = h y := fun y z => if_neg z
  have b1 : oj_bd (a + 1 + 1) (oj_up h (a + 1) (.inl (1, 96, .inl fun _ => 0))) := b0.push trivial
  generalize (oj_up h (a + 1) (.inl (1, 96, .inl fun _ => 0))) = g1 at e1 u1 b1 ⊢
  have k1 : ∀ y, y < a ∨ a + 1 < y → g1 y = h y := fun y z => (u1 y (by omega)).trans (k0 y z)
  have e0_1 : g1 (a) = .inr (3, [.null, .int 0]) := (u1 _ (by omega)).trans e0
  clear e0
  refine J_putF rfl rfl rfl e0_1 rfl rfl rfl rfl (fun x => ⟨rfl, rfl⟩) ?_
  refine J_heap (h2 := (oj_up g1 (a) (.inr (3, [.ref (a + 1), .int 0])))) rfl ?_
  have e2 : (oj_up g1 (a) (.inr (3, [.ref (a + 1), .int 0]))) (a) = .inr (3, [.ref (a + 1), .int 0]) := if_pos rfl
  have u2 : ∀ y, y ≠ a → (oj_up g1 (a) (.inr (3, [.ref (a + 1), .int 0]))) y = g1 y := fun y z => if_neg z
  have b2 : oj_bd (a + 1 + 1) (oj_up g1 (a) (.inr (3, [.ref (a + 1), .int 0]))) := b1.put (by omega) (by refine loL_mem ?_; simp [loL] <;> omega)
  generalize (oj_up g1 (a) (.inr (3, [.ref (a + 1), .int 0]))) = g2 at e2 u2 b2 ⊢
  have k2 : ∀ y, y < a ∨ a + 1 < y → g2 y = h y := fun y z => (u2 y (by omega)).trans (k1 y z)
  have e1_2 : g2 (a + 1) = .inl (1, 96, .inl fun _ => 0) := (u2 _ (by omega)).trans e1
  clear e1 e0_1
  iterate 2 (refine J_step rfl rfl ?_)
  refine J_putf rfl rfl rfl e2 rfl rfl (fun _ => rfl) rfl rfl ?_
  refine J_heap (h2 := (oj_up g2 (a) (.inr (3, [.ref (a + 1), .int 0])))) rfl ?_
  have e3 : (oj_up g2 (a) (.inr (3, [.ref (a + 1), .int 0]))) (a) = .inr (3, [.ref (a + 1), .int 0]) := if_pos rfl
  have u3 : ∀ y, y ≠ a → (oj_up g2 (a) (.inr (3, [.ref (a + 1), .int 0]))) y = g2 y := fun y z => if_neg z
  have b3 : oj_bd (a + 1 + 1) (oj_up g2 (a) (.inr (3, [.ref (a + 1), .int 0]))) := b2.put (by omega) (by refine loL_mem ?_; simp [loL] <;> omega)
  generalize (oj_up g2 (a) (.inr (3, [.ref (a + 1), .int 0]))) = g3 at e3 u3 b3 ⊢
  have k3 : ∀ y, y < a ∨ a + 1 < y → g3 y = h y := fun y z => (u3 y (by omega)).trans (k2 y z)
  have e1_3 : g3 (a + 1) = .inl (1, 96, .inl fun _ => 0) := (u3 _ (by omega)).trans e1_2
  clear e2 e1_2
  refine J_vret rfl rfl rfl rfl ⟨rfl, ⟨e3, ⟨_, e1_3, fun j x hj => by cases hj⟩, Nat.zero_le _⟩, b3, k3⟩
set_option maxRecDepth 100000 in
set_option maxHeartbeats 2000000 in
theorem c_pgInit {h : AHp} {a : Nat} (e0 : h a = .inr (4, [.null, .null, .null, .null, .null, .int 0, .int 0, .int 0])) (b0 : oj_bd (a + 1) h) (ha : a + 20 < 999999) : JM mi_X4_init 1 5 124 [.ref a] h (fun r h' => r = .inl none ∧ PgAt h' a [] (fun _ _ => 0) 0 0 ∧ oj_bd (a + 6) h' ∧ ∀ y, y < a ∨ a + 5 < y → h' y = h y) := by
  have k0 : ∀ y, y < a ∨ a + 5 < y → h y = h y := fun _ _ => rfl
  refine JM_of gd_X4_init rfl (by decide +kernel) (Nat.le_of_ble_eq_true rfl) (oj_cats rfl) (by decide) ?_
  iterate 1 (refine J_step rfl rfl ?_)
  refine J_objInit rfl (by decide +kernel) rfl rfl ?_
  iterate 2 (refine J_step rfl rfl ?_)
  refine J_newa (a := a + 1) (tag := 1) (N := 60) rfl rfl (by decide) rfl (by decide +kernel) (by decide) (by decide) (by decide) b0 (by omega) (by refine loL_mem ?_; simp [loL] <;> omega) (by intro j v hj; rcases j with _ | _ | _ | _ | j <;> first | (cases hj; done) | (cases hj; omega)) (Nat.le_of_ble_eq_true rfl) (Nat.le_of_ble_eq_true rfl) ?_
  refine J_heap (h2 := (oj_up h (a + 1) (.inl (1, 60, .inl fun _ => 0)))) rfl ?_
  have e1 : (oj_up h (a + 1) (.inl (1, 60, .inl fun _ => 0))) (a + 1) = .inl (1, 60, .inl fun _ => 0) := if_pos rfl
  have u1 : ∀ y, y ≠ a + 1 → (oj_up h (a + 1) (.inl (1, 60, .inl fun _ => 0))) y = h y := fun y z => if_neg z
  have b1 : oj_bd (a + 1 + 1) (oj_up h (a + 1) (.inl (1, 60, .inl fun _ => 0))) := b0.push trivial
  generalize (oj_up h (a + 1) (.inl (1, 60, .inl fun _ => 0))) = g1 at e1 u1 b1 ⊢
  have k1 : ∀ y, y < a ∨ a + 5 < y → g1 y = h y := fun y z => (u1 y (by omega)).trans (k0 y z)
  have e0_1 : g1 (a) = .inr (4, [.null, .null, .null, .null, .null, .int 0, .int 0, .int 0]) := (u1 _ (by omega)).trans e0
  clear e0
  refine J_putF rfl rfl rfl e0_1 rfl rfl rfl rfl (fun x => ⟨rfl, rfl⟩) ?_
  refine J_heap (h2 := (oj_up g1 (a) (.inr (4, [.ref (a + 1), .null, .null, .null, .null, .int 0, .int 0, .int 0])))) rfl ?_
  have e2 : (oj_up g1 (a) (.inr (4, [.ref (a + 1), .null, .null, .null, .null, .int 0, .int 0, .int 0]))) (a) = .inr (4, [.ref (a + 1), .null, .null, .null, .null, .int 0, .int 0, .int 0]) := if_pos rfl
  have u2 : ∀ y, y ≠ a → (oj_up g1 (a) (.inr (4, [.ref (a + 1), .null, .null, .null, .null, .int 0, .int 0, .int 0]))) y = g1 y := fun y z => if_neg z
  have b2 : oj_bd (a + 1 + 1) (oj_up g1 (a) (.inr (4, [.ref (a + 1), .null, .null, .null, .null, .int 0, .int 0, .int 0]))) := b1.put (by omega) (by refine loL_mem ?_; simp [loL] <;> omega)
  generalize (oj_up g1 (a) (.inr (4, [.ref (a + 1), .null, .null, .null, .null, .int 0, .int 0, .int 0]))) = g2 at e2 u2 b2 ⊢
  have k2 : ∀ y, y < a ∨ a + 5 < y → g2 y = h y := fun y z => (u2 y (by omega)).trans (k1 y z)
  have e1_2 : g2 (a + 1) = .inl (1, 60, .inl fun _ => 0) := (u2 _ (by omega)).trans e1
  clear e1 e0_1
  iterate 2 (refine J_step rfl rfl ?_)
  refine J_newa (a := a + 2) (tag := 0) (N := 16) rfl rfl (by decide) rfl (by decide +kernel) (by decide) (by decide) (by decide) b2 (by omega) (by refine loL_mem ?_; simp [loL] <;> omega) (by intro j v hj; rcases j with _ | _ | _ | _ | j <;> first | (cases hj; done) | (cases hj; omega)) (Nat.le_of_ble_eq_true rfl) (Nat.le_of_ble_eq_true rfl) ?_
  refine J_heap (h2 := (oj_up g2 (a + 2) (.inl (0, 16, .inl fun _ => 0)))) rfl ?_
  have e3 : (oj_up g2 (a + 2) (.inl (0, 16, .inl fun _ => 0))) (a + 2) = .inl (0, 16, .inl fun _ => 0) := if_pos rfl
  have u3 : ∀ y, y ≠ a + 2 → (oj_up g2 (a + 2) (.inl (0, 16, .inl fun _ => 0))) y = g2 y := fun y z => if_neg z
  have b3 : oj_bd (a + 2 + 1) (oj_up g2 (a + 2) (.inl (0, 16, .inl fun _ => 0))) := b2.push trivial
  generalize (oj_up g2 (a + 2) (.inl (0, 16, .inl fun _ => 0))) = g3 at e3 u3 b3 ⊢
  have k3 : ∀ y, y < a ∨ a + 5 < y → g3 y = h y := fun y z => (u3 y (by omega)).trans (k2 y z)
  have e2_3 : g3 (a) = .inr (4, [.ref (a + 1), .null, .null, .null, .null, .int 0, .int 0, .int 0]) := (u3 _ (by omega)).trans e2
  have e1_3 : g3 (a + 1) = .inl (1, 60, .inl fun _ => 0) := (u3 _ (by omega)).trans e1_2
  clear e2 e1_2
  refine J_putF rfl rfl rfl e2_3 rfl rfl rfl rfl (fun x => ⟨rfl, rfl⟩) ?_
  refine J_heap (h2 := (oj_up g3 (a) (.inr (4, [.ref (a + 1), .ref (a + 2), .null, .null, .null, .int 0, .int 0, .int 0])))) rfl ?_
  have e4 : (oj_up g3 (a) (.inr (4, [.ref (a + 1), .ref (a + 2), .null, .null, .null, .int 0, .int 0, .int 0]))) (a) = .inr (4, [.ref (a + 1), .ref (a + 2), .null, .null, .null, .int 0, .int 0, .int 0]) := if_pos rfl
  have u4 : ∀ y, y ≠ a → (oj_up g3 (a) (.inr (4, [.ref (a + 1), .ref (a + 2), .null, .null, .null, .int 0, .int 0, .int 0]))) y = g3 y := fun y z => if_neg z
  have b4 : oj_bd (a + 2 + 1) (oj_up g3 (a) (.inr (4, [.ref (a + 1), .ref (a + 2), .null, .null, .null, .int 0, .int 0, .int 0]))) := b3.put (by omega) (by refine loL_mem ?_; simp [loL] <;> omega)
  generalize (oj_up g3 (a) (.inr (4, [.ref (a + 1), .ref (a + 2), .null, .null, .null, .int 0, .int 0, .int 0]))) = g4 at e4 u4 b4 ⊢
  have k4 : ∀ y, y < a ∨ a + 5 < y → g4 y = h y := fun y z => (u4 y (by omega)).trans (k3 y z)
  have e3_4 : g4 (a + 2) = .inl (0, 16, .inl fun _ => 0) := (u4 _ (by omega)).trans e3
  have e1_4 : g4 (a + 1) = .inl (1, 60, .inl fun _ => 0) := (u4 _ (by omega)).trans e1_3
  clear e3 e2_3 e1_3
  iterate 2 (refine J_step rfl rfl ?_)
  refine J_newa (a := a + 3) (tag := 0) (N := 16) rfl rfl (by decide) rfl (by decide +kernel) (by decide) (by decide) (by decide) b4 (by omega) (by refine loL_mem ?_; simp [loL] <;> omega) (by intro j v hj; rcases j with _ | _ | _ | _ | j <;> first | (cases hj; done) | (cases hj; omega)) (Nat.le_of_ble_eq_true rfl) (Nat.le_of_ble_eq_true rfl) ?_
  refine J_heap (h2 := (oj_up g4 (a + 3) (.inl (0, 16, .inl fun _ => 0)))) rfl ?_
  have e5 : (oj_up g4 (a + 3) (.inl (0, 16, .inl fun _ => 0))) (a + 3) = .inl (0, 16, .inl fun _ => 0) := if_pos rfl
  have u5 : ∀ y, y ≠ a + 3 → (oj_up g4 (a + 3) (.inl (0, 16, .inl fun _ => 0))) y = g4 y := fun y z => if_neg z
  have b5 : oj_bd (a + 3 + 1) (oj_up g4 (a + 3) (.inl (0, 16, .inl fun _ => 0))) := b4.push trivial
  generalize (oj_up g4 (a + 3) (.inl (0, 16, .inl fun _ => 0))) = g5 at e5 u5 b5 ⊢
  have k5 : ∀ y, y < a ∨ a + 5 < y → g5 y = h y := fun y z => (u5 y (by omega)).trans (k4 y z)
  have e4_5 : g5 (a) = .inr (4, [.ref (a + 1), .ref (a + 2), .null, .null, .null, .int 0, .int 0, .int 0]) := (u5 _ (by omega)).trans e4
  have e3_5 : g5 (a + 2) = .inl (0, 16, .inl fun _ => 0) := (u5 _ (by omega)).trans e3_4
  have e1_5 : g5 (a + 1) = .inl (1, 60, .inl fun _ => 0) := (u5 _ (by omega)).trans e1_4
  clear e4 e3_4 e1_4
  refine J_putF rfl rfl rfl e4_5 rfl rfl rfl rfl (fun x => ⟨rfl, rfl⟩) ?_
  refine J_heap (h2 := (oj_up g5 (a) (.inr (4, [.ref (a + 1), .ref (a + 2), .ref (a + 3), .null, .null, .int 0, .int 0, .int 0])))) rfl ?_
  have e6 : (oj_up g5 (a) (.inr (4, [.ref (a + 1), .ref (a + 2), .ref (a + 3), .null, .null, .int 0, .int 0, .int 0]))) (a) = .inr (4, [.ref (a + 1), .ref (a + 2), .ref (a + 3), .null, .null, .int 0, .int 0, .int 0]) := if_pos rfl
  have u6 : ∀ y, y ≠ a → (oj_up g5 (a) (.inr (4, [.ref (a + 1), .ref (a + 2), .ref (a + 3), .null, .null, .int 0, .int 0, .int 0]))) y = g5 y := fun y z => if_neg z
  have b6 : oj_bd (a + 3 + 1) (oj_up g5 (a) (.inr (4, [.ref (a + 1), .ref (a + 2), .ref (a + 3), .null, .null, .int 0, .int 0, .int 0]))) := b5.put (by omega) (by refine loL_mem ?_; simp [loL] <;> omega)
  generalize (oj_up g5 (a) (.inr (4, [.ref (a + 1), .ref (a + 2), .ref (a + 3), .null, .null, .int 0, .int 0, .int 0]))) = g6 at e6 u6 b6 ⊢
  have k6 : ∀ y, y < a ∨ a + 5 < y → g6 y = h y := fun y z => (u6 y (by omega)).trans (k5 y z)
  have e5_6 : g6 (a + 3) = .inl (0, 16, .inl fun _ => 0) := (u6 _ (by omega)).trans e5
  have e3_6 : g6 (a + 2) = .inl (0, 16, .inl fun _ => 0) := (u6 _ (by omega)).trans e3_5
  have e1_6 : g6 (a + 1) = .inl (1, 60, .inl fun _ => 0) := (u6 _ (by omega)).trans e1_5
  clear e5 e4_5 e3_5 e1_5
  iterate 2 (refine J_step rfl rfl ?_)
  refine J_newa (a := a + 4) (tag := 0) (N := 16) rfl rfl (by decide) rfl (by decide +kernel) (by decide) (by decide) (by decide) b6 (by omega) (by refine loL_mem ?_; simp [loL] <;> omega) (by intro j v hj; rcases j with _ | _ | _ | _ | j <;> first | (cases hj; done) | (cases hj; omega)) (Nat.le_of_ble_eq_true rfl) (Nat.le_of_ble_eq_true rfl) ?_
  refine J_heap (h2 := (oj_up g6 (a + 4) (.inl (0, 16, .inl fun _ => 0)))) rfl ?_
  have e7 : (oj_up g6 (a + 4) (.inl (0, 16, .inl fun _ => 0))) (a + 4) = .inl (0, 16, .inl fun _ => 0) := if_pos rfl
  have u7 : ∀ y, y ≠ a + 4 → (oj_up g6 (a + 4) (.inl (0, 16, .inl fun _ => 0))) y = g6 y := fun y z => if_neg z
  have b7 : oj_bd (a + 4 + 1) (oj_up g6 (a + 4) (.inl (0, 16, .inl fun _ => 0))) := b6.push trivial
  generalize (oj_up g6 (a + 4) (.inl (0, 16, .inl fun _ => 0))) = g7 at e7 u7 b7 ⊢
  have k7 : ∀ y, y < a ∨ a + 5 < y → g7 y = h y := fun y z => (u7 y (by omega)).trans (k6 y z)
  have e6_7 : g7 (a) = .inr (4, [.ref (a + 1), .ref (a + 2), .ref (a + 3), .null, .null, .int 0, .int 0, .int 0]) := (u7 _ (by omega)).trans e6
  have e5_7 : g7 (a + 3) = .inl (0, 16, .inl fun _ => 0) := (u7 _ (by omega)).trans e5_6
  have e3_7 : g7 (a + 2) = .inl (0, 16, .inl fun _ => 0) := (u7 _ (by omega)).trans e3_6
  have e1_7 : g7 (a + 1) = .inl (1, 60, .inl fun _ => 0) := (u7 _ (by omega)).trans e1_6
  clear e6 e5_6 e3_6 e1_6
  refine J_putF rfl rfl rfl e6_7 rfl rfl rfl rfl (fun x => ⟨rfl, rfl⟩) ?_
  refine J_heap (h2 := (oj_up g7 (a) (.inr (4, [.ref (a + 1), .ref (a + 2), .ref (a + 3), .ref (a + 4), .null, .int 0, .int 0, .int 0])))) rfl ?_
  have e8 : (oj_up g7 (a) (.inr (4, [.ref (a + 1), .ref (a + 2), .ref (a + 3), .ref (a + 4), .null, .int 0, .int 0, .int 0]))) (a) = .inr (4, [.ref (a + 1), .ref (a + 2), .ref (a + 3), .ref (a + 4), .null, .int 0, .int 0, .int 0]) := if_pos rfl
  have u8 : ∀ y, y ≠ a → (oj_up g7 (a) (.inr (4, [.ref (a + 1), .ref (a + 2), .ref (a + 3), .ref (a + 4), .null, .int 0, .int 0, .int 0]))) y = g7 y := fun y z => if_neg z
  have b8 : oj_bd (a + 4 + 1) (oj_up g7 (a) (.inr (4, [.ref (a + 1), .ref (a + 2), .ref (a + 3), .ref (a + 4), .null, .int 0, .int 0, .int 0]))) := b7.put (by omega) (by refine loL_mem ?_; simp [loL] <;> omega)
  generalize (oj_up g7 (a) (.inr (4, [.ref (a + 1), .ref (a + 2), .ref (a + 3), .ref (a + 4), .null, .int 0, .int 0, .int 0]))) = g8 at e8 u8 b8 ⊢
  have k8 : ∀ y, y < a ∨ a + 5 < y → g8 y = h y := fun y z => (u8 y (by omega)).trans (k7 y z)
  have e7_8 : g8 (a + 4) = .inl (0, 16, .inl fun _ => 0) := (u8 _ (by omega)).trans e7
  have e5_8 : g8 (a + 3) = .inl (0, 16, .inl fun _ => 0) := (u8 _ (by omega)).trans e5_7
  have e3_8 : g8 (a + 2) = .inl (0, 16, .inl fun _ => 0) := (u8 _ (by omega)).trans e3_7
  have e1_8 : g8 (a + 1) = .inl (1, 60, .inl fun _ => 0) := (u8 _ (by omega)).trans e1_7
  clear e7 e6_7 e5_7 e3_7 e1_7
  iterate 2 (refine J_step rfl rfl ?_)
  refine J_newa (a := a + 5) (tag := 0) (N := 16) rfl rfl (by decide) rfl (by decide +kernel) (by decide) (by decide) (by decide) b8 (by omega) (by refine loL_mem ?_; simp [loL] <;> omega) (by intro j v hj; rcases j with _ | _ | _ | _ | j <;> first | (cases hj; done) | (cases hj; omega)) (Nat.le_of_ble_eq_true rfl) (Nat.le_of_ble_eq_true rfl) ?_
  refine J_heap (h2 := (oj_up g8 (a + 5) (.inl (0, 16, .inl fun _ => 0)))) rfl ?_
  have e9 : (oj_up g8 (a + 5) (.inl (0, 16, .inl fun _ => 0))) (a + 5) = .inl (0, 16, .inl fun _ => 0) := if_pos rfl
  have u9 : ∀ y, y ≠ a + 5 → (oj_up g8 (a + 5) (.inl (0, 16, .inl fun _ => 0))) y = g8 y := fun y z => if_neg z
  have b9 : oj_bd (a + 5 + 1) (oj_up g8 (a + 5) (.inl (0, 16, .inl fun _ => 0))) := b8.push trivial
  generalize (oj_up g8 (a + 5) (.inl (0, 16, .inl fun _ => 0))) = g9 at e9 u9 b9 ⊢
  have k9 : ∀ y, y < a ∨ a + 5 < y → g9 y = h y := fun y z => (u9 y (by omega)).trans (k8 y z)
  have e8_9 : g9 (a) = .inr (4, [.ref (a + 1), .ref (a + 2), .ref (a + 3), .ref (a + 4), .null, .int 0, .int 0, .int 0]) := (u9 _ (by omega)).trans e8
  have e7_9 : g9 (a + 4) = .inl (0, 16, .inl fun _ => 0) := (u9 _ (by omega)).trans e7_8
  have e5_9 : g9 (a + 3) = .inl (0, 16, .inl fun _ => 0) := (u9 _ (by omega)).trans e5_8
  have e3_9 : g9 (a + 2) = .inl (0, 16, .inl fun _ => 0) := (u9 _ (by omega)).trans e3_8
  have e1_9 : g9 (a + 1) = .inl (1, 60, .inl fun _ => 0) := (u9 _ (by omega)).trans e1_8
  clear e8 e7_8 e5_8 e3_8 e1_8
  refine J_putF rfl rfl rfl e8_9 rfl rfl rfl rfl (fun x => ⟨rfl, rfl⟩) ?_
  refine J_heap (h2 := (oj_up g9 (a) (.inr (4, [.ref (a + 1), .ref (a + 2), .ref (a + 3), .ref (a + 4), .ref (a + 5), .int 0, .int 0, .int 0])))) rfl ?_
  have e10 : (oj_up g9 (a) (.inr (4, [.ref (a + 1), .ref (a + 2), .ref (a + 3), .ref (a + 4), .ref (a + 5), .int 0, .int 0, .int 0]))) (a) = .inr (4, [.ref (a + 1), .ref (a + 2), .ref (a + 3), .ref (a + 4), .ref (a + 5), .int 0, .int 0, .int 0]) := if_pos rfl
  have u10 : ∀ y, y ≠ a → (oj_up g9 (a) (.inr (4, [.ref (a + 1), .ref (a + 2), .ref (a + 3), .ref (a + 4), .ref (a + 5), .int 0, .int 0, .int 0]))) y = g9 y := fun y z => if_neg z
  have b10 : oj_bd (a + 5 + 1) (oj_up g9 (a) (.inr (4, [.ref (a + 1), .ref (a + 2), .ref (a + 3), .ref (a + 4), .ref (a + 5), .int 0, .int 0, .int 0]))) := b9.put (by omega) (by refine loL_mem ?_; simp [loL] <;> omega)
  generalize (oj_up g9 (a) (.inr (4, [.ref (a + 1), .ref (a + 2), .ref (a + 3), .ref (a + 4), .ref (a + 5), .int 0, .int 0, .int 0]))) = g10 at e10 u10 b10 ⊢
  have k10 : ∀ y, y < a ∨ a + 5 < y → g10 y = h y := fun y z => (u10 y (by omega)).trans (k9 y z)
  have e9_10 : g10 (a + 5) = .inl (0, 16, .inl fun _ => 0) := (u10 _ (by omega)).trans e9
  have e7_10 : g10 (a + 4) = .inl (0, 16, .inl fun _ => 0) := (u10 _ (by omega)).trans e7_9
  have e5_10 : g10 (a + 3) = .inl (0, 16, .inl fun _ => 0) := (u10 _ (by omega)).trans e5_9
  have e3_10 : g10 (a + 2) = .inl (0, 16, .inl fun _ => 0) := (u10 _ (by omega)).trans e3_9
  have e1_10 : g10 (a + 1) = .inl (1, 60, .inl fun _ => 0) := (u10 _ (by omega)).trans e1_9
  clear e9 e8_9 e7_9 e5_9 e3_9 e1_9
  iterate 2 (refine J_step rfl rfl ?_)
  refine J_putf rfl rfl rfl e10 rfl rfl (fun _ => rfl) rfl rfl ?_
  refine J_heap (h2 := (oj_up g10 (a) (.inr (4, [.ref (a + 1), .ref (a + 2), .ref (a + 3), .ref (a + 4), .ref (a + 5), .int 0, .int 0, .int 0])))) rfl ?_
  have e11 : (oj_up g10 (a) (.inr (4, [.ref (a + 1), .ref (a + 2), .ref (a + 3), .ref (a + 4), .ref (a + 5), .int 0, .int 0, .int 0]))) (a) = .inr (4, [.ref (a + 1), .ref (a + 2), .ref (a + 3), .ref (a + 4), .ref (a + 5), .int 0, .int 0, .int 0]) := if_pos rfl
  have u11 : ∀ y, y ≠ a → (oj_up g10 (a) (.inr (4, [.ref (a + 1), .ref (a + 2), .ref (a + 3), .ref (a + 4), .ref (a + 5), .int 0, .int 0, .int 0]))) y = g10 y := fun y z => if_neg z
  have b11 : oj_bd (a + 5 + 1) (oj_up g10 (a) (.inr (4, [.ref (a + 1), .ref (a + 2), .ref (a + 3), .ref (a + 4), .ref (a + 5), .int 0, .int 0, .int 0]))) := b10.put (by omega) (by refine loL_mem ?_; simp [loL] <;> omega)
  generalize (oj_up g10 (a) (.inr (4, [.ref (a + 1), .ref (a + 2), .ref (a + 3), .ref (a + 4), .ref (a + 5), .int 0, .int 0, .int 0]))) = g11 at e11 u11 b11 ⊢
  have k11 : ∀ y, y < a ∨ a + 5 < y → g11 y = h y := fun y z => (u11 y (by omega)).trans (k10 y z)
  have e9_11 : g11 (a + 5) = .inl (0, 16, .inl fun _ => 0) := (u11 _ (by omega)).trans e9_10
  have e7_11 : g11 (a + 4) = .inl (0, 16, .inl fun _ => 0) := (u11 _ (by omega)).trans e7_10
  have e5_11 : g11 (a + 3) = .inl (0, 16, .inl fun _ => 0) := (u11 _ (by omega)).trans e5_10
  have e3_11 : g11 (a + 2) = .inl (0, 16, .inl fun _ => 0) := (u11 _ (by omega)).trans e3_10
  have e1_11 : g11 (a + 1) = .inl (1, 60, .inl fun _ => 0) := (u11 _ (by omega)).trans e1_10
  clear e10 e9_10 e7_10 e5_10 e3_10 e1_10
  iterate 2 (refine J_step rfl rfl ?_)
  refine J_putf rfl rfl rfl e11 rfl rfl (fun _ => rfl) rfl rfl ?_
  refine J_heap (h2 := (oj_up g11 (a) (.inr (4, [.ref (a + 1), .ref (a + 2), .ref (a + 3), .ref (a + 4), .ref (a + 5), .int 0, .int 0, .int 0])))) rfl ?_
  have e12 : (oj_up g11 (a) (.inr (4, [.ref (a + 1), .ref (a + 2), .ref (a + 3), .ref (a + 4), .ref (a + 5), .int 0, .int 0, .int 0]))) (a) = .inr (4, [.ref (a + 1), .ref (a + 2), .ref (a + 3), .ref (a + 4), .ref (a + 5), .int 0, .int 0, .int 0]) := if_pos rfl
  have u12 : ∀ y, y ≠ a → (oj_up g11 (a) (.inr (4, [.ref (a + 1), .ref (a + 2), .ref (a + 3), .ref (a + 4), .ref (a + 5), .int 0, .int 0, .int 0]))) y = g11 y := fun y z => if_neg z
  have b12 : oj_bd (a + 5 + 1) (oj_up g11 (a) (.inr (4, [.ref (a + 1), .ref (a + 2), .ref (a + 3), .ref (a + 4), .ref (a + 5), .int 0, .int 0, .int 0]))) := b11.put (by omega) (by refine loL_mem ?_; simp [loL] <;> omega)
  generalize (oj_up g11 (a) (.inr (4, [.ref (a + 1), .ref (a + 2), .ref (a + 3), .ref (a + 4), .ref (a + 5), .int 0, .int 0, .int 0]))) = g12 at e12 u12 b12 ⊢
  have k12 : ∀ y, y < a ∨ a + 5 < y → g12 y = h y := fun y z => (u12 y (by omega)).trans (k11 y z)
  have e9_12 : g12 (a + 5) = .inl (0, 16, .inl fun _ => 0) := (u12 _ (by omega)).trans e9_11
  have e7_12 : g12 (a + 4) = .inl (0, 16, .inl fun _ => 0) := (u12 _ (by omega)).trans e7_11
  have e5_12 : g12 (a + 3) = .inl (0, 16, .inl fun _ => 0) := (u12 _ (by omega)).trans e5_11
  have e3_12 : g12 (a + 2) = .inl (0, 16, .inl fun _ => 0) := (u12 _ (by omega)).trans e3_11
  have e1_12 : g12 (a + 1) = .inl (1, 60, .inl fun _ => 0) := (u12 _ (by omega)).trans e1_11
  clear e11 e9_11 e7_11 e5_11 e3_11 e1_11
  iterate 2 (refine J_step rfl rfl ?_)
  refine J_putf rfl rfl rfl e12 rfl rfl (fun _ => rfl) rfl rfl ?_
  refine J_heap (h2 := (oj_up g12 (a) (.inr (4, [.ref (a + 1), .ref (a + 2), .ref (a + 3), .ref (a + 4), .ref (a + 5), .int 0, .int 0, .int 0])))) rfl ?_
  have e13 : (oj_up g12 (a) (.inr (4, [.ref (a + 1), .ref (a + 2), .ref (a + 3), .ref (a + 4), .ref (a + 5), .int 0, .int 0, .int 0]))) (a) = .inr (4, [.ref (a + 1), .ref (a + 2), .ref (a + 3), .ref (a + 4), .ref (a + 5), .int 0, .int 0, .int 0]) := if_pos rfl
  have u13 : ∀ y, y ≠ a → (oj_up g12 (a) (.inr (4, [.ref (a + 1), .ref (a + 2), .ref (a + 3), .ref (a + 4), .ref (a + 5), .int 0, .int 0, .int 0]))) y = g12 y := fun y z => if_neg z
  have b13 : oj_bd (a + 5 + 1) (oj_up g12 (a) (.inr (4, [.ref (a + 1), .ref (a + 2), .ref (a + 3), .ref (a + 4), .ref (a + 5), .int 0, .int 0, .int 0]))) := b12.put (by omega) (by refine loL_mem ?_; simp [loL] <;> omega)
  generalize (oj_up g12 (a) (.inr (4, [.ref (a + 1), .ref (a + 2), .ref (a + 3), .ref (a + 4), .ref (a + 5), .int 0, .int 0, .int 0]))) = g13 at e13 u13 b13 ⊢
  have k13 : ∀ y, y < a ∨ a + 5 < y → g13 y = h y := fun y z => (u13 y (by omega)).trans (k12 y z)
  have e9_13 : g13 (a + 5) = .inl (0, 16, .inl fun _ => 0) := (u13 _ (by omega)).trans e9_12
  have e7_13 : g13 (a + 4) = .inl (0, 16, .inl fun _ => 0) := (u13 _ (by omega)).trans e7_12
  have e5_13 : g13 (a + 3) = .inl (0, 16, .inl fun _ => 0) := (u13 _ (by omega)).trans e5_12
  have e3_13 : g13 (a + 2) = .inl (0, 16, .inl fun _ => 0) := (u13 _ (by omega)).trans e3_12
  have e1_13 : g13 (a + 1) = .inl (1, 60, .inl fun _ => 0) := (u13 _ (by omega)).trans e1_12
  clear e12 e9_12 e7_12 e5_12 e3_12 e1_12
  refine J_vret rfl rfl rfl rfl ⟨rfl, ⟨e13, ⟨_, e1_13, fun j x hj => by cases hj⟩, e3_13, e5_13, e7_13, e9_13, Nat.zero_le _⟩, b13, k13⟩
set_option maxRecDepth 100000 in
set_option maxHeartbeats 2000000 in
theorem c_lnInit {h : AHp} {a : Nat} (e0 : h a = .inr (2, [.null, .null, .int 0, .int 0, .int 0, .int 0, .int 0, .int 0, .int 0, .int 0, .int 0, .int 0, .long 0, .long 0])) (b0 : oj_bd (a + 1) h) (ha : a + 50 < 999999) : JM mi_X2_init 2 9 155 [.ref a] h (fun r h' => r = .inl none ∧ LnR h' a LQ0 ∧ oj_bd (a + 10) h' ∧ ∀ y, y < a ∨ a + 9 < y → h' y = h y) := by
  have k0 : ∀ y, y < a ∨ a + 9 < y → h y = h y := fun _ _ => rfl
  refine JM_of gd_X2_init rfl (by decide +kernel) (Nat.le_of_ble_eq_true rfl) (oj_cats rfl) (by decide) ?_
  iterate 1 (refine J_step rfl rfl ?_)
  refine J_objInit rfl (by decide +kernel) rfl rfl ?_
  iterate 2 (refine J_step rfl rfl ?_)
  refine J_newa (a := a + 1) (tag := 0) (N := 6) rfl rfl (by decide) rfl (by decide +kernel) (by decide) (by decide) (by decide) b0 (by omega) (by refine loL_mem ?_; simp [loL] <;> omega) (by intro j v hj; rcases j with _ | _ | _ | _ | j <;> first | (cases hj; done) | (cases hj; omega)) (Nat.le_of_ble_eq_true rfl) (Nat.le_of_ble_eq_true rfl) ?_
  refine J_heap (h2 := (oj_up h (a + 1) (.inl (0, 6, .inl fun _ => 0)))) rfl ?_
  have e1 : (oj_up h (a + 1) (.inl (0, 6, .inl fun _ => 0))) (a + 1) = .inl (0, 6, .inl fun _ => 0) := if_pos rfl
  have u1 : ∀ y, y ≠ a + 1 → (oj_up h (a + 1) (.inl (0, 6, .inl fun _ => 0))) y = h y := fun y z => if_neg z
  have b1 : oj_bd (a + 1 + 1) (oj_up h (a + 1) (.inl (0, 6, .inl fun _ => 0))) := b0.push trivial
  generalize (oj_up h (a + 1) (.inl (0, 6, .inl fun _ => 0))) = g1 at e1 u1 b1 ⊢
  have k1 : ∀ y, y < a ∨ a + 9 < y → g1 y = h y := fun y z => (u1 y (by omega)).trans (k0 y z)
  have e0_1 : g1 (a) = .inr (2, [.null, .null, .int 0, .int 0, .int 0, .int 0, .int 0, .int 0, .int 0, .int 0, .int 0, .int 0, .long 0, .long 0]) := (u1 _ (by omega)).trans e0
  clear e0
  refine J_putF rfl rfl rfl e0_1 rfl rfl rfl rfl (fun x => ⟨rfl, rfl⟩) ?_
  refine J_heap (h2 := (oj_up g1 (a) (.inr (2, [.ref (a + 1), .null, .int 0, .int 0, .int 0, .int 0, .int 0, .int 0, .int 0, .int 0, .int 0, .int 0, .long 0, .long 0])))) rfl ?_
  have e2 : (oj_up g1 (a) (.inr (2, [.ref (a + 1), .null, .int 0, .int 0, .int 0, .int 0, .int 0, .int 0, .int 0, .int 0, .int 0, .int 0, .long 0, .long 0]))) (a) = .inr (2, [.ref (a + 1), .null, .int 0, .int 0, .int 0, .int 0, .int 0, .int 0, .int 0, .int 0, .int 0, .int 0, .long 0, .long 0]) := if_pos rfl
  have u2 : ∀ y, y ≠ a → (oj_up g1 (a) (.inr (2, [.ref (a + 1), .null, .int 0, .int 0, .int 0, .int 0, .int 0, .int 0, .int 0, .int 0, .int 0, .int 0, .long 0, .long 0]))) y = g1 y := fun y z => if_neg z
  have b2 : oj_bd (a + 1 + 1) (oj_up g1 (a) (.inr (2, [.ref (a + 1), .null, .int 0, .int 0, .int 0, .int 0, .int 0, .int 0, .int 0, .int 0, .int 0, .int 0, .long 0, .long 0]))) := b1.put (by omega) (by refine loL_mem ?_; simp [loL] <;> omega)
  generalize (oj_up g1 (a) (.inr (2, [.ref (a + 1), .null, .int 0, .int 0, .int 0, .int 0, .int 0, .int 0, .int 0, .int 0, .int 0, .int 0, .long 0, .long 0]))) = g2 at e2 u2 b2 ⊢
  have k2 : ∀ y, y < a ∨ a + 9 < y → g2 y = h y := fun y z => (u2 y (by omega)).trans (k1 y z)
  have e1_2 : g2 (a + 1) = .inl (0, 6, .inl fun _ => 0) := (u2 _ (by omega)).trans e1
  clear e1 e0_1
  iterate 1 (refine J_step rfl rfl ?_)
  refine J_new (a := a + 2) (ci := 0) (N := 9) (fs := [.null, .null, .null, .null, .null, .null, .null, .int 0, .int 0]) rfl rfl (by decide +kernel) (by decide +kernel) (by decide +kernel) rfl (by decide +kernel) (fun ad => rfl) b2 (by omega) (by refine loL_mem ?_; simp [loL] <;> omega) (by intro j v hj; rcases j with _ | _ | _ | _ | j <;> first | (cases hj; done) | (cases hj; omega)) (Nat.le_of_ble_eq_true rfl) (Nat.le_of_ble_eq_true rfl) ?_
  refine J_heap (h2 := (oj_up g2 (a + 2) (.inr (0, [.null, .null, .null, .null, .null, .null, .null, .int 0, .int 0])))) rfl ?_
  have e3 : (oj_up g2 (a + 2) (.inr (0, [.null, .null, .null, .null, .null, .null, .null, .int 0, .int 0]))) (a + 2) = .inr (0, [.null, .null, .null, .null, .null, .null, .null, .int 0, .int 0]) := if_pos rfl
  have u3 : ∀ y, y ≠ a + 2 → (oj_up g2 (a + 2) (.inr (0, [.null, .null, .null, .null, .null, .null, .null, .int 0, .int 0]))) y = g2 y := fun y z => if_neg z
  have b3 : oj_bd (a + 2 + 1) (oj_up g2 (a + 2) (.inr (0, [.null, .null, .null, .null, .null, .null, .null, .int 0, .int 0]))) := b2.push (by refine loL_mem ?_; simp [loL] <;> omega)
  generalize (oj_up g2 (a + 2) (.inr (0, [.null, .null, .null, .null, .null, .null, .null, .int 0, .int 0]))) = g3 at e3 u3 b3 ⊢
  have k3 : ∀ y, y < a ∨ a + 9 < y → g3 y = h y := fun y z => (u3 y (by omega)).trans (k2 y z)
  have e2_3 : g3 (a) = .inr (2, [.ref (a + 1), .null, .int 0, .int 0, .int 0, .int 0, .int 0, .int 0, .int 0, .int 0, .int 0, .int 0, .long 0, .long 0]) := (u3 _ (by omega)).trans e2
  have e1_3 : g3 (a + 1) = .inl (0, 6, .inl fun _ => 0) := (u3 _ (by omega)).trans e1_2
  clear e2 e1_2
  iterate 1 (refine J_step rfl rfl ?_)
  refine J_callI rfl rfl rfl rfl (by first | exact Or.inl rfl | exact Or.inr rfl) rfl rfl rfl rfl rfl (c_crInit e3 b3 (by omega)) (Nat.le_of_ble_eq_true rfl) (Nat.le_of_ble_eq_true rfl) (by intro v hv; simp only [List.mem_cons, List.not_mem_nil, or_false, Value.ref.injEq] at hv; rcases hv with rfl | rfl; all_goals exact nnl (by assumption) (by decide)) (by intro j v hj; rcases j with _ | _ | _ | _ | j <;> first | (cases hj; done) | (cases hj; exact nnl (by assumption) (by decide))) (fun E h9 q => by cases q.1) (fun v g4 q => ?_)
  obtain ⟨q1, cr, b4, u4⟩ := q
  cases q1
  have k4 : ∀ y, y < a ∨ a + 9 < y → g4 y = h y := fun y z => (u4 y (by omega)).trans (k3 y z)
  have e2_4 : g4 (a) = .inr (2, [.ref (a + 1), .null, .int 0, .int 0, .int 0, .int 0, .int 0, .int 0, .int 0, .int 0, .int 0, .int 0, .long 0, .long 0]) := (u4 _ (by omega)).trans e2_3
  have e1_4 : g4 (a + 1) = .inl (0, 6, .inl fun _ => 0) := (u4 _ (by omega)).trans e1_3
  clear e3 e2_3 e1_3
  refine J_putF rfl rfl rfl e2_4 rfl rfl rfl rfl (fun x => ⟨rfl, rfl⟩) ?_
  refine J_heap (h2 := (oj_up g4 (a) (.inr (2, [.ref (a + 1), .ref (a + 2), .int 0, .int 0, .int 0, .int 0, .int 0, .int 0, .int 0, .int 0, .int 0, .int 0, .long 0, .long 0])))) rfl ?_
  have e5 : (oj_up g4 (a) (.inr (2, [.ref (a + 1), .ref (a + 2), .int 0, .int 0, .int 0, .int 0, .int 0, .int 0, .int 0, .int 0, .int 0, .int 0, .long 0, .long 0]))) (a) = .inr (2, [.ref (a + 1), .ref (a + 2), .int 0, .int 0, .int 0, .int 0, .int 0, .int 0, .int 0, .int 0, .int 0, .int 0, .long 0, .long 0]) := if_pos rfl
  have u5 : ∀ y, y ≠ a → (oj_up g4 (a) (.inr (2, [.ref (a + 1), .ref (a + 2), .int 0, .int 0, .int 0, .int 0, .int 0, .int 0, .int 0, .int 0, .int 0, .int 0, .long 0, .long 0]))) y = g4 y := fun y z => if_neg z
  have b5 : oj_bd (a + 2 + 8) (oj_up g4 (a) (.inr (2, [.ref (a + 1), .ref (a + 2), .int 0, .int 0, .int 0, .int 0, .int 0, .int 0, .int 0, .int 0, .int 0, .int 0, .long 0, .long 0]))) := b4.put (by omega) (by refine loL_mem ?_; simp [loL] <;> omega)
  generalize (oj_up g4 (a) (.inr (2, [.ref (a + 1), .ref (a + 2), .int 0, .int 0, .int 0, .int 0, .int 0, .int 0, .int 0, .int 0, .int 0, .int 0, .long 0, .long 0]))) = g5 at e5 u5 b5 ⊢
  have k5 : ∀ y, y < a ∨ a + 9 < y → g5 y = h y := fun y z => (u5 y (by omega)).trans (k4 y z)
  have e1_5 : g5 (a + 1) = .inl (0, 6, .inl fun _ => 0) := (u5 _ (by omega)).trans e1_4
  clear e2_4 e1_4
  have cr_5 := CrAt_mv (h2 := g5) (fun x z1 z2 => u5 x (by omega)) cr
  iterate 2 (refine J_step rfl rfl ?_)
  refine J_putf rfl rfl rfl e5 rfl rfl (fun _ => rfl) rfl rfl ?_
  refine J_heap (h2 := (oj_up g5 (a) (.inr (2, [.ref (a + 1), .ref (a + 2), .int 0, .int 0, .int 0, .int 0, .int 0, .int 0, .int 0, .int 0, .int 0, .int 0, .long 0, .long 0])))) rfl ?_
  have e6 : (oj_up g5 (a) (.inr (2, [.ref (a + 1), .ref (a + 2), .int 0, .int 0, .int 0, .int 0, .int 0, .int 0, .int 0, .int 0, .int 0, .int 0, .long 0, .long 0]))) (a) = .inr (2, [.ref (a + 1), .ref (a + 2), .int 0, .int 0, .int 0, .int 0, .int 0, .int 0, .int 0, .int 0, .int 0, .int 0, .long 0, .long 0]) := if_pos rfl
  have u6 : ∀ y, y ≠ a → (oj_up g5 (a) (.inr (2, [.ref (a + 1), .ref (a + 2), .int 0, .int 0, .int 0, .int 0, .int 0, .int 0, .int 0, .int 0, .int 0, .int 0, .long 0, .long 0]))) y = g5 y := fun y z => if_neg z
  have b6 : oj_bd (a + 2 + 8) (oj_up g5 (a) (.inr (2, [.ref (a + 1), .ref (a + 2), .int 0, .int 0, .int 0, .int 0, .int 0, .int 0, .int 0, .int 0, .int 0, .int 0, .long 0, .long 0]))) := b5.put (by omega) (by refine loL_mem ?_; simp [loL] <;> omega)
  generalize (oj_up g5 (a) (.inr (2, [.ref (a + 1), .ref (a + 2), .int 0, .int 0, .int 0, .int 0, .int 0, .int 0, .int 0, .int 0, .int 0, .int 0, .long 0, .long 0]))) = g6 at e6 u6 b6 ⊢
  have k6 : ∀ y, y < a ∨ a + 9 < y → g6 y = h y := fun y z => (u6 y (by omega)).trans (k5 y z)
  have e1_6 : g6 (a + 1) = .inl (0, 6, .inl fun _ => 0) := (u6 _ (by omega)).trans e1_5
  clear e5 e1_5
  have cr_6 := CrAt_mv (h2 := g6) (fun x z1 z2 => u6 x (by omega)) cr_5
  iterate 2 (refine J_step rfl rfl ?_)
  refine J_putf rfl rfl rfl e6 rfl rfl (fun _ => rfl) rfl rfl ?_
  refine J_heap (h2 := (oj_up g6 (a) (.inr (2, [.ref (a + 1), .ref (a + 2), .int 0, .int 0, .int 0, .int 0, .int 0, .int 0, .int 0, .int 0, .int 0, .int 0, .long 0, .long 0])))) rfl ?_
  have e7 : (oj_up g6 (a) (.inr (2, [.ref (a + 1), .ref (a + 2), .int 0, .int 0, .int 0, .int 0, .int 0, .int 0, .int 0, .int 0, .int 0, .int 0, .long 0, .long 0]))) (a) = .inr (2, [.ref (a + 1), .ref (a + 2), .int 0, .int 0, .int 0, .int 0, .int 0, .int 0, .int 0, .int 0, .int 0, .int 0, .long 0, .long 0]) := if_pos rfl
  have u7 : ∀ y, y ≠ a → (oj_up g6 (a) (.inr (2, [.ref (a + 1), .ref (a + 2), .int 0, .int 0, .int 0, .int 0, .int 0, .int 0, .int 0, .int 0, .int 0, .int 0, .long 0, .long 0]))) y = g6 y := fun y z => if_neg z
  have b7 : oj_bd (a + 2 + 8) (oj_up g6 (a) (.inr (2, [.ref (a + 1), .ref (a + 2), .int 0, .int 0, .int 0, .int 0, .int 0, .int 0, .int 0, .int 0, .int 0, .int 0, .long 0, .long 0]))) := b6.put (by omega) (by refine loL_mem ?_; simp [loL] <;> omega)
  generalize (oj_up g6 (a) (.inr (2, [.ref (a + 1), .ref (a + 2), .int 0, .int 0, .int 0, .int 0, .int 0, .int 0, .int 0, .int 0, .int 0, .int 0, .long 0, .long 0]))) = g7 at e7 u7 b7 ⊢
  have k7 : ∀ y, y < a ∨ a + 9 < y → g7 y = h y := fun y z => (u7 y (by omega)).trans (k6 y z)
  have e1_7 : g7 (a + 1) = .inl (0, 6, .inl fun _ => 0) := (u7 _ (by omega)).trans e1_6
  clear e6 e1_6
  have cr_7 := CrAt_mv (h2 := g7) (fun x z1 z2 => u7 x (by omega)) cr_6
  iterate 2 (refine J_step rfl rfl ?_)
  refine J_putf rfl rfl rfl e7 rfl rfl (fun _ => rfl) rfl rfl ?_
  refine J_heap (h2 := (oj_up g7 (a) (.inr (2, [.ref (a + 1), .ref (a + 2), .int 0, .int 0, .int 1, .int 0, .int 0, .int 0, .int 0, .int 0, .int 0, .int 0, .long 0, .long 0])))) rfl ?_
  have e8 : (oj_up g7 (a) (.inr (2, [.ref (a + 1), .ref (a + 2), .int 0, .int 0, .int 1, .int 0, .int 0, .int 0, .int 0, .int 0, .int 0, .int 0, .long 0, .long 0]))) (a) = .inr (2, [.ref (a + 1), .ref (a + 2), .int 0, .int 0, .int 1, .int 0, .int 0, .int 0, .int 0, .int 0, .int 0, .int 0, .long 0, .long 0]) := if_pos rfl
  have u8 : ∀ y, y ≠ a → (oj_up g7 (a) (.inr (2, [.ref (a + 1), .ref (a + 2), .int 0, .int 0, .int 1, .int 0, .int 0, .int 0, .int 0, .int 0, .int 0, .int 0, .long 0, .long 0]))) y = g7 y := fun y z => if_neg z
  have b8 : oj_bd (a + 2 + 8) (oj_up g7 (a) (.inr (2, [.ref (a + 1), .ref (a + 2), .int 0, .int 0, .int 1, .int 0, .int 0, .int 0, .int 0, .int 0, .int 0, .int 0, .long 0, .long 0]))) := b7.put (by omega) (by refine loL_mem ?_; simp [loL] <;> omega)
  generalize (oj_up g7 (a) (.inr (2, [.ref (a + 1), .ref (a + 2), .int 0, .int 0, .int 1, .int 0, .int 0, .int 0, .int 0, .int 0, .int 0, .int 0, .long 0, .long 0]))) = g8 at e8 u8 b8 ⊢
  have k8 : ∀ y, y < a ∨ a + 9 < y → g8 y = h y := fun y z => (u8 y (by omega)).trans (k7 y z)
  have e1_8 : g8 (a + 1) = .inl (0, 6, .inl fun _ => 0) := (u8 _ (by omega)).trans e1_7
  clear e7 e1_7
  have cr_8 := CrAt_mv (h2 := g8) (fun x z1 z2 => u8 x (by omega)) cr_7
  iterate 2 (refine J_step rfl rfl ?_)
  refine J_putf rfl rfl rfl e8 rfl rfl (fun _ => rfl) rfl rfl ?_
  refine J_heap (h2 := (oj_up g8 (a) (.inr (2, [.ref (a + 1), .ref (a + 2), .int 0, .int 0, .int 1, .int 4, .int 0, .int 0, .int 0, .int 0, .int 0, .int 0, .long 0, .long 0])))) rfl ?_
  have e9 : (oj_up g8 (a) (.inr (2, [.ref (a + 1), .ref (a + 2), .int 0, .int 0, .int 1, .int 4, .int 0, .int 0, .int 0, .int 0, .int 0, .int 0, .long 0, .long 0]))) (a) = .inr (2, [.ref (a + 1), .ref (a + 2), .int 0, .int 0, .int 1, .int 4, .int 0, .int 0, .int 0, .int 0, .int 0, .int 0, .long 0, .long 0]) := if_pos rfl
  have u9 : ∀ y, y ≠ a → (oj_up g8 (a) (.inr (2, [.ref (a + 1), .ref (a + 2), .int 0, .int 0, .int 1, .int 4, .int 0, .int 0, .int 0, .int 0, .int 0, .int 0, .long 0, .long 0]))) y = g8 y := fun y z => if_neg z
  have b9 : oj_bd (a + 2 + 8) (oj_up g8 (a) (.inr (2, [.ref (a + 1), .ref (a + 2), .int 0, .int 0, .int 1, .int 4, .int 0, .int 0, .int 0, .int 0, .int 0, .int 0, .long 0, .long 0]))) := b8.put (by omega) (by refine loL_mem ?_; simp [loL] <;> omega)
  generalize (oj_up g8 (a) (.inr (2, [.ref (a + 1), .ref (a + 2), .int 0, .int 0, .int 1, .int 4, .int 0, .int 0, .int 0, .int 0, .int 0, .int 0, .long 0, .long 0]))) = g9 at e9 u9 b9 ⊢
  have k9 : ∀ y, y < a ∨ a + 9 < y → g9 y = h y := fun y z => (u9 y (by omega)).trans (k8 y z)
  have e1_9 : g9 (a + 1) = .inl (0, 6, .inl fun _ => 0) := (u9 _ (by omega)).trans e1_8
  clear e8 e1_8
  have cr_9 := CrAt_mv (h2 := g9) (fun x z1 z2 => u9 x (by omega)) cr_8
  iterate 2 (refine J_step rfl rfl ?_)
  refine J_putf rfl rfl rfl e9 rfl rfl (fun _ => rfl) rfl rfl ?_
  refine J_heap (h2 := (oj_up g9 (a) (.inr (2, [.ref (a + 1), .ref (a + 2), .int 0, .int 0, .int 1, .int 4, .int 0, .int 0, .int 0, .int 0, .int 0, .int 0, .long 0, .long 0])))) rfl ?_
  have e10 : (oj_up g9 (a) (.inr (2, [.ref (a + 1), .ref (a + 2), .int 0, .int 0, .int 1, .int 4, .int 0, .int 0, .int 0, .int 0, .int 0, .int 0, .long 0, .long 0]))) (a) = .inr (2, [.ref (a + 1), .ref (a + 2), .int 0, .int 0, .int 1, .int 4, .int 0, .int 0, .int 0, .int 0, .int 0, .int 0, .long 0, .long 0]) := if_pos rfl
  have u10 : ∀ y, y ≠ a → (oj_up g9 (a) (.inr (2, [.ref (a + 1), .ref (a + 2), .int 0, .int 0, .int 1, .int 4, .int 0, .int 0, .int 0, .int 0, .int 0, .int 0, .long 0, .long 0]))) y = g9 y := fun y z => if_neg z
  have b10 : oj_bd (a + 2 + 8) (oj_up g9 (a) (.inr (2, [.ref (a + 1), .ref (a + 2), .int 0, .int 0, .int 1, .int 4, .int 0, .int 0, .int 0, .int 0, .int 0, .int 0, .long 0, .long 0]))) := b9.put (by omega) (by refine loL_mem ?_; simp [loL] <;> omega)
  generalize (oj_up g9 (a) (.inr (2, [.ref (a + 1), .ref (a + 2), .int 0, .int 0, .int 1, .int 4, .int 0, .int 0, .int 0, .int 0, .int 0, .int 0, .long 0, .long 0]))) = g10 at e10 u10 b10 ⊢
  have k10 : ∀ y, y < a ∨ a + 9 < y → g10 y = h y := fun y z => (u10 y (by omega)).trans (k9 y z)
  have e1_10 : g10 (a + 1) = .inl (0, 6, .inl fun _ => 0) := (u10 _ (by omega)).trans e1_9
  clear e9 e1_9
  have cr_10 := CrAt_mv (h2 := g10) (fun x z1 z2 => u10 x (by omega)) cr_9
  iterate 2 (refine J_step rfl rfl ?_)
  refine J_putf rfl rfl rfl e10 rfl rfl (fun _ => rfl) rfl rfl ?_
  refine J_heap (h2 := (oj_up g10 (a) (.inr (2, [.ref (a + 1), .ref (a + 2), .int 0, .int 0, .int 1, .int 4, .int 0, .int 0, .int 0, .int 0, .int 0, .int 0, .long 0, .long 0])))) rfl ?_
  have e11 : (oj_up g10 (a) (.inr (2, [.ref (a + 1), .ref (a + 2), .int 0, .int 0, .int 1, .int 4, .int 0, .int 0, .int 0, .int 0, .int 0, .int 0, .long 0, .long 0]))) (a) = .inr (2, [.ref (a + 1), .ref (a + 2), .int 0, .int 0, .int 1, .int 4, .int 0, .int 0, .int 0, .int 0, .int 0, .int 0, .long 0, .long 0]) := if_pos rfl
  have u11 : ∀ y, y ≠ a → (oj_up g10 (a) (.inr (2, [.ref (a + 1), .ref (a + 2), .int 0, .int 0, .int 1, .int 4, .int 0, .int 0, .int 0, .int 0, .int 0, .int 0, .long 0, .long 0]))) y = g10 y := fun y z => if_neg z
  have b11 : oj_bd (a + 2 + 8) (oj_up g10 (a) (.inr (2, [.ref (a + 1), .ref (a + 2), .int 0, .int 0, .int 1, .int 4, .int 0, .int 0, .int 0, .int 0, .int 0, .int 0, .long 0, .long 0]))) := b10.put (by omega) (by refine loL_mem ?_; simp [loL] <;> omega)
  generalize (oj_up g10 (a) (.inr (2, [.ref (a + 1), .ref (a + 2), .int 0, .int 0, .int 1, .int 4, .int 0, .int 0, .int 0, .int 0, .int 0, .int 0, .long 0, .long 0]))) = g11 at e11 u11 b11 ⊢
  have k11 : ∀ y, y < a ∨ a + 9 < y → g11 y = h y := fun y z => (u11 y (by omega)).trans (k10 y z)
  have e1_11 : g11 (a + 1) = .inl (0, 6, .inl fun _ => 0) := (u11 _ (by omega)).trans e1_10
  clear e10 e1_10
  have cr_11 := CrAt_mv (h2 := g11) (fun x z1 z2 => u11 x (by omega)) cr_10
  iterate 2 (refine J_step rfl rfl ?_)
  refine J_putf rfl rfl rfl e11 rfl rfl (fun _ => rfl) rfl rfl ?_
  refine J_heap (h2 := (oj_up g11 (a) (.inr (2, [.ref (a + 1), .ref (a + 2), .int 0, .int 0, .int 1, .int 4, .int 0, .int 0, .int 0, .int 0, .int 0, .int 0, .long 0, .long 0])))) rfl ?_
  have e12 : (oj_up g11 (a) (.inr (2, [.ref (a + 1), .ref (a + 2), .int 0, .int 0, .int 1, .int 4, .int 0, .int 0, .int 0, .int 0, .int 0, .int 0, .long 0, .long 0]))) (a) = .inr (2, [.ref (a + 1), .ref (a + 2), .int 0, .int 0, .int 1, .int 4, .int 0, .int 0, .int 0, .int 0, .int 0, .int 0, .long 0, .long 0]) := if_pos rfl
  have u12 : ∀ y, y ≠ a → (oj_up g11 (a) (.inr (2, [.ref (a + 1), .ref (a + 2), .int 0, .int 0, .int 1, .int 4, .int 0, .int 0, .int 0, .int 0, .int 0, .int 0, .long 0, .long 0]))) y = g11 y := fun y z => if_neg z
  have b12 : oj_bd (a + 2 + 8) (oj_up g11 (a) (.inr (2, [.ref (a + 1), .ref (a + 2), .int 0, .int 0, .int 1, .int 4, .int 0, .int 0, .int 0, .int 0, .int 0, .int 0, .long 0, .long 0]))) := b11.put (by omega) (by refine loL_mem ?_; simp [loL] <;> omega)
  generalize (oj_up g11 (a) (.inr (2, [.ref (a + 1), .ref (a + 2), .int 0, .int 0, .int 1, .int 4, .int 0, .int 0, .int 0, .int 0, .int 0, .int 0, .long 0, .long 0]))) = g12 at e12 u12 b12 ⊢
  have k12 : ∀ y, y < a ∨ a + 9 < y → g12 y = h y := fun y z => (u12 y (by omega)).trans (k11 y z)
  have e1_12 : g12 (a + 1) = .inl (0, 6, .inl fun _ => 0) := (u12 _ (by omega)).trans e1_11
  clear e11 e1_11
  have cr_12 := CrAt_mv (h2 := g12) (fun x z1 z2 => u12 x (by omega)) cr_11
  iterate 2 (refine J_step rfl rfl ?_)
  refine J_putf rfl rfl rfl e12 rfl rfl (fun _ => rfl) rfl rfl ?_
  refine J_heap (h2 := (oj_up g12 (a) (.inr (2, [.ref (a + 1), .ref (a + 2), .int 0, .int 0, .int 1, .int 4, .int 0, .int 0, .int 0, .int 0, .int 0, .int 0, .long 0, .long 0])))) rfl ?_
  have e13 : (oj_up g12 (a) (.inr (2, [.ref (a + 1), .ref (a + 2), .int 0, .int 0, .int 1, .int 4, .int 0, .int 0, .int 0, .int 0, .int 0, .int 0, .long 0, .long 0]))) (a) = .inr (2, [.ref (a + 1), .ref (a + 2), .int 0, .int 0, .int 1, .int 4, .int 0, .int 0, .int 0, .int 0, .int 0, .int 0, .long 0, .long 0]) := if_pos rfl
  have u13 : ∀ y, y ≠ a → (oj_up g12 (a) (.inr (2, [.ref (a + 1), .ref (a + 2), .int 0, .int 0, .int 1, .int 4, .int 0, .int 0, .int 0, .int 0, .int 0, .int 0, .long 0, .long 0]))) y = g12 y := fun y z => if_neg z
  have b13 : oj_bd (a + 2 + 8) (oj_up g12 (a) (.inr (2, [.ref (a + 1), .ref (a + 2), .int 0, .int 0, .int 1, .int 4, .int 0, .int 0, .int 0, .int 0, .int 0, .int 0, .long 0, .long 0]))) := b12.put (by omega) (by refine loL_mem ?_; simp [loL] <;> omega)
  generalize (oj_up g12 (a) (.inr (2, [.ref (a + 1), .ref (a + 2), .int 0, .int 0, .int 1, .int 4, .int 0, .int 0, .int 0, .int 0, .int 0, .int 0, .long 0, .long 0]))) = g13 at e13 u13 b13 ⊢
  have k13 : ∀ y, y < a ∨ a + 9 < y → g13 y = h y := fun y z => (u13 y (by omega)).trans (k12 y z)
  have e1_13 : g13 (a + 1) = .inl (0, 6, .inl fun _ => 0) := (u13 _ (by omega)).trans e1_12
  clear e12 e1_12
  have cr_13 := CrAt_mv (h2 := g13) (fun x z1 z2 => u13 x (by omega)) cr_12
  iterate 2 (refine J_step rfl rfl ?_)
  refine J_putf rfl rfl rfl e13 rfl rfl (fun _ => rfl) rfl rfl ?_
  refine J_heap (h2 := (oj_up g13 (a) (.inr (2, [.ref (a + 1), .ref (a + 2), .int 0, .int 0, .int 1, .int 4, .int 0, .int 0, .int 0, .int 0, .int 0, .int 0, .long 0, .long 0])))) rfl ?_
  have e14 : (oj_up g13 (a) (.inr (2, [.ref (a + 1), .ref (a + 2), .int 0, .int 0, .int 1, .int 4, .int 0, .int 0, .int 0, .int 0, .int 0, .int 0, .long 0, .long 0]))) (a) = .inr (2, [.ref (a + 1), .ref (a + 2), .int 0, .int 0, .int 1, .int 4, .int 0, .int 0, .int 0, .int 0, .int 0, .int 0, .long 0, .long 0]) := if_pos rfl
  have u14 : ∀ y, y ≠ a → (oj_up g13 (a) (.inr (2, [.ref (a + 1), .ref (a + 2), .int 0, .int 0, .int 1, .int 4, .int 0, .int 0, .int 0, .int 0, .int 0, .int 0, .long 0, .long 0]))) y = g13 y := fun y z => if_neg z
  have b14 : oj_bd (a + 2 + 8) (oj_up g13 (a) (.inr (2, [.ref (a + 1), .ref (a + 2), .int 0, .int 0, .int 1, .int 4, .int 0, .int 0, .int 0, .int 0, .int 0, .int 0, .long 0, .long 0]))) := b13.put (by omega) (by refine loL_mem ?_; simp [loL] <;> omega)
  generalize (oj_up g13 (a) (.inr (2, [.ref (a + 1), .ref (a + 2), .int 0, .int 0, .int 1, .int 4, .int 0, .int 0, .int 0, .int 0, .int 0, .int 0, .long 0, .long 0]))) = g14 at e14 u14 b14 ⊢
  have k14 : ∀ y, y < a ∨ a + 9 < y → g14 y = h y := fun y z => (u14 y (by omega)).trans (k13 y z)
  have e1_14 : g14 (a + 1) = .inl (0, 6, .inl fun _ => 0) := (u14 _ (by omega)).trans e1_13
  clear e13 e1_13
  have cr_14 := CrAt_mv (h2 := g14) (fun x z1 z2 => u14 x (by omega)) cr_13
  iterate 2 (refine J_step rfl rfl ?_)
  refine J_putf rfl rfl rfl e14 rfl rfl (fun _ => rfl) rfl rfl ?_
  refine J_heap (h2 := (oj_up g14 (a) (.inr (2, [.ref (a + 1), .ref (a + 2), .int 0, .int 0, .int 1, .int 4, .int 0, .int 0, .int 0, .int 0, .int 0, .int 0, .long 0, .long 0])))) rfl ?_
  have e15 : (oj_up g14 (a) (.inr (2, [.ref (a + 1), .ref (a + 2), .int 0, .int 0, .int 1, .int 4, .int 0, .int 0, .int 0, .int 0, .int 0, .int 0, .long 0, .long 0]))) (a) = .inr (2, [.ref (a + 1), .ref (a + 2), .int 0, .int 0, .int 1, .int 4, .int 0, .int 0, .int 0, .int 0, .int 0, .int 0, .long 0, .long 0]) := if_pos rfl
  have u15 : ∀ y, y ≠ a → (oj_up g14 (a) (.inr (2, [.ref (a + 1), .ref (a + 2), .int 0, .int 0, .int 1, .int 4, .int 0, .int 0, .int 0, .int 0, .int 0, .int 0, .long 0, .long 0]))) y = g14 y := fun y z => if_neg z
  have b15 : oj_bd (a + 2 + 8) (oj_up g14 (a) (.inr (2, [.ref (a + 1), .ref (a + 2), .int 0, .int 0, .int 1, .int 4, .int 0, .int 0, .int 0, .int 0, .int 0, .int 0, .long 0, .long 0]))) := b14.put (by omega) (by refine loL_mem ?_; simp [loL] <;> omega)
  generalize (oj_up g14 (a) (.inr (2, [.ref (a + 1), .ref (a + 2), .int 0, .int 0, .int 1, .int 4, .int 0, .int 0, .int 0, .int 0, .int 0, .int 0, .long 0, .long 0]))) = g15 at e15 u15 b15 ⊢
  have k15 : ∀ y, y < a ∨ a + 9 < y → g15 y = h y := fun y z => (u15 y (by omega)).trans (k14 y z)
  have e1_15 : g15 (a + 1) = .inl (0, 6, .inl fun _ => 0) := (u15 _ (by omega)).trans e1_14
  clear e14 e1_14
  have cr_15 := CrAt_mv (h2 := g15) (fun x z1 z2 => u15 x (by omega)) cr_14
  iterate 2 (refine J_step rfl rfl ?_)
  refine J_putf rfl rfl rfl e15 rfl rfl (fun _ => rfl) rfl rfl ?_
  refine J_heap (h2 := (oj_up g15 (a) (.inr (2, [.ref (a + 1), .ref (a + 2), .int 0, .int 0, .int 1, .int 4, .int 0, .int 0, .int 0, .int 0, .int 0, .int 0, .long 0, .long 0])))) rfl ?_
  have e16 : (oj_up g15 (a) (.inr (2, [.ref (a + 1), .ref (a + 2), .int 0, .int 0, .int 1, .int 4, .int 0, .int 0, .int 0, .int 0, .int 0, .int 0, .long 0, .long 0]))) (a) = .inr (2, [.ref (a + 1), .ref (a + 2), .int 0, .int 0, .int 1, .int 4, .int 0, .int 0, .int 0, .int 0, .int 0, .int 0, .long 0, .long 0]) := if_pos rfl
  have u16 : ∀ y, y ≠ a → (oj_up g15 (a) (.inr (2, [.ref (a + 1), .ref (a + 2), .int 0, .int 0, .int 1, .int 4, .int 0, .int 0, .int 0, .int 0, .int 0, .int 0, .long 0, .long 0]))) y = g15 y := fun y z => if_neg z
  have b16 : oj_bd (a + 2 + 8) (oj_up g15 (a) (.inr (2, [.ref (a + 1), .ref (a + 2), .int 0, .int 0, .int 1, .int 4, .int 0, .int 0, .int 0, .int 0, .int 0, .int 0, .long 0, .long 0]))) := b15.put (by omega) (by refine loL_mem ?_; simp [loL] <;> omega)
  generalize (oj_up g15 (a) (.inr (2, [.ref (a + 1), .ref (a + 2), .int 0, .int 0, .int 1, .int 4, .int 0, .int 0, .int 0, .int 0, .int 0, .int 0, .long 0, .long 0]))) = g16 at e16 u16 b16 ⊢
  have k16 : ∀ y, y < a ∨ a + 9 < y → g16 y = h y := fun y z => (u16 y (by omega)).trans (k15 y z)
  have e1_16 : g16 (a + 1) = .inl (0, 6, .inl fun _ => 0) := (u16 _ (by omega)).trans e1_15
  clear e15 e1_15
  have cr_16 := CrAt_mv (h2 := g16) (fun x z1 z2 => u16 x (by omega)) cr_15
  iterate 2 (refine J_step rfl rfl ?_)
  refine J_putf rfl rfl rfl e16 rfl rfl (fun _ => rfl) rfl rfl ?_
  refine J_heap (h2 := (oj_up g16 (a) (.inr (2, [.ref (a + 1), .ref (a + 2), .int 0, .int 0, .int 1, .int 4, .int 0, .int 0, .int 0, .int 0, .int 0, .int 0, .long 0, .long 0])))) rfl ?_
  have e17 : (oj_up g16 (a) (.inr (2, [.ref (a + 1), .ref (a + 2), .int 0, .int 0, .int 1, .int 4, .int 0, .int 0, .int 0, .int 0, .int 0, .int 0, .long 0, .long 0]))) (a) = .inr (2, [.ref (a + 1), .ref (a + 2), .int 0, .int 0, .int 1, .int 4, .int 0, .int 0, .int 0, .int 0, .int 0, .int 0, .long 0, .long 0]) := if_pos rfl
  have u17 : ∀ y, y ≠ a → (oj_up g16 (a) (.inr (2, [.ref (a + 1), .ref (a + 2), .int 0, .int 0, .int 1, .int 4, .int 0, .int 0, .int 0, .int 0, .int 0, .int 0, .long 0, .long 0]))) y = g16 y := fun y z => if_neg z
  have b17 : oj_bd (a + 2 + 8) (oj_up g16 (a) (.inr (2, [.ref (a + 1), .ref (a + 2), .int 0, .int 0, .int 1, .int 4, .int 0, .int 0, .int 0, .int 0, .int 0, .int 0, .long 0, .long 0]))) := b16.put (by omega) (by refine loL_mem ?_; simp [loL] <;> omega)
  generalize (oj_up g16 (a) (.inr (2, [.ref (a + 1), .ref (a + 2), .int 0, .int 0, .int 1, .int 4, .int 0, .int 0, .int 0, .int 0, .int 0, .int 0, .long 0, .long 0]))) = g17 at e17 u17 b17 ⊢
  have k17 : ∀ y, y < a ∨ a + 9 < y → g17 y = h y := fun y z => (u17 y (by omega)).trans (k16 y z)
  have e1_17 : g17 (a + 1) = .inl (0, 6, .inl fun _ => 0) := (u17 _ (by omega)).trans e1_16
  clear e16 e1_16
  have cr_17 := CrAt_mv (h2 := g17) (fun x z1 z2 => u17 x (by omega)) cr_16
  have loop : ∀ m j (g : AHp) (sl : Nat → Int32), m + j = 6 → (∀ i, i < j → sl i = 2) → g a = .inr (2, [.ref (a + 1), .ref (a + 2), .int 0, .int 0, .int 1, .int 4, .int 0, .int 0, .int 0, .int 0, .int 0, .int 0, .long 0, .long 0]) → g (a + 1) = .inl (0, 6, .inl sl) → CrAt g (a + 2) [] 0 → oj_bd (a + 10) g → (∀ y, y < a ∨ a + 9 < y → g y = h y) → J mi_X2_init 2 9 155 (fun r h' => r = .inl none ∧ LnR h' a LQ0 ∧ oj_bd (a + 10) h' ∧ ∀ y, y < a ∨ a + 9 < y → h' y = h y) 9 155 85 [some (.ref a), some (.int (nI j))] [] g := by
    intro m
    induction m with
    | zero =>
      intro j g sl hj hs g0 g1 gc gb gk
      obtain rfl : j = 6 := by omega
      repeat (first | (refine J_step rfl rfl ?_) | (refine J_getf rfl rfl rfl (by assumption) rfl ?_))
      refine J_ic rfl (fun hq => ?_) (fun hq => absurd (oj_ccT (by decide)) hq)
      exact J_vret rfl rfl rfl rfl ⟨rfl, ⟨sl, hs, g0, g1, gc⟩, gb, gk⟩
    | succ m ih =>
      intro j g sl hj hs g0 g1 gc gb gk
      repeat (first | (refine J_step rfl rfl ?_) | (refine J_getf rfl rfl rfl (by assumption) rfl ?_))
      refine J_ic rfl (fun hq => absurd (show nI 6 ≤ nI j from hq) (nI_ge (by omega) (by omega))) (fun hq => ?_)
      repeat (first | (refine J_step rfl rfl ?_) | (refine J_getf rfl rfl rfl (by assumption) rfl ?_))
      refine J_iast rfl g1 (vp_in_nI (by omega) (by omega)) ?_
      rw [nI_clamp (by omega)]
      have hs2 := ih (j + 1) (oj_up g (a + 1) (.inl (0, 6, .inl (upd sl j 2)))) (upd sl j 2) (by omega) (fun i hi => by
        unfold upd
        by_cases e : i = j
        · rw [if_pos e]
        · rw [if_neg e]; exact hs i (by omega)) ((if_neg (by omega)).trans g0) (if_pos rfl) (CrAt_mv (fun x z1 z2 => if_neg (by omega)) gc) (gb.put (by omega) trivial) (fun y z => (if_neg (by omega)).trans (gk y z))
      rw [nI_succ] at hs2
      iterate 2 (first | (refine J_step rfl rfl ?_) | (refine J_getf rfl rfl rfl (by assumption) rfl ?_))
      exact hs2
  iterate 2 (first | (refine J_step rfl rfl ?_) | (refine J_getf rfl rfl rfl (by assumption) rfl ?_))
  exact loop 6 0 g17 (fun _ => 0) rfl (fun i hi => absurd hi (by omega)) e17 e1_17 cr_17 b17 k17
