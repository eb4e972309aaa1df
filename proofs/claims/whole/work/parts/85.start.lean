theorem LI_0 : LI LQ0 0 0 := by
  refine ⟨0, 4, 0, 0, 0, 0, 0, 0, 0, 0, 0, false, true, ?_, ?_, ?_⟩
  · exact ⟨⟨rfl, rfl, rfl, rfl, rfl, rfl⟩, ⟨rfl, rfl, rfl, rfl⟩, rfl, rfl, rfl, rfl, rfl⟩
  · exact ⟨⟨by decide, by decide, by decide, by decide⟩, ⟨by decide, by decide⟩, ⟨(fun h => by cases h), fun _ => by decide⟩, ⟨by decide, fun _ => rfl, fun h => absurd h (by decide)⟩, rfl, by decide, by decide, by decide, by decide, by decide, by decide, by decide⟩
  · exact ⟨fun g hg => ⟨2, by decide, rfl⟩, fun r hr => (by cases hr), List.Pairwise.nil⟩
theorem AI_0 : AI AS0 0 := by
  refine ⟨Nat.le_refl _, by decide, fun x hx => (by cases hx), fun x hx => (by cases hx), Or.inl rfl, Or.inl rfl, fun q hq => ?_⟩
  rcases hq with z | z | z
  · rw [z]; exact LI_0
  · cases z
  · cases z
theorem nni {h : AHp} {a t n : Nat} {f : (Nat → Int32) ⊕ (Nat → Int64) ⊕ (Nat → UInt32) ⊕ (Nat → UInt64) ⊕ (Nat → Option Nat)} (e : h a = .inl (t, n, f)) : h a ≠ nilc ∨ 999999 ≤ a := Or.inl (by rw [e]; intro z; cases z)
def oj_h0 (N : Nat) (xs : Nat → Int32) : AHp := fun a => if a = 999999 then .inl (9, N, .inl xs) else nilc
theorem h0_bd (N : Nat) (xs : Nat → Int32) : oj_bd 0 (oj_h0 N xs) := by
  constructor
  · intro x _ hx
    exact if_neg (by omega)
  · intro x
    unfold oj_h0
    split
    · exact trivial
    · intro v hv; cases hv
set_option maxRecDepth 100000 in
set_option maxHeartbeats 2000000 in
theorem w_lawJ {N : Nat} {Q : QT} {xs : Nat → Int32} (hN : N ≤ 2048) (hQ : ∀ h, Q (.inl (some (.int 1))) h) : J mi_L_law 13 603072 7186538 Q 0 0 0 (oj_ent [.ref 999999] (mL mi_L_law)) [] (oj_h0 N xs) := by
  have b0 := h0_bd N xs
  have s0 : oj_h0 N xs 999999 = .inl (9, N, .inl xs) := if_pos rfl
  generalize oj_h0 N xs = h0 at b0 s0 ⊢
  refine J_new (a := 0) (ci := 5) (N := 9) (fs := [.null, .null, .null, .int 0, .null, .null, .null, .int 0, .int 0]) rfl rfl (by decide +kernel) (by decide +kernel) (by decide +kernel) rfl (by decide +kernel) (fun ad => rfl) b0 (by omega) (by refine loL_mem ?_; simp [loL] <;> omega) (by intro j v hj; rcases j with _ | _ | _ | _ | _ | _ | _ | _ | _ | _ | j <;> first | (cases hj; done) | (cases hj; omega)) (Nat.le_of_ble_eq_true rfl) (Nat.le_of_ble_eq_true rfl) ?_
  refine J_heap (h2 := oj_up h0 0 (.inr (5, [.null, .null, .null, .int 0, .null, .null, .null, .int 0, .int 0]))) rfl ?_
  have e1 : oj_up h0 0 (.inr (5, [.null, .null, .null, .int 0, .null, .null, .null, .int 0, .int 0])) 0 = .inr (5, [.null, .null, .null, .int 0, .null, .null, .null, .int 0, .int 0]) := if_pos rfl
  have b1 : oj_bd (0 + 1) (oj_up h0 0 (.inr (5, [.null, .null, .null, .int 0, .null, .null, .null, .int 0, .int 0]))) := b0.push (by refine loL_mem ?_; simp [loL] <;> omega)
  have s1 : oj_up h0 0 (.inr (5, [.null, .null, .null, .int 0, .null, .null, .null, .int 0, .int 0])) 999999 = .inl (9, N, .inl xs) := (if_neg (by decide)).trans s0
  generalize oj_up h0 0 (.inr (5, [.null, .null, .null, .int 0, .null, .null, .null, .int 0, .int 0])) = h1 at e1 b1 s1 ⊢
  iterate 1 (refine J_step rfl rfl ?_)
  refine J_callI rfl rfl rfl rfl (by first | exact Or.inl rfl | exact Or.inr rfl) rfl rfl rfl rfl rfl (c_init e1 b1) (Nat.le_of_ble_eq_true rfl) (Nat.le_of_ble_eq_true rfl) (by intro v hv; simp only [List.mem_cons, List.not_mem_nil, or_false, Value.ref.injEq] at hv; rcases hv with rfl | rfl; all_goals exact nnl (by assumption) (by decide)) (by intro j v hj; rcases j with _ | _ | _ | _ | _ | _ | _ | _ | _ | _ | j <;> first | (cases hj; done) | (cases hj; exact Or.inr (by decide))) (fun E h9 q => by cases q.1) (fun v h2 q => ?_)
  obtain ⟨q1, C2, b2, u2⟩ := q
  cases q1
  have s2 := (u2 999999 (by decide)).trans s1
  have e02 := C2.1
  iterate 1 (refine J_step rfl rfl ?_)
  refine J_new (a := 121) (ci := 6) (N := 17) (fs := [.null, .null, .null, .null, .int 0, .int 0, .int 0, .int 0, .int 0, .int 0, .null, .int 0, .null, .null, .int 0, .int 0, .int 0]) rfl rfl (by decide +kernel) (by decide +kernel) (by decide +kernel) rfl (by decide +kernel) (fun ad => rfl) b2 (by omega) (by refine loL_mem ?_; simp [loL] <;> omega) (by intro j v hj; rcases j with _ | _ | _ | _ | _ | _ | _ | _ | _ | _ | j <;> first | (cases hj; done) | (cases hj; omega)) (Nat.le_of_ble_eq_true rfl) (Nat.le_of_ble_eq_true rfl) ?_
  refine J_heap (h2 := oj_up h2 121 (.inr (6, [.null, .null, .null, .null, .int 0, .int 0, .int 0, .int 0, .int 0, .int 0, .null, .int 0, .null, .null, .int 0, .int 0, .int 0]))) rfl ?_
  have e3 : oj_up h2 121 (.inr (6, [.null, .null, .null, .null, .int 0, .int 0, .int 0, .int 0, .int 0, .int 0, .null, .int 0, .null, .null, .int 0, .int 0, .int 0])) 121 = .inr (6, [.null, .null, .null, .null, .int 0, .int 0, .int 0, .int 0, .int 0, .int 0, .null, .int 0, .null, .null, .int 0, .int 0, .int 0]) := if_pos rfl
  have b3 : oj_bd (121 + 1) (oj_up h2 121 (.inr (6, [.null, .null, .null, .null, .int 0, .int 0, .int 0, .int 0, .int 0, .int 0, .null, .int 0, .null, .null, .int 0, .int 0, .int 0]))) := b2.push (by refine loL_mem ?_; simp [loL] <;> omega)
  have u3 : ∀ y, y ≠ 121 → oj_up h2 121 (.inr (6, [.null, .null, .null, .null, .int 0, .int 0, .int 0, .int 0, .int 0, .int 0, .null, .int 0, .null, .null, .int 0, .int 0, .int 0])) y = h2 y := fun y z => if_neg z
  generalize oj_up h2 121 (.inr (6, [.null, .null, .null, .null, .int 0, .int 0, .int 0, .int 0, .int 0, .int 0, .null, .int 0, .null, .null, .int 0, .int 0, .int 0])) = h3 at e3 b3 u3 ⊢
  have C3 : CRep h3 AS0 := CRep_mv (fun x z => u3 x (by omega)) C2
  have s3 := (u3 999999 (by decide)).trans s2
  have e03 := C3.1
  clear e02
  iterate 1 (refine J_step rfl rfl ?_)
  refine J_callI rfl rfl rfl rfl (by first | exact Or.inl rfl | exact Or.inr rfl) rfl rfl rfl rfl rfl (m_init e3 b3) (Nat.le_of_ble_eq_true rfl) (Nat.le_of_ble_eq_true rfl) (by intro v hv; simp only [List.mem_cons, List.not_mem_nil, or_false, Value.ref.injEq] at hv; rcases hv with rfl | rfl; all_goals exact nnl (by assumption) (by decide)) (by intro j v hj; rcases j with _ | _ | _ | _ | _ | _ | _ | _ | _ | _ | j <;> first | (cases hj; done) | (cases hj; first | exact Or.inr (by decide) | exact nnl e03 (by decide))) (fun E h9 q => by cases q.1) (fun v h4 q => ?_)
  obtain ⟨q1, M4, b4, u4⟩ := q
  cases q1
  have C4 : CRep h4 AS0 := CRep_mv (fun x z => u4 x (by omega)) C3
  have s4 := (u4 999999 (by decide)).trans s3
  iterate 2 (refine J_step rfl rfl ?_)
  refine J_newa (a := 129) (tag := 2) (N := 1) rfl rfl (by decide) rfl (by decide +kernel) (by decide) (by decide) (by decide) b4 (by omega) (by refine loL_mem ?_; simp [loL] <;> omega) (by intro j v hj; rcases j with _ | _ | _ | _ | _ | _ | _ | _ | _ | _ | j <;> first | (cases hj; done) | (cases hj; omega)) (Nat.le_of_ble_eq_true rfl) (Nat.le_of_ble_eq_true rfl) ?_
  refine J_heap (h2 := oj_up h4 129 (.inl (2, 1, .inr (.inl fun _ => 0)))) rfl ?_
  have e5 : oj_up h4 129 (.inl (2, 1, .inr (.inl fun _ => 0))) 129 = .inl (2, 1, .inr (.inl fun _ => 0)) := if_pos rfl
  have b5 : oj_bd (129 + 1) (oj_up h4 129 (.inl (2, 1, .inr (.inl fun _ => 0)))) := b4.push trivial
  have u5 : ∀ y, y ≠ 129 → oj_up h4 129 (.inl (2, 1, .inr (.inl fun _ => 0))) y = h4 y := fun y z => if_neg z
  generalize oj_up h4 129 (.inl (2, 1, .inr (.inl fun _ => 0))) = h5 at e5 b5 u5 ⊢
  iterate 2 (refine J_step rfl rfl ?_)
  refine J_newa (a := 130) (tag := 3) (N := 1) rfl rfl (by decide) rfl (by decide +kernel) (by decide) (by decide) (by decide) b5 (by omega) (by refine loL_mem ?_; simp [loL] <;> omega) (by intro j v hj; rcases j with _ | _ | _ | _ | _ | _ | _ | _ | _ | _ | j <;> first | (cases hj; done) | (cases hj; omega)) (Nat.le_of_ble_eq_true rfl) (Nat.le_of_ble_eq_true rfl) ?_
  refine J_heap (h2 := oj_up h5 130 (.inl (3, 1, .inr (.inr (.inr (.inl fun _ => 0)))))) rfl ?_
  have e6 : oj_up h5 130 (.inl (3, 1, .inr (.inr (.inr (.inl fun _ => 0))))) 130 = .inl (3, 1, .inr (.inr (.inr (.inl fun _ => 0)))) := if_pos rfl
  have u6 : ∀ y, y ≠ 130 → oj_up h5 130 (.inl (3, 1, .inr (.inr (.inr (.inl fun _ => 0))))) y = h5 y := fun y z => if_neg z
  generalize oj_up h5 130 (.inl (3, 1, .inr (.inr (.inr (.inl fun _ => 0))))) = h6 at e6 u6 ⊢
  have C6 : CRep h6 AS0 := CRep_mv (fun x z => (u6 x (by omega)).trans (u5 x (by omega))) C4
  have s6 := (u6 999999 (by decide)).trans ((u5 999999 (by decide)).trans s4)
  have M6 : ∃ v R, MdAt h6 v R ∧ RS v R AS0 := by
    obtain ⟨v, R, M, S⟩ := M4
    exact ⟨v, R, MdAt_mv (fun x z1 z2 => (u6 x (by omega)).trans (u5 x (by omega))) M, S⟩
  iterate 3 (refine J_step rfl rfl ?_)
  exact w_loop hN hQ 512 0 AS0 h6 _ _ none none none none rfl ⟨C6, M6, ⟨_, (u6 129 (by decide)).trans e5⟩, ⟨_, e6⟩, s6⟩ AI_0 (by decide) (by decide)
