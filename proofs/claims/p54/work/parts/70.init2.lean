theorem HsAt_mv2 {h1 h2 : AHp} {hs : List LQ} (hh : ∀ x, 31 ≤ x → x ≤ 112 → h2 x = h1 x) (H : HsAt h1 hs) : HsAt h2 hs := HsAt_mv hh H
theorem OutAt_mv2 {h1 h2 : AHp} {o : Nat} {w : List Int32} (hh : ∀ x, o ≤ x → x ≤ o + 1 → h2 x = h1 x) (H : OutAt h1 o w) : OutAt h2 o w := OutAt_mv hh H
theorem PgAt_mv2 {h1 h2 : AHp} {P : Nat} {w : List Int32} {T : Nat → Nat → Int32} {p m : Nat} (hh : ∀ x, P ≤ x → x ≤ P + 5 → h2 x = h1 x) (H : PgAt h1 P w T p m) : PgAt h2 P w T p m := PgAt_mv hh H
set_option maxRecDepth 100000 in
set_option maxHeartbeats 2000000 in
theorem c_hsInit {h : AHp} (e0 : h 31 = .inr (1, [.null, .int 0])) (b0 : oj_bd 32 h) : JM mi_X1_init 3 81 1360 [.ref 31] h (fun r h' => r = .inl none ∧ HsAt h' [] ∧ oj_bd 113 h' ∧ ∀ y, y < 31 ∨ 112 < y → h' y = h y) := by
  have k0 : ∀ y, y < 31 ∨ 112 < y → h y = h y := fun _ _ => rfl
  refine JM_of gd_X1_init rfl (by decide +kernel) (Nat.le_of_ble_eq_true rfl) (oj_cats rfl) (by decide) ?_
  iterate 1 (refine J_step rfl rfl ?_)
  refine J_objInit rfl (by decide +kernel) rfl rfl ?_
  iterate 2 (refine J_step rfl rfl ?_)
  refine J_newA (a := 32) (N := 8) rfl rfl (by decide +kernel) (by decide) (by decide) (by decide) b0 (by omega) (by refine loL_mem ?_; simp [loL] <;> omega) (by intro j v hj; rcases j with _ | _ | _ | j <;> first | (cases hj; done) | (cases hj; omega)) (Nat.le_of_ble_eq_true rfl) (Nat.le_of_ble_eq_true rfl) ?_
  refine J_heap (h2 := oj_up h 32 (.inl (4, 8, .inr (.inr (.inr (.inr fun _ => none)))))) rfl ?_
  have e1 : oj_up h 32 (.inl (4, 8, .inr (.inr (.inr (.inr fun _ => none))))) 32 = .inl (4, 8, .inr (.inr (.inr (.inr fun _ => none)))) := if_pos rfl
  have u1 : ∀ y, y ≠ 32 → oj_up h 32 (.inl (4, 8, .inr (.inr (.inr (.inr fun _ => none))))) y = h y := fun y z => if_neg z
  have b1 : oj_bd 33 (oj_up h 32 (.inl (4, 8, .inr (.inr (.inr (.inr fun _ => none)))))) := b0.push (by intro j v hj hv; cases hv)
  generalize oj_up h 32 (.inl (4, 8, .inr (.inr (.inr (.inr fun _ => none))))) = g1 at e1 u1 b1 ⊢
  have e0_1 := (u1 31 (by omega)).trans e0
  refine J_putF rfl rfl rfl e0_1 rfl rfl rfl rfl (fun x => ⟨rfl, rfl⟩) ?_
  refine J_heap (h2 := oj_up g1 31 (.inr (1, [.ref 32, .int 0]))) rfl ?_
  have e2 : oj_up g1 31 (.inr (1, [.ref 32, .int 0])) 31 = .inr (1, [.ref 32, .int 0]) := if_pos rfl
  have u2 : ∀ y, y ≠ 31 → oj_up g1 31 (.inr (1, [.ref 32, .int 0])) y = g1 y := fun y z => if_neg z
  have b2 : oj_bd 33 (oj_up g1 31 (.inr (1, [.ref 32, .int 0]))) := b1.put (by omega) (by refine loL_mem ?_; simp [loL] <;> omega)
  generalize oj_up g1 31 (.inr (1, [.ref 32, .int 0])) = g2 at e2 u2 b2 ⊢
  iterate 2 (refine J_step rfl rfl ?_)
  refine J_putf rfl rfl rfl e2 rfl rfl (fun _ => rfl) rfl rfl ?_
  refine J_heap (h2 := g2) (oj_up_id (e2.trans rfl)).symm ?_
  have e3 := (u2 32 (by omega)).trans e1
  have k2 : ∀ y, y < 31 ∨ 112 < y → g2 y = h y := fun y z => (u2 y (by omega)).trans (u1 y (by omega))
  have loop : ∀ m j (g : AHp) (f : Nat → Option Nat), m + j = 8 → g 31 = .inr (1, [.ref 32, .int 0]) → g 32 = .inl (4, 8, .inr (.inr (.inr (.inr f)))) → (∀ i, i < j → f i = some (33 + 10 * i)) → (∀ i v, f i = some v → v < 33 + 10 * j) → (∀ i, i < j → LnR g (33 + 10 * i) LQ0) → oj_bd (33 + 10 * j) g → (∀ y, y < 31 ∨ 112 < y → g y = h y) → J mi_X1_init 3 81 1360 (fun r h' => r = .inl none ∧ HsAt h' [] ∧ oj_bd 113 h' ∧ ∀ y, y < 31 ∨ 112 < y → h' y = h y) (1 + 10 * j) (8 + 169 * j) 20 [some (.ref 31), some (.int (nI j))] [] g := by
    intro m
    induction m with
    | zero =>
      intro j g f hj g0 g1 hf hfb hL gb gk
      obtain rfl : j = 8 := by omega
      repeat (first | (refine J_step rfl rfl ?_) | (refine J_getf rfl rfl rfl (by assumption) rfl ?_))
      refine J_ic rfl (fun _ => ?_) (fun hq => absurd (oj_ccT (by decide)) hq)
      refine J_vret rfl rfl rfl rfl ⟨rfl, ⟨f, fun i => 33 + 10 * i, ⟨fun i hi => ⟨by show 33 ≤ 33 + 10 * i; omega, by show 33 + 10 * i + 9 ≤ 112; omega⟩, fun i k hi hk hik => by show 33 + 10 * i + 9 < 33 + 10 * k ∨ 33 + 10 * k + 9 < 33 + 10 * i; omega⟩, hf, g0, g1, Nat.zero_le _, fun i hi => ⟨LQ0, hL i hi⟩, fun i q hi => by cases hi⟩, gb, gk⟩
    | succ m ih =>
      intro j g f hj g0 g1 hf hfb hL gb gk
      repeat (first | (refine J_step rfl rfl ?_) | (refine J_getf rfl rfl rfl (by assumption) rfl ?_))
      refine J_ic rfl (fun hq => absurd (show nI 8 ≤ nI j from hq) (nI_ge (by omega) (by omega))) (fun _ => ?_)
      repeat (first | (refine J_step rfl rfl ?_) | (refine J_getf rfl rfl rfl (by assumption) rfl ?_))
      refine J_new (a := 33 + 10 * j) (ci := 2) (N := 14) (fs := [.null, .null, .int 0, .int 0, .int 0, .int 0, .int 0, .int 0, .int 0, .int 0, .int 0, .int 0, .long 0, .long 0]) rfl rfl (by decide +kernel) (by decide +kernel) (by decide +kernel) rfl (by decide +kernel) (fun ad => rfl) gb (by omega) (by refine loL_mem ?_; exact ⟨Or.inl (show (32 : Nat) < 33 + 10 * j by omega), trivial⟩) (by intro k v hj; rcases k with _ | _ | _ | k <;> first | (cases hj; done) | (cases hj; omega)) (by omega) (by omega) ?_
      have e1 : oj_up g (33 + 10 * j) (.inr (2, [.null, .null, .int 0, .int 0, .int 0, .int 0, .int 0, .int 0, .int 0, .int 0, .int 0, .int 0, .long 0, .long 0])) (33 + 10 * j) = .inr (2, [.null, .null, .int 0, .int 0, .int 0, .int 0, .int 0, .int 0, .int 0, .int 0, .int 0, .int 0, .long 0, .long 0]) := if_pos rfl
      have u1 : ∀ y, y ≠ 33 + 10 * j → oj_up g (33 + 10 * j) (.inr (2, [.null, .null, .int 0, .int 0, .int 0, .int 0, .int 0, .int 0, .int 0, .int 0, .int 0, .int 0, .long 0, .long 0])) y = g y := fun y z => if_neg z
      have b1 : oj_bd (33 + 10 * j + 1) (oj_up g (33 + 10 * j) (.inr (2, [.null, .null, .int 0, .int 0, .int 0, .int 0, .int 0, .int 0, .int 0, .int 0, .int 0, .int 0, .long 0, .long 0]))) := gb.push (by refine loL_mem ?_; simp [loL] <;> omega)
      refine J_heap (h2 := oj_up g (33 + 10 * j) (.inr (2, [.null, .null, .int 0, .int 0, .int 0, .int 0, .int 0, .int 0, .int 0, .int 0, .int 0, .int 0, .long 0, .long 0]))) rfl ?_
      generalize oj_up g (33 + 10 * j) (.inr (2, [.null, .null, .int 0, .int 0, .int 0, .int 0, .int 0, .int 0, .int 0, .int 0, .int 0, .int 0, .long 0, .long 0])) = k1 at e1 u1 b1 ⊢
      have g0' := (u1 31 (by omega)).trans g0
      have g1' := (u1 32 (by omega)).trans g1
      iterate 1 (refine J_step rfl rfl ?_)
      refine J_callI rfl rfl rfl rfl (by first | exact Or.inl rfl | exact Or.inr rfl) rfl rfl rfl rfl rfl (c_lnInit e1 b1 (by omega)) (by omega) (by omega) (by
        intro v hv
        simp only [List.mem_cons, List.not_mem_nil, or_false, Value.ref.injEq, reduceCtorEq, false_or] at hv
        rcases hv with rfl | rfl
        · exact nnl e1 (by decide)
        · exact Or.inl (by rw [g1']; intro z; cases z)) (by
        intro k v hj
        rcases k with _ | _ | _ | k
        · cases hj; exact nnl g0' (by decide)
        · cases hj
        · cases hj
        · cases hj) (fun E h9 q => by cases q.1) (fun v k2 q => ?_)
      obtain ⟨q1, hln, b2, u2⟩ := q
      cases q1
      have g0'' := (u2 31 (by omega)).trans g0'
      have g1'' := (u2 32 (by omega)).trans g1'
      obtain ⟨sl0, -, hl0⟩ := id hln
      refine J_aast (fs := _) rfl g1'' hl0.1 (vp_in_nI (by omega) (by omega)) ?_
      rw [nI_clamp (by omega)]
      have hs := ih (j + 1) (oj_up k2 32 (.inl (4, 8, .inr (.inr (.inr (.inr (va_up f j (some (33 + 10 * j))))))))) (va_up f j (some (33 + 10 * j))) (by omega) ((if_neg (by omega)).trans g0'') (if_pos rfl) (fun i hi => by
        unfold va_up
        by_cases z : i = j
        · rw [if_pos z, z]
        · rw [if_neg z]; exact hf i (by omega)) (fun i v hv => by
        unfold va_up at hv
        by_cases z : i = j
        · rw [if_pos z] at hv; cases hv; omega
        · rw [if_neg z] at hv; have := hfb i v hv; omega) (fun i hi => by
        by_cases z : i = j
        · rw [z]; exact LnR_mv (fun x z1 z2 => if_neg (by omega)) hln
        · exact LnR_mv (fun x z1 z2 => (if_neg (by omega)).trans ((u2 x (by omega)).trans (u1 x (by omega)))) (hL i (by omega))) (by
        rw [show 33 + 10 * (j + 1) = 33 + 10 * j + 10 by omega]
        refine b2.put (by omega) ?_
        intro i v _ hv
        unfold va_up at hv
        by_cases z : i = j
        · rw [if_pos z] at hv; cases hv; omega
        · rw [if_neg z] at hv; have := hfb i v hv; omega) (fun y z => (if_neg (by omega)).trans ((u2 y (by omega)).trans ((u1 y (by omega)).trans (gk y z))))
      rw [nI_succ, show 1 + 10 * (j + 1) = 1 + 10 * j + 1 + 9 by omega, show 8 + 169 * (j + 1) = 8 + 169 * j + 14 + 155 by omega] at hs
      iterate 2 (first | (refine J_step rfl rfl ?_) | (refine J_getf rfl rfl rfl (by assumption) rfl ?_))
      exact hs
  iterate 2 (first | (refine J_step rfl rfl ?_) | (refine J_getf rfl rfl rfl (by assumption) rfl ?_))
  exact loop 8 0 g2 _ rfl e2 e3 (fun i hi => absurd hi (by omega)) (fun i v hv => by cases hv) (fun i hi => absurd hi (by omega)) b2 k2
def AS0 : AS := (LQ0, none, [], [], [], -1, -1)
set_option maxRecDepth 100000 in
set_option maxHeartbeats 2000000 in
theorem c_init {h : AHp} (e0 : h 0 = .inr (5, [.null, .null, .null, .int 0, .null, .null, .null, .int 0, .int 0])) (b0 : oj_bd 1 h) : JM mi_X5_init 4 120 2099 [.ref 0] h (fun r h' => r = .inl none ∧ CRep h' AS0 ∧ oj_bd 121 h' ∧ ∀ y, 120 < y → h' y = h y) := by
  have k0 : ∀ y, y < 0 ∨ 120 < y → h y = h y := fun _ _ => rfl
  refine JM_of gd_X5_init rfl (by decide +kernel) (Nat.le_of_ble_eq_true rfl) (oj_cats rfl) (by decide) ?_
  iterate 1 (refine J_step rfl rfl ?_)
  refine J_objInit rfl (by decide +kernel) rfl rfl ?_
  iterate 1 (refine J_step rfl rfl ?_)
  refine J_new (a := 1) (ci := 2) (N := 14) (fs := [.null, .null, .int 0, .int 0, .int 0, .int 0, .int 0, .int 0, .int 0, .int 0, .int 0, .int 0, .long 0, .long 0]) rfl rfl (by decide +kernel) (by decide +kernel) (by decide +kernel) rfl (by decide +kernel) (fun ad => rfl) b0 (by omega) (by refine loL_mem ?_; simp [loL] <;> omega) (by intro j v hj; rcases j with _ | _ | _ | _ | j <;> first | (cases hj; done) | (cases hj; omega)) (Nat.le_of_ble_eq_true rfl) (Nat.le_of_ble_eq_true rfl) ?_
  refine J_heap (h2 := (oj_up h (1) (.inr (2, [.null, .null, .int 0, .int 0, .int 0, .int 0, .int 0, .int 0, .int 0, .int 0, .int 0, .int 0, .long 0, .long 0])))) rfl ?_
  have e1 : (oj_up h (1) (.inr (2, [.null, .null, .int 0, .int 0, .int 0, .int 0, .int 0, .int 0, .int 0, .int 0, .int 0, .int 0, .long 0, .long 0]))) (1) = .inr (2, [.null, .null, .int 0, .int 0, .int 0, .int 0, .int 0, .int 0, .int 0, .int 0, .int 0, .int 0, .long 0, .long 0]) := if_pos rfl
  have u1 : ∀ y, y ≠ 1 → (oj_up h (1) (.inr (2, [.null, .null, .int 0, .int 0, .int 0, .int 0, .int 0, .int 0, .int 0, .int 0, .int 0, .int 0, .long 0, .long 0]))) y = h y := fun y z => if_neg z
  have b1 : oj_bd (1 + 1) (oj_up h (1) (.inr (2, [.null, .null, .int 0, .int 0, .int 0, .int 0, .int 0, .int 0, .int 0, .int 0, .int 0, .int 0, .long 0, .long 0]))) := b0.push (by refine loL_mem ?_; simp [loL] <;> omega)
  generalize (oj_up h (1) (.inr (2, [.null, .null, .int 0, .int 0, .int 0, .int 0, .int 0, .int 0, .int 0, .int 0, .int 0, .int 0, .long 0, .long 0]))) = g1 at e1 u1 b1 ⊢
  have k1 : ∀ y, y < 0 ∨ 120 < y → g1 y = h y := fun y z => (u1 y (by omega)).trans (k0 y z)
  have e0_1 : g1 (0) = .inr (5, [.null, .null, .null, .int 0, .null, .null, .null, .int 0, .int 0]) := (u1 _ (by omega)).trans e0
  clear e0
  iterate 1 (refine J_step rfl rfl ?_)
  refine J_callI rfl rfl rfl rfl (by first | exact Or.inl rfl | exact Or.inr rfl) rfl rfl rfl rfl rfl (c_lnInit e1 b1 (by omega)) (Nat.le_of_ble_eq_true rfl) (Nat.le_of_ble_eq_true rfl) (by intro v hv; simp only [List.mem_cons, List.not_mem_nil, or_false, Value.ref.injEq] at hv; rcases hv with rfl | rfl; all_goals exact nnl (by assumption) (by decide)) (by intro j v hj; rcases j with _ | _ | _ | _ | j <;> first | (cases hj; done) | (cases hj; exact nnl (by assumption) (by decide))) (fun E h9 q => by cases q.1) (fun v g2 q => ?_)
  obtain ⟨q1, la, b2, u2⟩ := q
  cases q1
  have k2 : ∀ y, y < 0 ∨ 120 < y → g2 y = h y := fun y z => (u2 y (by omega)).trans (k1 y z)
  have e0_2 : g2 (0) = .inr (5, [.null, .null, .null, .int 0, .null, .null, .null, .int 0, .int 0]) := (u2 _ (by omega)).trans e0_1
  clear e1 e0_1
  refine J_putF rfl rfl rfl e0_2 rfl rfl rfl rfl (fun x => ⟨rfl, rfl⟩) ?_
  refine J_heap (h2 := (oj_up g2 (0) (.inr (5, [.ref 1, .null, .null, .int 0, .null, .null, .null, .int 0, .int 0])))) rfl ?_
  have e3 : (oj_up g2 (0) (.inr (5, [.ref 1, .null, .null, .int 0, .null, .null, .null, .int 0, .int 0]))) (0) = .inr (5, [.ref 1, .null, .null, .int 0, .null, .null, .null, .int 0, .int 0]) := if_pos rfl
  have u3 : ∀ y, y ≠ 0 → (oj_up g2 (0) (.inr (5, [.ref 1, .null, .null, .int 0, .null, .null, .null, .int 0, .int 0]))) y = g2 y := fun y z => if_neg z
  have b3 : oj_bd (11) (oj_up g2 (0) (.inr (5, [.ref 1, .null, .null, .int 0, .null, .null, .null, .int 0, .int 0]))) := b2.put (by omega) (by refine loL_mem ?_; simp [loL] <;> omega)
  generalize (oj_up g2 (0) (.inr (5, [.ref 1, .null, .null, .int 0, .null, .null, .null, .int 0, .int 0]))) = g3 at e3 u3 b3 ⊢
  have k3 : ∀ y, y < 0 ∨ 120 < y → g3 y = h y := fun y z => (u3 y (by omega)).trans (k2 y z)
  clear e0_2
  have la_3 := LnR_mv (h2 := g3) (fun x z1 z2 => u3 x (by omega)) la
  iterate 1 (refine J_step rfl rfl ?_)
  refine J_new (a := 11) (ci := 2) (N := 14) (fs := [.null, .null, .int 0, .int 0, .int 0, .int 0, .int 0, .int 0, .int 0, .int 0, .int 0, .int 0, .long 0, .long 0]) rfl rfl (by decide +kernel) (by decide +kernel) (by decide +kernel) rfl (by decide +kernel) (fun ad => rfl) b3 (by omega) (by refine loL_mem ?_; simp [loL] <;> omega) (by intro j v hj; rcases j with _ | _ | _ | _ | j <;> first | (cases hj; done) | (cases hj; omega)) (Nat.le_of_ble_eq_true rfl) (Nat.le_of_ble_eq_true rfl) ?_
  refine J_heap (h2 := (oj_up g3 (11) (.inr (2, [.null, .null, .int 0, .int 0, .int 0, .int 0, .int 0, .int 0, .int 0, .int 0, .int 0, .int 0, .long 0, .long 0])))) rfl ?_
  have e4 : (oj_up g3 (11) (.inr (2, [.null, .null, .int 0, .int 0, .int 0, .int 0, .int 0, .int 0, .int 0, .int 0, .int 0, .int 0, .long 0, .long 0]))) (11) = .inr (2, [.null, .null, .int 0, .int 0, .int 0, .int 0, .int 0, .int 0, .int 0, .int 0, .int 0, .int 0, .long 0, .long 0]) := if_pos rfl
  have u4 : ∀ y, y ≠ 11 → (oj_up g3 (11) (.inr (2, [.null, .null, .int 0, .int 0, .int 0, .int 0, .int 0, .int 0, .int 0, .int 0, .int 0, .int 0, .long 0, .long 0]))) y = g3 y := fun y z => if_neg z
  have b4 : oj_bd (11 + 1) (oj_up g3 (11) (.inr (2, [.null, .null, .int 0, .int 0, .int 0, .int 0, .int 0, .int 0, .int 0, .int 0, .int 0, .int 0, .long 0, .long 0]))) := b3.push (by refine loL_mem ?_; simp [loL] <;> omega)
  generalize (oj_up g3 (11) (.inr (2, [.null, .null, .int 0, .int 0, .int 0, .int 0, .int 0, .int 0, .int 0, .int 0, .int 0, .int 0, .long 0, .long 0]))) = g4 at e4 u4 b4 ⊢
  have k4 : ∀ y, y < 0 ∨ 120 < y → g4 y = h y := fun y z => (u4 y (by omega)).trans (k3 y z)
  have e3_4 : g4 (0) = .inr (5, [.ref 1, .null, .null, .int 0, .null, .null, .null, .int 0, .int 0]) := (u4 _ (by omega)).trans e3
  clear e3
  have la_4 := LnR_mv (h2 := g4) (fun x z1 z2 => u4 x (by omega)) la_3
  iterate 1 (refine J_step rfl rfl ?_)
  refine J_callI rfl rfl rfl rfl (by first | exact Or.inl rfl | exact Or.inr rfl) rfl rfl rfl rfl rfl (c_lnInit e4 b4 (by omega)) (Nat.le_of_ble_eq_true rfl) (Nat.le_of_ble_eq_true rfl) (by intro v hv; simp only [List.mem_cons, List.not_mem_nil, or_false, Value.ref.injEq] at hv; rcases hv with rfl | rfl; all_goals exact nnl (by assumption) (by decide)) (by intro j v hj; rcases j with _ | _ | _ | _ | j <;> first | (cases hj; done) | (cases hj; exact nnl (by assumption) (by decide))) (fun E h9 q => by cases q.1) (fun v g5 q => ?_)
  obtain ⟨q1, lb, b5, u5⟩ := q
  cases q1
  have k5 : ∀ y, y < 0 ∨ 120 < y → g5 y = h y := fun y z => (u5 y (by omega)).trans (k4 y z)
  have e3_5 : g5 (0) = .inr (5, [.ref 1, .null, .null, .int 0, .null, .null, .null, .int 0, .int 0]) := (u5 _ (by omega)).trans e3_4
  clear e4 e3_4
  have la_5 := LnR_mv (h2 := g5) (fun x z1 z2 => u5 x (by omega)) la_4
  refine J_putF rfl rfl rfl e3_5 rfl rfl rfl rfl (fun x => ⟨rfl, rfl⟩) ?_
  refine J_heap (h2 := (oj_up g5 (0) (.inr (5, [.ref 1, .ref 11, .null, .int 0, .null, .null, .null, .int 0, .int 0])))) rfl ?_
  have e6 : (oj_up g5 (0) (.inr (5, [.ref 1, .ref 11, .null, .int 0, .null, .null, .null, .int 0, .int 0]))) (0) = .inr (5, [.ref 1, .ref 11, .null, .int 0, .null, .null, .null, .int 0, .int 0]) := if_pos rfl
  have u6 : ∀ y, y ≠ 0 → (oj_up g5 (0) (.inr (5, [.ref 1, .ref 11, .null, .int 0, .null, .null, .null, .int 0, .int 0]))) y = g5 y := fun y z => if_neg z
  have b6 : oj_bd (21) (oj_up g5 (0) (.inr (5, [.ref 1, .ref 11, .null, .int 0, .null, .null, .null, .int 0, .int 0]))) := b5.put (by omega) (by refine loL_mem ?_; simp [loL] <;> omega)
  generalize (oj_up g5 (0) (.inr (5, [.ref 1, .ref 11, .null, .int 0, .null, .null, .null, .int 0, .int 0]))) = g6 at e6 u6 b6 ⊢
  have k6 : ∀ y, y < 0 ∨ 120 < y → g6 y = h y := fun y z => (u6 y (by omega)).trans (k5 y z)
  clear e3_5
  have la_6 := LnR_mv (h2 := g6) (fun x z1 z2 => u6 x (by omega)) la_5
  have lb_6 := LnR_mv (h2 := g6) (fun x z1 z2 => u6 x (by omega)) lb
  iterate 1 (refine J_step rfl rfl ?_)
  refine J_new (a := 21) (ci := 2) (N := 14) (fs := [.null, .null, .int 0, .int 0, .int 0, .int 0, .int 0, .int 0, .int 0, .int 0, .int 0, .int 0, .long 0, .long 0]) rfl rfl (by decide +kernel) (by decide +kernel) (by decide +kernel) rfl (by decide +kernel) (fun ad => rfl) b6 (by omega) (by refine loL_mem ?_; simp [loL] <;> omega) (by intro j v hj; rcases j with _ | _ | _ | _ | j <;> first | (cases hj; done) | (cases hj; omega)) (Nat.le_of_ble_eq_true rfl) (Nat.le_of_ble_eq_true rfl) ?_
  refine J_heap (h2 := (oj_up g6 (21) (.inr (2, [.null, .null, .int 0, .int 0, .int 0, .int 0, .int 0, .int 0, .int 0, .int 0, .int 0, .int 0, .long 0, .long 0])))) rfl ?_
  have e7 : (oj_up g6 (21) (.inr (2, [.null, .null, .int 0, .int 0, .int 0, .int 0, .int 0, .int 0, .int 0, .int 0, .int 0, .int 0, .long 0, .long 0]))) (21) = .inr (2, [.null, .null, .int 0, .int 0, .int 0, .int 0, .int 0, .int 0, .int 0, .int 0, .int 0, .int 0, .long 0, .long 0]) := if_pos rfl
  have u7 : ∀ y, y ≠ 21 → (oj_up g6 (21) (.inr (2, [.null, .null, .int 0, .int 0, .int 0, .int 0, .int 0, .int 0, .int 0, .int 0, .int 0, .int 0, .long 0, .long 0]))) y = g6 y := fun y z => if_neg z
  have b7 : oj_bd (21 + 1) (oj_up g6 (21) (.inr (2, [.null, .null, .int 0, .int 0, .int 0, .int 0, .int 0, .int 0, .int 0, .int 0, .int 0, .int 0, .long 0, .long 0]))) := b6.push (by refine loL_mem ?_; simp [loL] <;> omega)
  generalize (oj_up g6 (21) (.inr (2, [.null, .null, .int 0, .int 0, .int 0, .int 0, .int 0, .int 0, .int 0, .int 0, .int 0, .int 0, .long 0, .long 0]))) = g7 at e7 u7 b7 ⊢
  have k7 : ∀ y, y < 0 ∨ 120 < y → g7 y = h y := fun y z => (u7 y (by omega)).trans (k6 y z)
  have e6_7 : g7 (0) = .inr (5, [.ref 1, .ref 11, .null, .int 0, .null, .null, .null, .int 0, .int 0]) := (u7 _ (by omega)).trans e6
  clear e6
  have la_7 := LnR_mv (h2 := g7) (fun x z1 z2 => u7 x (by omega)) la_6
  have lb_7 := LnR_mv (h2 := g7) (fun x z1 z2 => u7 x (by omega)) lb_6
  iterate 1 (refine J_step rfl rfl ?_)
  refine J_callI rfl rfl rfl rfl (by first | exact Or.inl rfl | exact Or.inr rfl) rfl rfl rfl rfl rfl (c_lnInit e7 b7 (by omega)) (Nat.le_of_ble_eq_true rfl) (Nat.le_of_ble_eq_true rfl) (by intro v hv; simp only [List.mem_cons, List.not_mem_nil, or_false, Value.ref.injEq] at hv; rcases hv with rfl | rfl; all_goals exact nnl (by assumption) (by decide)) (by intro j v hj; rcases j with _ | _ | _ | _ | j <;> first | (cases hj; done) | (cases hj; exact nnl (by assumption) (by decide))) (fun E h9 q => by cases q.1) (fun v g8 q => ?_)
  obtain ⟨q1, lc, b8, u8⟩ := q
  cases q1
  have k8 : ∀ y, y < 0 ∨ 120 < y → g8 y = h y := fun y z => (u8 y (by omega)).trans (k7 y z)
  have e6_8 : g8 (0) = .inr (5, [.ref 1, .ref 11, .null, .int 0, .null, .null, .null, .int 0, .int 0]) := (u8 _ (by omega)).trans e6_7
  clear e7 e6_7
  have la_8 := LnR_mv (h2 := g8) (fun x z1 z2 => u8 x (by omega)) la_7
  have lb_8 := LnR_mv (h2 := g8) (fun x z1 z2 => u8 x (by omega)) lb_7
  refine J_putF rfl rfl rfl e6_8 rfl rfl rfl rfl (fun x => ⟨rfl, rfl⟩) ?_
  refine J_heap (h2 := (oj_up g8 (0) (.inr (5, [.ref 1, .ref 11, .ref 21, .int 0, .null, .null, .null, .int 0, .int 0])))) rfl ?_
  have e9 : (oj_up g8 (0) (.inr (5, [.ref 1, .ref 11, .ref 21, .int 0, .null, .null, .null, .int 0, .int 0]))) (0) = .inr (5, [.ref 1, .ref 11, .ref 21, .int 0, .null, .null, .null, .int 0, .int 0]) := if_pos rfl
  have u9 : ∀ y, y ≠ 0 → (oj_up g8 (0) (.inr (5, [.ref 1, .ref 11, .ref 21, .int 0, .null, .null, .null, .int 0, .int 0]))) y = g8 y := fun y z => if_neg z
  have b9 : oj_bd (31) (oj_up g8 (0) (.inr (5, [.ref 1, .ref 11, .ref 21, .int 0, .null, .null, .null, .int 0, .int 0]))) := b8.put (by omega) (by refine loL_mem ?_; simp [loL] <;> omega)
  generalize (oj_up g8 (0) (.inr (5, [.ref 1, .ref 11, .ref 21, .int 0, .null, .null, .null, .int 0, .int 0]))) = g9 at e9 u9 b9 ⊢
  have k9 : ∀ y, y < 0 ∨ 120 < y → g9 y = h y := fun y z => (u9 y (by omega)).trans (k8 y z)
  clear e6_8
  have la_9 := LnR_mv (h2 := g9) (fun x z1 z2 => u9 x (by omega)) la_8
  have lb_9 := LnR_mv (h2 := g9) (fun x z1 z2 => u9 x (by omega)) lb_8
  have lc_9 := LnR_mv (h2 := g9) (fun x z1 z2 => u9 x (by omega)) lc
  iterate 2 (refine J_step rfl rfl ?_)
  refine J_putf rfl rfl rfl e9 rfl rfl (fun _ => rfl) rfl rfl ?_
  refine J_heap (h2 := (oj_up g9 (0) (.inr (5, [.ref 1, .ref 11, .ref 21, .int 0, .null, .null, .null, .int 0, .int 0])))) rfl ?_
  have e10 : (oj_up g9 (0) (.inr (5, [.ref 1, .ref 11, .ref 21, .int 0, .null, .null, .null, .int 0, .int 0]))) (0) = .inr (5, [.ref 1, .ref 11, .ref 21, .int 0, .null, .null, .null, .int 0, .int 0]) := if_pos rfl
  have u10 : ∀ y, y ≠ 0 → (oj_up g9 (0) (.inr (5, [.ref 1, .ref 11, .ref 21, .int 0, .null, .null, .null, .int 0, .int 0]))) y = g9 y := fun y z => if_neg z
  have b10 : oj_bd (31) (oj_up g9 (0) (.inr (5, [.ref 1, .ref 11, .ref 21, .int 0, .null, .null, .null, .int 0, .int 0]))) := b9.put (by omega) (by refine loL_mem ?_; simp [loL] <;> omega)
  generalize (oj_up g9 (0) (.inr (5, [.ref 1, .ref 11, .ref 21, .int 0, .null, .null, .null, .int 0, .int 0]))) = g10 at e10 u10 b10 ⊢
  have k10 : ∀ y, y < 0 ∨ 120 < y → g10 y = h y := fun y z => (u10 y (by omega)).trans (k9 y z)
  clear e9
  have la_10 := LnR_mv (h2 := g10) (fun x z1 z2 => u10 x (by omega)) la_9
  have lb_10 := LnR_mv (h2 := g10) (fun x z1 z2 => u10 x (by omega)) lb_9
  have lc_10 := LnR_mv (h2 := g10) (fun x z1 z2 => u10 x (by omega)) lc_9
  iterate 1 (refine J_step rfl rfl ?_)
  refine J_new (a := 31) (ci := 1) (N := 2) (fs := [.null, .int 0]) rfl rfl (by decide +kernel) (by decide +kernel) (by decide +kernel) rfl (by decide +kernel) (fun ad => rfl) b10 (by omega) (by refine loL_mem ?_; simp [loL] <;> omega) (by intro j v hj; rcases j with _ | _ | _ | _ | j <;> first | (cases hj; done) | (cases hj; omega)) (Nat.le_of_ble_eq_true rfl) (Nat.le_of_ble_eq_true rfl) ?_
  refine J_heap (h2 := (oj_up g10 (31) (.inr (1, [.null, .int 0])))) rfl ?_
  have e11 : (oj_up g10 (31) (.inr (1, [.null, .int 0]))) (31) = .inr (1, [.null, .int 0]) := if_pos rfl
  have u11 : ∀ y, y ≠ 31 → (oj_up g10 (31) (.inr (1, [.null, .int 0]))) y = g10 y := fun y z => if_neg z
  have b11 : oj_bd (31 + 1) (oj_up g10 (31) (.inr (1, [.null, .int 0]))) := b10.push (by refine loL_mem ?_; simp [loL] <;> omega)
  generalize (oj_up g10 (31) (.inr (1, [.null, .int 0]))) = g11 at e11 u11 b11 ⊢
  have k11 : ∀ y, y < 0 ∨ 120 < y → g11 y = h y := fun y z => (u11 y (by omega)).trans (k10 y z)
  have e10_11 : g11 (0) = .inr (5, [.ref 1, .ref 11, .ref 21, .int 0, .null, .null, .null, .int 0, .int 0]) := (u11 _ (by omega)).trans e10
  clear e10
  have la_11 := LnR_mv (h2 := g11) (fun x z1 z2 => u11 x (by omega)) la_10
  have lb_11 := LnR_mv (h2 := g11) (fun x z1 z2 => u11 x (by omega)) lb_10
  have lc_11 := LnR_mv (h2 := g11) (fun x z1 z2 => u11 x (by omega)) lc_10
  iterate 1 (refine J_step rfl rfl ?_)
  refine J_callI rfl rfl rfl rfl (by first | exact Or.inl rfl | exact Or.inr rfl) rfl rfl rfl rfl rfl (c_hsInit e11 b11) (Nat.le_of_ble_eq_true rfl) (Nat.le_of_ble_eq_true rfl) (by intro v hv; simp only [List.mem_cons, List.not_mem_nil, or_false, Value.ref.injEq] at hv; rcases hv with rfl | rfl; all_goals exact nnl (by assumption) (by decide)) (by intro j v hj; rcases j with _ | _ | _ | _ | j <;> first | (cases hj; done) | (cases hj; exact nnl (by assumption) (by decide))) (fun E h9 q => by cases q.1) (fun v g12 q => ?_)
  obtain ⟨q1, hh, b12, u12⟩ := q
  cases q1
  have k12 : ∀ y, y < 0 ∨ 120 < y → g12 y = h y := fun y z => (u12 y (by omega)).trans (k11 y z)
  have e10_12 : g12 (0) = .inr (5, [.ref 1, .ref 11, .ref 21, .int 0, .null, .null, .null, .int 0, .int 0]) := (u12 _ (by omega)).trans e10_11
  clear e11 e10_11
  have la_12 := LnR_mv (h2 := g12) (fun x z1 z2 => u12 x (by omega)) la_11
  have lb_12 := LnR_mv (h2 := g12) (fun x z1 z2 => u12 x (by omega)) lb_11
  have lc_12 := LnR_mv (h2 := g12) (fun x z1 z2 => u12 x (by omega)) lc_11
  refine J_putF rfl rfl rfl e10_12 rfl rfl rfl rfl (fun x => ⟨rfl, rfl⟩) ?_
  refine J_heap (h2 := (oj_up g12 (0) (.inr (5, [.ref 1, .ref 11, .ref 21, .int 0, .ref 31, .null, .null, .int 0, .int 0])))) rfl ?_
  have e13 : (oj_up g12 (0) (.inr (5, [.ref 1, .ref 11, .ref 21, .int 0, .ref 31, .null, .null, .int 0, .int 0]))) (0) = .inr (5, [.ref 1, .ref 11, .ref 21, .int 0, .ref 31, .null, .null, .int 0, .int 0]) := if_pos rfl
  have u13 : ∀ y, y ≠ 0 → (oj_up g12 (0) (.inr (5, [.ref 1, .ref 11, .ref 21, .int 0, .ref 31, .null, .null, .int 0, .int 0]))) y = g12 y := fun y z => if_neg z
  have b13 : oj_bd (113) (oj_up g12 (0) (.inr (5, [.ref 1, .ref 11, .ref 21, .int 0, .ref 31, .null, .null, .int 0, .int 0]))) := b12.put (by omega) (by refine loL_mem ?_; simp [loL] <;> omega)
  generalize (oj_up g12 (0) (.inr (5, [.ref 1, .ref 11, .ref 21, .int 0, .ref 31, .null, .null, .int 0, .int 0]))) = g13 at e13 u13 b13 ⊢
  have k13 : ∀ y, y < 0 ∨ 120 < y → g13 y = h y := fun y z => (u13 y (by omega)).trans (k12 y z)
  clear e10_12
  have la_13 := LnR_mv (h2 := g13) (fun x z1 z2 => u13 x (by omega)) la_12
  have lb_13 := LnR_mv (h2 := g13) (fun x z1 z2 => u13 x (by omega)) lb_12
  have lc_13 := LnR_mv (h2 := g13) (fun x z1 z2 => u13 x (by omega)) lc_12
  have hh_13 := HsAt_mv2 (h2 := g13) (fun x z1 z2 => u13 x (by omega)) hh
  iterate 1 (refine J_step rfl rfl ?_)
  refine J_new (a := 113) (ci := 3) (N := 2) (fs := [.null, .int 0]) rfl rfl (by decide +kernel) (by decide +kernel) (by decide +kernel) rfl (by decide +kernel) (fun ad => rfl) b13 (by omega) (by refine loL_mem ?_; simp [loL] <;> omega) (by intro j v hj; rcases j with _ | _ | _ | _ | j <;> first | (cases hj; done) | (cases hj; omega)) (Nat.le_of_ble_eq_true rfl) (Nat.le_of_ble_eq_true rfl) ?_
  refine J_heap (h2 := (oj_up g13 (113) (.inr (3, [.null, .int 0])))) rfl ?_
  have e14 : (oj_up g13 (113) (.inr (3, [.null, .int 0]))) (113) = .inr (3, [.null, .int 0]) := if_pos rfl
  have u14 : ∀ y, y ≠ 113 → (oj_up g13 (113) (.inr (3, [.null, .int 0]))) y = g13 y := fun y z => if_neg z
  have b14 : oj_bd (113 + 1) (oj_up g13 (113) (.inr (3, [.null, .int 0]))) := b13.push (by refine loL_mem ?_; simp [loL] <;> omega)
  generalize (oj_up g13 (113) (.inr (3, [.null, .int 0]))) = g14 at e14 u14 b14 ⊢
  have k14 : ∀ y, y < 0 ∨ 120 < y → g14 y = h y := fun y z => (u14 y (by omega)).trans (k13 y z)
  have e13_14 : g14 (0) = .inr (5, [.ref 1, .ref 11, .ref 21, .int 0, .ref 31, .null, .null, .int 0, .int 0]) := (u14 _ (by omega)).trans e13
  clear e13
  have la_14 := LnR_mv (h2 := g14) (fun x z1 z2 => u14 x (by omega)) la_13
  have lb_14 := LnR_mv (h2 := g14) (fun x z1 z2 => u14 x (by omega)) lb_13
  have lc_14 := LnR_mv (h2 := g14) (fun x z1 z2 => u14 x (by omega)) lc_13
  have hh_14 := HsAt_mv2 (h2 := g14) (fun x z1 z2 => u14 x (by omega)) hh_13
  iterate 1 (refine J_step rfl rfl ?_)
  refine J_callI rfl rfl rfl rfl (by first | exact Or.inl rfl | exact Or.inr rfl) rfl rfl rfl rfl rfl (c_outInit e14 b14 (by omega)) (Nat.le_of_ble_eq_true rfl) (Nat.le_of_ble_eq_true rfl) (by intro v hv; simp only [List.mem_cons, List.not_mem_nil, or_false, Value.ref.injEq] at hv; rcases hv with rfl | rfl; all_goals exact nnl (by assumption) (by decide)) (by intro j v hj; rcases j with _ | _ | _ | _ | j <;> first | (cases hj; done) | (cases hj; exact nnl (by assumption) (by decide))) (fun E h9 q => by cases q.1) (fun v g15 q => ?_)
  obtain ⟨q1, oo, b15, u15⟩ := q
  cases q1
  have k15 : ∀ y, y < 0 ∨ 120 < y → g15 y = h y := fun y z => (u15 y (by omega)).trans (k14 y z)
  have e13_15 : g15 (0) = .inr (5, [.ref 1, .ref 11, .ref 21, .int 0, .ref 31, .null, .null, .int 0, .int 0]) := (u15 _ (by omega)).trans e13_14
  clear e14 e13_14
  have la_15 := LnR_mv (h2 := g15) (fun x z1 z2 => u15 x (by omega)) la_14
  have lb_15 := LnR_mv (h2 := g15) (fun x z1 z2 => u15 x (by omega)) lb_14
  have lc_15 := LnR_mv (h2 := g15) (fun x z1 z2 => u15 x (by omega)) lc_14
  have hh_15 := HsAt_mv2 (h2 := g15) (fun x z1 z2 => u15 x (by omega)) hh_14
  refine J_putF rfl rfl rfl e13_15 rfl rfl rfl rfl (fun x => ⟨rfl, rfl⟩) ?_
  refine J_heap (h2 := (oj_up g15 (0) (.inr (5, [.ref 1, .ref 11, .ref 21, .int 0, .ref 31, .ref 113, .null, .int 0, .int 0])))) rfl ?_
  have e16 : (oj_up g15 (0) (.inr (5, [.ref 1, .ref 11, .ref 21, .int 0, .ref 31, .ref 113, .null, .int 0, .int 0]))) (0) = .inr (5, [.ref 1, .ref 11, .ref 21, .int 0, .ref 31, .ref 113, .null, .int 0, .int 0]) := if_pos rfl
  have u16 : ∀ y, y ≠ 0 → (oj_up g15 (0) (.inr (5, [.ref 1, .ref 11, .ref 21, .int 0, .ref 31, .ref 113, .null, .int 0, .int 0]))) y = g15 y := fun y z => if_neg z
  have b16 : oj_bd (115) (oj_up g15 (0) (.inr (5, [.ref 1, .ref 11, .ref 21, .int 0, .ref 31, .ref 113, .null, .int 0, .int 0]))) := b15.put (by omega) (by refine loL_mem ?_; simp [loL] <;> omega)
  generalize (oj_up g15 (0) (.inr (5, [.ref 1, .ref 11, .ref 21, .int 0, .ref 31, .ref 113, .null, .int 0, .int 0]))) = g16 at e16 u16 b16 ⊢
  have k16 : ∀ y, y < 0 ∨ 120 < y → g16 y = h y := fun y z => (u16 y (by omega)).trans (k15 y z)
  clear e13_15
  have la_16 := LnR_mv (h2 := g16) (fun x z1 z2 => u16 x (by omega)) la_15
  have lb_16 := LnR_mv (h2 := g16) (fun x z1 z2 => u16 x (by omega)) lb_15
  have lc_16 := LnR_mv (h2 := g16) (fun x z1 z2 => u16 x (by omega)) lc_15
  have hh_16 := HsAt_mv2 (h2 := g16) (fun x z1 z2 => u16 x (by omega)) hh_15
  have oo_16 := OutAt_mv2 (h2 := g16) (fun x z1 z2 => u16 x (by omega)) oo
  iterate 1 (refine J_step rfl rfl ?_)
  refine J_new (a := 115) (ci := 4) (N := 8) (fs := [.null, .null, .null, .null, .null, .int 0, .int 0, .int 0]) rfl rfl (by decide +kernel) (by decide +kernel) (by decide +kernel) rfl (by decide +kernel) (fun ad => rfl) b16 (by omega) (by refine loL_mem ?_; simp [loL] <;> omega) (by intro j v hj; rcases j with _ | _ | _ | _ | j <;> first | (cases hj; done) | (cases hj; omega)) (Nat.le_of_ble_eq_true rfl) (Nat.le_of_ble_eq_true rfl) ?_
  refine J_heap (h2 := (oj_up g16 (115) (.inr (4, [.null, .null, .null, .null, .null, .int 0, .int 0, .int 0])))) rfl ?_
  have e17 : (oj_up g16 (115) (.inr (4, [.null, .null, .null, .null, .null, .int 0, .int 0, .int 0]))) (115) = .inr (4, [.null, .null, .null, .null, .null, .int 0, .int 0, .int 0]) := if_pos rfl
  have u17 : ∀ y, y ≠ 115 → (oj_up g16 (115) (.inr (4, [.null, .null, .null, .null, .null, .int 0, .int 0, .int 0]))) y = g16 y := fun y z => if_neg z
  have b17 : oj_bd (115 + 1) (oj_up g16 (115) (.inr (4, [.null, .null, .null, .null, .null, .int 0, .int 0, .int 0]))) := b16.push (by refine loL_mem ?_; simp [loL] <;> omega)
  generalize (oj_up g16 (115) (.inr (4, [.null, .null, .null, .null, .null, .int 0, .int 0, .int 0]))) = g17 at e17 u17 b17 ⊢
  have k17 : ∀ y, y < 0 ∨ 120 < y → g17 y = h y := fun y z => (u17 y (by omega)).trans (k16 y z)
  have e16_17 : g17 (0) = .inr (5, [.ref 1, .ref 11, .ref 21, .int 0, .ref 31, .ref 113, .null, .int 0, .int 0]) := (u17 _ (by omega)).trans e16
  clear e16
  have la_17 := LnR_mv (h2 := g17) (fun x z1 z2 => u17 x (by omega)) la_16
  have lb_17 := LnR_mv (h2 := g17) (fun x z1 z2 => u17 x (by omega)) lb_16
  have lc_17 := LnR_mv (h2 := g17) (fun x z1 z2 => u17 x (by omega)) lc_16
  have hh_17 := HsAt_mv2 (h2 := g17) (fun x z1 z2 => u17 x (by omega)) hh_16
  have oo_17 := OutAt_mv2 (h2 := g17) (fun x z1 z2 => u17 x (by omega)) oo_16
  iterate 1 (refine J_step rfl rfl ?_)
  refine J_callI rfl rfl rfl rfl (by first | exact Or.inl rfl | exact Or.inr rfl) rfl rfl rfl rfl rfl (c_pgInit e17 b17 (by omega)) (Nat.le_of_ble_eq_true rfl) (Nat.le_of_ble_eq_true rfl) (by intro v hv; simp only [List.mem_cons, List.not_mem_nil, or_false, Value.ref.injEq] at hv; rcases hv with rfl | rfl; all_goals exact nnl (by assumption) (by decide)) (by intro j v hj; rcases j with _ | _ | _ | _ | j <;> first | (cases hj; done) | (cases hj; exact nnl (by assumption) (by decide))) (fun E h9 q => by cases q.1) (fun v g18 q => ?_)
  obtain ⟨q1, pp, b18, u18⟩ := q
  cases q1
  have k18 : ∀ y, y < 0 ∨ 120 < y → g18 y = h y := fun y z => (u18 y (by omega)).trans (k17 y z)
  have e16_18 : g18 (0) = .inr (5, [.ref 1, .ref 11, .ref 21, .int 0, .ref 31, .ref 113, .null, .int 0, .int 0]) := (u18 _ (by omega)).trans e16_17
  clear e17 e16_17
  have la_18 := LnR_mv (h2 := g18) (fun x z1 z2 => u18 x (by omega)) la_17
  have lb_18 := LnR_mv (h2 := g18) (fun x z1 z2 => u18 x (by omega)) lb_17
  have lc_18 := LnR_mv (h2 := g18) (fun x z1 z2 => u18 x (by omega)) lc_17
  have hh_18 := HsAt_mv2 (h2 := g18) (fun x z1 z2 => u18 x (by omega)) hh_17
  have oo_18 := OutAt_mv2 (h2 := g18) (fun x z1 z2 => u18 x (by omega)) oo_17
  refine J_putF rfl rfl rfl e16_18 rfl rfl rfl rfl (fun x => ⟨rfl, rfl⟩) ?_
  refine J_heap (h2 := (oj_up g18 (0) (.inr (5, [.ref 1, .ref 11, .ref 21, .int 0, .ref 31, .ref 113, .ref 115, .int 0, .int 0])))) rfl ?_
  have e19 : (oj_up g18 (0) (.inr (5, [.ref 1, .ref 11, .ref 21, .int 0, .ref 31, .ref 113, .ref 115, .int 0, .int 0]))) (0) = .inr (5, [.ref 1, .ref 11, .ref 21, .int 0, .ref 31, .ref 113, .ref 115, .int 0, .int 0]) := if_pos rfl
  have u19 : ∀ y, y ≠ 0 → (oj_up g18 (0) (.inr (5, [.ref 1, .ref 11, .ref 21, .int 0, .ref 31, .ref 113, .ref 115, .int 0, .int 0]))) y = g18 y := fun y z => if_neg z
  have b19 : oj_bd (121) (oj_up g18 (0) (.inr (5, [.ref 1, .ref 11, .ref 21, .int 0, .ref 31, .ref 113, .ref 115, .int 0, .int 0]))) := b18.put (by omega) (by refine loL_mem ?_; simp [loL] <;> omega)
  generalize (oj_up g18 (0) (.inr (5, [.ref 1, .ref 11, .ref 21, .int 0, .ref 31, .ref 113, .ref 115, .int 0, .int 0]))) = g19 at e19 u19 b19 ⊢
  have k19 : ∀ y, y < 0 ∨ 120 < y → g19 y = h y := fun y z => (u19 y (by omega)).trans (k18 y z)
  clear e16_18
  have la_19 := LnR_mv (h2 := g19) (fun x z1 z2 => u19 x (by omega)) la_18
  have lb_19 := LnR_mv (h2 := g19) (fun x z1 z2 => u19 x (by omega)) lb_18
  have lc_19 := LnR_mv (h2 := g19) (fun x z1 z2 => u19 x (by omega)) lc_18
  have hh_19 := HsAt_mv2 (h2 := g19) (fun x z1 z2 => u19 x (by omega)) hh_18
  have oo_19 := OutAt_mv2 (h2 := g19) (fun x z1 z2 => u19 x (by omega)) oo_18
  have pp_19 := PgAt_mv2 (h2 := g19) (fun x z1 z2 => u19 x (by omega)) pp
  iterate 2 (refine J_step rfl rfl ?_)
  refine J_putf rfl rfl rfl e19 rfl rfl (fun _ => rfl) rfl rfl ?_
  refine J_heap (h2 := (oj_up g19 (0) (.inr (5, [.ref 1, .ref 11, .ref 21, .int 0, .ref 31, .ref 113, .ref 115, .int (-1), .int 0])))) rfl ?_
  have e20 : (oj_up g19 (0) (.inr (5, [.ref 1, .ref 11, .ref 21, .int 0, .ref 31, .ref 113, .ref 115, .int (-1), .int 0]))) (0) = .inr (5, [.ref 1, .ref 11, .ref 21, .int 0, .ref 31, .ref 113, .ref 115, .int (-1), .int 0]) := if_pos rfl
  have u20 : ∀ y, y ≠ 0 → (oj_up g19 (0) (.inr (5, [.ref 1, .ref 11, .ref 21, .int 0, .ref 31, .ref 113, .ref 115, .int (-1), .int 0]))) y = g19 y := fun y z => if_neg z
  have b20 : oj_bd (121) (oj_up g19 (0) (.inr (5, [.ref 1, .ref 11, .ref 21, .int 0, .ref 31, .ref 113, .ref 115, .int (-1), .int 0]))) := b19.put (by omega) (by refine loL_mem ?_; simp [loL] <;> omega)
  generalize (oj_up g19 (0) (.inr (5, [.ref 1, .ref 11, .ref 21, .int 0, .ref 31, .ref 113, .ref 115, .int (-1), .int 0]))) = g20 at e20 u20 b20 ⊢
  have k20 : ∀ y, y < 0 ∨ 120 < y → g20 y = h y := fun y z => (u20 y (by omega)).trans (k19 y z)
  clear e19
  have la_20 := LnR_mv (h2 := g20) (fun x z1 z2 => u20 x (by omega)) la_19
  have lb_20 := LnR_mv (h2 := g20) (fun x z1 z2 => u20 x (by omega)) lb_19
  have lc_20 := LnR_mv (h2 := g20) (fun x z1 z2 => u20 x (by omega)) lc_19
  have hh_20 := HsAt_mv2 (h2 := g20) (fun x z1 z2 => u20 x (by omega)) hh_19
  have oo_20 := OutAt_mv2 (h2 := g20) (fun x z1 z2 => u20 x (by omega)) oo_19
  have pp_20 := PgAt_mv2 (h2 := g20) (fun x z1 z2 => u20 x (by omega)) pp_19
  iterate 2 (refine J_step rfl rfl ?_)
  refine J_putf rfl rfl rfl e20 rfl rfl (fun _ => rfl) rfl rfl ?_
  refine J_heap (h2 := (oj_up g20 (0) (.inr (5, [.ref 1, .ref 11, .ref 21, .int 0, .ref 31, .ref 113, .ref 115, .int (-1), .int (-1)])))) rfl ?_
  have e21 : (oj_up g20 (0) (.inr (5, [.ref 1, .ref 11, .ref 21, .int 0, .ref 31, .ref 113, .ref 115, .int (-1), .int (-1)]))) (0) = .inr (5, [.ref 1, .ref 11, .ref 21, .int 0, .ref 31, .ref 113, .ref 115, .int (-1), .int (-1)]) := if_pos rfl
  have u21 : ∀ y, y ≠ 0 → (oj_up g20 (0) (.inr (5, [.ref 1, .ref 11, .ref 21, .int 0, .ref 31, .ref 113, .ref 115, .int (-1), .int (-1)]))) y = g20 y := fun y z => if_neg z
  have b21 : oj_bd (121) (oj_up g20 (0) (.inr (5, [.ref 1, .ref 11, .ref 21, .int 0, .ref 31, .ref 113, .ref 115, .int (-1), .int (-1)]))) := b20.put (by omega) (by refine loL_mem ?_; simp [loL] <;> omega)
  generalize (oj_up g20 (0) (.inr (5, [.ref 1, .ref 11, .ref 21, .int 0, .ref 31, .ref 113, .ref 115, .int (-1), .int (-1)]))) = g21 at e21 u21 b21 ⊢
  have k21 : ∀ y, y < 0 ∨ 120 < y → g21 y = h y := fun y z => (u21 y (by omega)).trans (k20 y z)
  clear e20
  have la_21 := LnR_mv (h2 := g21) (fun x z1 z2 => u21 x (by omega)) la_20
  have lb_21 := LnR_mv (h2 := g21) (fun x z1 z2 => u21 x (by omega)) lb_20
  have lc_21 := LnR_mv (h2 := g21) (fun x z1 z2 => u21 x (by omega)) lc_20
  have hh_21 := HsAt_mv2 (h2 := g21) (fun x z1 z2 => u21 x (by omega)) hh_20
  have oo_21 := OutAt_mv2 (h2 := g21) (fun x z1 z2 => u21 x (by omega)) oo_20
  have pp_21 := PgAt_mv2 (h2 := g21) (fun x z1 z2 => u21 x (by omega)) pp_20
  exact J_vret rfl rfl rfl rfl ⟨rfl, ⟨e21, la_21, ⟨_, lb_21⟩, ⟨_, lc_21⟩, (fun q hq => by cases hq), hh_21, oo_21, _, _, _, pp_21⟩, b21, fun y z => k21 y (Or.inr z)⟩
