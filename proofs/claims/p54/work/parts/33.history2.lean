set_option maxRecDepth 100000 in
set_option maxHeartbeats 2000000 in
theorem c_takeBack {h1 : AHp} {H b c : Nat} {f : Nat → Option Nat} {g : Nat → Nat} {q q2 : LQ} (e0 : h1 H = .inr (1, [.ref (H + 1), .int (nI c)])) (e1 : h1 (H + 1) = .inl (4, 8, .inr (.inr (.inr (.inr f))))) (hf : ∀ i, i < 8 → f i = some (g i)) (hc : c ≤ 8) (hg : ∀ i, i < 8 → H + 1 < g i ∧ ∃ fs, h1 (g i) = .inr (2, fs)) (H1 : LnR h1 (g 0) q) (H2 : LnR h1 b q2) (hab : b + 9 < g 0 ∨ g 0 + 9 < b) (hbH : b + 9 < H) (hu : gU q.2.1) (hb : gB q.2.1) (hbo : ∃ fs, h1 b = .inr (2, fs)) : JM mi_X1_takeBack 3 0 0 [.ref H, .ref b] h1 (fun r h' => r = .inl none ∧ (∃ f' : Nat → Option Nat, (∀ i, i < 7 → f' i = some (g (i + 1))) ∧ f' 7 = some (g 0) ∧ h' (H + 1) = .inl (4, 8, .inr (.inr (.inr (.inr f'))))) ∧ h' H = .inr (1, [.ref (H + 1), .int (nI (c - 1))]) ∧ LnR h' b q ∧ ∀ x, x ≠ H → x ≠ H + 1 → (x < b ∨ b + 9 < x) → h' x = h1 x) := by
  refine JM_of gd_X1_takeBack rfl (by decide +kernel) (Nat.le_of_ble_eq_true rfl) (oj_cats rfl) (by decide) ?_
  have loop : ∀ m j (f' : Nat → Option Nat) (h2 : AHp), m + j = 7 → (∀ i, i < 8 → f' i = some (if i < j then g (i + 1) else g i)) → h2 (H + 1) = .inl (4, 8, .inr (.inr (.inr (.inr f')))) → (∀ x, x ≠ H + 1 → h2 x = h1 x) →
      (∀ (f' : Nat → Option Nat) (h2 : AHp), (∀ i, i < 8 → f' i = some (if i < 7 then g (i + 1) else g i)) → h2 (H + 1) = .inl (4, 8, .inr (.inr (.inr (.inr f')))) → (∀ x, x ≠ H + 1 → h2 x = h1 x) → J mi_X1_takeBack 3 0 0 (fun r h' => r = .inl none ∧ (∃ f' : Nat → Option Nat, (∀ i, i < 7 → f' i = some (g (i + 1))) ∧ f' 7 = some (g 0) ∧ h' (H + 1) = .inl (4, 8, .inr (.inr (.inr (.inr f'))))) ∧ h' H = .inr (1, [.ref (H + 1), .int (nI (c - 1))]) ∧ LnR h' b q ∧ ∀ x, x ≠ H → x ≠ H + 1 → (x < b ∨ b + 9 < x) → h' x = h1 x) 0 0 35 [some (.ref H), some (.ref b), some (.ref (g 0)), some (.int (nI 8))] [] h2) →
      J mi_X1_takeBack 3 0 0 (fun r h' => r = .inl none ∧ (∃ f' : Nat → Option Nat, (∀ i, i < 7 → f' i = some (g (i + 1))) ∧ f' 7 = some (g 0) ∧ h' (H + 1) = .inl (4, 8, .inr (.inr (.inr (.inr f'))))) ∧ h' H = .inr (1, [.ref (H + 1), .int (nI (c - 1))]) ∧ LnR h' b q ∧ ∀ x, x ≠ H → x ≠ H + 1 → (x < b ∨ b + 9 < x) → h' x = h1 x) 0 0 9 [some (.ref H), some (.ref b), some (.ref (g 0)), some (.int (nI (j + 1)))] [] h2 := by
    intro m
    induction m with
    | zero =>
      intro j f' h2 hm hf' he hx kk
      obtain rfl : j = 7 := by omega
      repeat (first | (refine J_step rfl rfl ?_) | (refine J_getf rfl rfl rfl (by assumption) rfl ?_))
      refine J_ic rfl (fun hq => ?_) (fun hq => absurd (oj_ccT (by decide)) hq)
      exact kk f' h2 hf' he hx
    | succ m ih =>
      intro j f' h2 hm hf' he hx kk
      have e0' : h2 H = .inr (1, [.ref (H + 1), .int (nI c)]) := (hx _ (by omega)).trans e0
      have hm1 : nI (j + 1) - 1 = nI j := by rw [nI_succ]; simp
      repeat (first | (refine J_step rfl rfl ?_) | (refine J_getf rfl rfl rfl (by assumption) rfl ?_))
      refine J_ic rfl (fun hq => absurd (show nI 8 ≤ nI (j + 1) from hq) (nI_ge (by omega) (by omega))) (fun hq => ?_)
      repeat (first | (refine J_step rfl rfl ?_) | (refine J_getf rfl rfl rfl (by assumption) rfl ?_))
      rw [hm1]
      refine J_aald (b1 := g (j + 1)) rfl he (vp_in_nI (by omega) (by omega)) (by rw [nI_clamp (by omega), hf' (j + 1) (by omega), if_neg (by omega)]) ?_
      obtain ⟨hgm, fs, hgf⟩ := hg (j + 1) (by omega)
      refine J_aast (fs := fs) rfl he ((hx _ (by omega)).trans hgf) (vp_in_nI (by omega) (by omega)) ?_
      rw [nI_clamp (by omega)]
      have hs := ih (j + 1) (va_up f' j (some (g (j + 1)))) _ (by omega) (fun i hi => by
        unfold va_up
        by_cases z : i = j
        · rw [if_pos z, if_pos (by omega), z]
        · rw [if_neg z, hf' i hi]
          by_cases w : i < j
          · rw [if_pos w, if_pos (by omega)]
          · rw [if_neg w, if_neg (by omega)]) (show oj_up h2 (H + 1) _ (H + 1) = _ from if_pos rfl) (fun x z => by simp only [oj_up]; rw [if_neg z]; exact hx x z) kk
      rw [nI_succ] at hs
      iterate 2 (first | (refine J_step rfl rfl ?_) | (refine J_getf rfl rfl rfl (by assumption) rfl ?_))
      exact hs
  repeat (first | (refine J_step rfl rfl ?_) | (refine J_getf rfl rfl rfl (by assumption) rfl ?_))
  refine J_aald (b1 := g 0) rfl e1 (vp_in_6 (N := 8) rfl (by decide)) (hf 0 (by omega)) ?_
  iterate 3 (first | (refine J_step rfl rfl ?_) | (refine J_getf rfl rfl rfl (by assumption) rfl ?_))
  refine loop 7 0 f h1 rfl (fun i hi => by rw [if_neg (by omega)]; exact hf i hi) e1 (fun x _ => rfl) ?_
  intro f' h2 hf' he hx
  have e0' : h2 H = .inr (1, [.ref (H + 1), .int (nI c)]) := (hx _ (by omega)).trans e0
  obtain ⟨hg7, fs, hgf⟩ := hg 0 (by omega)
  repeat (first | (refine J_step rfl rfl ?_) | (refine J_getf rfl rfl rfl (by assumption) rfl ?_))
  refine J_aast (fs := fs) rfl he ((hx _ (by omega)).trans hgf) (vp_in_6 (N := 8) rfl (by decide)) ?_
  generalize hh3 : oj_up h2 (H + 1) (.inl (4, 8, .inr (.inr (.inr (.inr (va_up f' (7 : Int32).toNatClampNeg (some (g 0)))))))) = h3
  have he3 : h3 (H + 1) = .inl (4, 8, .inr (.inr (.inr (.inr (va_up f' 7 (some (g 0))))))) := by rw [← hh3]; exact if_pos rfl
  have hx3 : ∀ x, x ≠ H + 1 → h3 x = h1 x := fun x z => by rw [← hh3]; simp only [oj_up]; rw [if_neg z]; exact hx x z
  have e03 : h3 H = .inr (1, [.ref (H + 1), .int (nI c)]) := (hx3 _ (by omega)).trans e0
  repeat (first | (refine J_step rfl rfl ?_) | (refine J_getf rfl rfl rfl (by assumption) rfl ?_))
  refine J_ifnull rfl ?_
  repeat (first | (refine J_step rfl rfl ?_) | (refine J_getf rfl rfl rfl (by assumption) rfl ?_))
  obtain ⟨fb, hfb⟩ := hbo
  refine J_callV rfl rfl rfl rfl rfl ((hx3 _ (by omega)).trans hfb) rfl rfl rfl rfl (c_lnCopy (LnR_mv (fun x z1 z2 => hx3 x (by omega)) H2) (LnR_mv (fun x z1 z2 => hx3 x (by omega)) H1) (by omega) hu hb) (Nat.le_refl _) (Nat.le_refl _) (fun E h9 q => by cases q.1) (fun v h9 q => ?_)
  obtain ⟨q1, q2, q3⟩ := q
  cases q1
  have e09 := (q3 H (by omega)).trans e03
  repeat (first | (refine J_step rfl rfl ?_) | (refine J_getf rfl rfl rfl (by assumption) rfl ?_))
  refine J_max rfl (by decide +kernel) rfl rfl (Nat.le_refl _) (Nat.le_refl _) ?_
  have hmin : (if nI c - 1 < (0 : Int32) then 0 else nI c - 1) = nI (c - 1) := by
    have : ∀ c, c ≤ 8 → (if nI c - 1 < (0 : Int32) then 0 else nI c - 1) = nI (c - 1) := by decide +kernel
    exact this c hc
  refine J_putf rfl rfl rfl e09 rfl rfl (fun _ => rfl) rfl rfl ?_
  repeat (first | (refine J_step rfl rfl ?_) | (refine J_getf rfl rfl rfl (by assumption) rfl ?_))
  refine J_vret rfl rfl rfl rfl ⟨rfl, ⟨va_up f' 7 (some (g 0)), fun i hi => ?_, if_pos rfl, ?_⟩, ?_, ?_, fun x z1 z2 z3 => ?_⟩
  · unfold va_up
    rw [if_neg (by omega), hf' i (by omega), if_pos (by omega)]
  · simp only [oj_up]; rw [if_neg (by omega)]
    exact (q3 _ (by omega)).trans he3
  · rw [← hmin]; exact if_pos rfl
  · exact LnR_mv (fun x z1 z2 => by simp only [oj_up]; rw [if_neg (by omega)]) q2
  · simp only [oj_up]; rw [if_neg z1]
    exact (q3 x z3).trans (hx3 x z2)
