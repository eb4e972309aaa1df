theorem sSl_cong {sl sl' : Nat → Int32} (h : ∀ i, i < 6 → sl' i = sl i) : sSl sl' = sSl sl := by
  funext g
  unfold sSl
  by_cases e : 0 ≤ g ∧ g < 6
  · rw [if_pos e, if_pos e]
    refine h _ ?_
    have h1 := Int32.lt_iff_toInt_lt.mp e.2
    have h1 : g.toInt < 6 := by simpa using h1
    unfold Int32.toNatClampNeg
    omega
  · rw [if_neg e, if_neg e]
theorem sImb_cong {sl sl' : Nat → Int32} (h : ∀ i, i < 6 → sl' i = sl i) (F : Nat → Int32) (u : Bool) (l : List Row) : sImb F u sl' l = sImb F u sl l := by
  unfold sImb
  rw [sSl_cong h]
theorem sp_min_cong {sl sl' : Nat → Int32} (h : ∀ i, i < 6 → sl' i = sl i) (s : MS) : sp_min sl' s = sp_min sl s := by
  unfold sp_min sp_mv sp_x
  simp only [sImb_cong h]
theorem sp_pass_cong {sl sl' : Nat → Int32} (h : ∀ i, i < 6 → sl' i = sl i) : ∀ (n : Nat) (s : MS), sp_pass sl' n s = sp_pass sl n s
  | 0, _ => rfl
  | n + 1, s => by unfold sp_pass; rw [sp_min_cong h, sp_pass_cong h]
theorem apD_cong {sl sl' : Nat → Int32} (h : ∀ i, i < 6 → sl' i = sl i) (s : MS) (k : Nat) (x y z : Int32) : (apD (sl', s) k x y z).1 = (apD (sl, s) k x y z).1 ∧ (∀ i, i < 6 → (apD (sl', s) k x y z).2.1 i = (apD (sl, s) k x y z).2.1 i) ∧ (apD (sl', s) k x y z).2.2 = (apD (sl, s) k x y z).2.2 := by
  unfold apD
  split
  · exact ⟨rfl, h, rfl⟩
  · exact ⟨rfl, h, rfl⟩
  · refine ⟨by simp only [sSl_cong h], fun i hi => ?_, rfl⟩
    show upd sl' _ y i = upd sl _ y i
    unfold upd
    rw [h i hi]
  · exact ⟨rfl, h, rfl⟩
  · exact ⟨rfl, h, rfl⟩
  · simp only [sp_pass_cong h]
    exact ⟨trivial, h, trivial⟩
/-- the line at a holds this, slopes beyond the sixth aside -/
def LnR (h : AHp) (a : Nat) (q : LQ) : Prop := ∃ sl', (∀ i, i < 6 → sl' i = q.1 i) ∧ LnAt h a q.2.1 sl' q.2.2.1 q.2.2.2.1 q.2.2.2.2
theorem LnAt_mv {h1 h2 : AHp} {b : Nat} {F sl : Nat → Int32} {l : List Row} {E Jn : Int64} (hh : ∀ x, b ≤ x → x ≤ b + 9 → h2 x = h1 x) (H : LnAt h1 b F sl l E Jn) : LnAt h2 b F sl l E Jn := by
  obtain ⟨b0, b1, R, ⟨c0, c1, c2, c3, c4, c5, c6, c7, cl⟩, hR⟩ := H
  exact ⟨(hh _ (by omega) (by omega)).trans b0, (hh _ (by omega) (by omega)).trans b1, R, ⟨(hh _ (by omega) (by omega)).trans c0, (hh _ (by omega) (by omega)).trans c1, (hh _ (by omega) (by omega)).trans c2, (hh _ (by omega) (by omega)).trans c3, (hh _ (by omega) (by omega)).trans c4, (hh _ (by omega) (by omega)).trans c5, (hh _ (by omega) (by omega)).trans c6, (hh _ (by omega) (by omega)).trans c7, cl⟩, hR⟩
theorem LnR_mv {h1 h2 : AHp} {b : Nat} {q : LQ} (hh : ∀ x, b ≤ x → x ≤ b + 9 → h2 x = h1 x) (H : LnR h1 b q) : LnR h2 b q := by
  obtain ⟨sl', h0, H⟩ := H
  exact ⟨sl', h0, LnAt_mv hh H⟩
/-- what a line's flags are -/
def gB (F : Nat → Int32) : Prop := ∃ x : Bool, F 3 = bI x
/-- the line at a made to hold q, all else as it was -/
def LnP (h : AHp) (a : Nat) (q : LQ) (h' : AHp) : Prop := LnR h' a q ∧ ∀ x, x < a ∨ a + 9 < x → h' x = h x
set_option maxRecDepth 100000 in
set_option maxHeartbeats 2000000 in
theorem c_lnCopy {h : AHp} {a b : Nat} {q q2 : LQ} (H : LnR h a q) (H2 : LnR h b q2) (hab : b + 9 < a ∨ a + 9 < b) (hu : gU q2.2.1) (hb : gB q2.2.1) : JM mi_X2_copyFrom 2 0 0 [.ref a, .ref b] h (fun r h' => r = .inl none ∧ LnP h a q2 h') := by
  obtain ⟨sl1, -, H⟩ := H
  obtain ⟨sl2, h2, H2⟩ := H2
  refine JM_imp (c_lnCopyFrom (lnIs_of H) H2 hab hu hb) ?_
  rintro r h' ⟨q1, sl', q2, q3⟩
  exact ⟨q1, ⟨sl', fun i hi => (q2 i hi).trans (h2 i hi), lnIs_at q3⟩, fun x hx => lnIs_ne q3 hx⟩
set_option maxRecDepth 100000 in
set_option maxHeartbeats 2000000 in
theorem c_applyR {h : AHp} {a k : Nat} {q : LQ} {x y z : Int32} (H : LnR h a q) (hu : gU q.2.1) (hk : k ≤ 5) (h0 : sFault q.2.1 q.2.2.1 k x y z = 0) : JM mi_X2_apply 4 0 0 [.ref a, .int (nI k), .int x, .int y, .int z] h (fun r h' => r = .inl (some (.int (apD q k x y z).1)) ∧ LnP h a (apD q k x y z).2 h') := by
  obtain ⟨sl1, hs, H⟩ := H
  have hc := apD_cong hs q.2 k x y z
  refine JM_imp (c_apply (g := (sl1, q.2)) (lnIs_of H) hu hk h0) ?_
  rintro r h' ⟨q1, q2⟩
  refine ⟨q1.trans (by rw [hc.1]), ⟨(apD (sl1, q.2) k x y z).2.1, hc.2.1, ?_⟩, fun x hx => lnIs_ne q2 hx⟩
  have q3 := lnIs_at q2
  rw [hc.2.2] at q3
  exact q3
set_option maxRecDepth 100000 in
set_option maxHeartbeats 2000000 in
theorem c_remember {h1 : AHp} {H b c : Nat} {f : Nat → Option Nat} {g : Nat → Nat} {q q2 : LQ} (e0 : h1 H = .inr (1, [.ref (H + 1), .int (nI c)])) (e1 : h1 (H + 1) = .inl (4, 8, .inr (.inr (.inr (.inr f))))) (hf : ∀ i, i < 8 → f i = some (g i)) (hc : c ≤ 8) (hg : ∀ i, i < 8 → H + 1 < g i ∧ ∃ fs, h1 (g i) = .inr (2, fs)) (H1 : LnR h1 (g 7) q) (H2 : LnR h1 b q2) (hab : b + 9 < g 7 ∨ g 7 + 9 < b) (hbH : b + 9 < H) (hu : gU q2.2.1) (hb : gB q2.2.1) : JM mi_X1_remember 3 0 0 [.ref H, .ref b] h1 (fun r h' => r = .inl none ∧ (∃ f' : Nat → Option Nat, (∀ i, i < 7 → f' (i + 1) = some (g i)) ∧ f' 0 = some (g 7) ∧ h' (H + 1) = .inl (4, 8, .inr (.inr (.inr (.inr f'))))) ∧ h' H = .inr (1, [.ref (H + 1), .int (nI (min (c + 1) 8))]) ∧ LnR h' (g 7) q2 ∧ ∀ x, x ≠ H → x ≠ H + 1 → (x < g 7 ∨ g 7 + 9 < x) → h' x = h1 x) := by
  refine JM_of gd_X1_remember rfl (by decide +kernel) (Nat.le_of_ble_eq_true rfl) (oj_cats rfl) (by decide) ?_
  have loop : ∀ m (f' : Nat → Option Nat) (h2 : AHp), m ≤ 7 → (∀ i, i < 8 → f' i = some (if m < i then g (i - 1) else g i)) → h2 (H + 1) = .inl (4, 8, .inr (.inr (.inr (.inr f')))) → (∀ x, x ≠ H + 1 → h2 x = h1 x) →
      (∀ (f' : Nat → Option Nat) (h2 : AHp), (∀ i, i < 8 → f' i = some (if 0 < i then g (i - 1) else g i)) → h2 (H + 1) = .inl (4, 8, .inr (.inr (.inr (.inr f')))) → (∀ x, x ≠ H + 1 → h2 x = h1 x) → J mi_X1_remember 3 0 0 (fun r h' => r = .inl none ∧ (∃ f' : Nat → Option Nat, (∀ i, i < 7 → f' (i + 1) = some (g i)) ∧ f' 0 = some (g 7) ∧ h' (H + 1) = .inl (4, 8, .inr (.inr (.inr (.inr f'))))) ∧ h' H = .inr (1, [.ref (H + 1), .int (nI (min (c + 1) 8))]) ∧ LnR h' (g 7) q2 ∧ ∀ x, x ≠ H → x ≠ H + 1 → (x < g 7 ∨ g 7 + 9 < x) → h' x = h1 x) 0 0 35 [some (.ref H), some (.ref b), some (.ref (g 7)), some (.int (nI 0))] [] h2) →
      J mi_X1_remember 3 0 0 (fun r h' => r = .inl none ∧ (∃ f' : Nat → Option Nat, (∀ i, i < 7 → f' (i + 1) = some (g i)) ∧ f' 0 = some (g 7) ∧ h' (H + 1) = .inl (4, 8, .inr (.inr (.inr (.inr f'))))) ∧ h' H = .inr (1, [.ref (H + 1), .int (nI (min (c + 1) 8))]) ∧ LnR h' (g 7) q2 ∧ ∀ x, x ≠ H → x ≠ H + 1 → (x < g 7 ∨ g 7 + 9 < x) → h' x = h1 x) 0 0 11 [some (.ref H), some (.ref b), some (.ref (g 7)), some (.int (nI m))] [] h2 := by
    intro m
    induction m with
    | zero =>
      intro f' h2 hm hf' he hx kk
      repeat (first | (refine J_step rfl rfl ?_) | (refine J_getf rfl rfl rfl (by assumption) rfl ?_))
      refine J_if (y := 0) rfl (fun hq => ?_) (fun hq => absurd (show nI 0 ≤ 0 by decide) hq)
      exact kk f' h2 hf' he hx
    | succ m ih =>
      intro f' h2 hm hf' he hx kk
      have e0' : h2 H = .inr (1, [.ref (H + 1), .int (nI c)]) := (hx _ (by omega)).trans e0
      have hm1 : nI (m + 1) - 1 = nI m := by rw [nI_succ]; simp
      have hm2 : nI (m + 1) + -1 = nI m := by rw [nI_succ, Int32.add_assoc]; exact Int32.add_zero _
      repeat (first | (refine J_step rfl rfl ?_) | (refine J_getf rfl rfl rfl (by assumption) rfl ?_))
      refine J_if (y := 0) rfl (fun hq => absurd (show nI (m + 1) ≤ nI 0 from hq) (nI_ge (by omega) (by omega))) (fun hq => ?_)
      repeat (first | (refine J_step rfl rfl ?_) | (refine J_getf rfl rfl rfl (by assumption) rfl ?_))
      rw [hm1]
      refine J_aald (b1 := g m) rfl he (vp_in_nI (by omega) (by omega)) (by rw [nI_clamp (by omega), hf' m (by omega), if_neg (by omega)]) ?_
      obtain ⟨hgm, fs, hgf⟩ := hg m (by omega)
      refine J_aast (fs := fs) rfl he ((hx _ (by omega)).trans hgf) (vp_in_nI (by omega) (by omega)) ?_
      rw [nI_clamp (by omega)]
      have hs := ih (va_up f' (m + 1) (some (g m))) _ (by omega) (fun i hi => by
        unfold va_up
        by_cases z : i = m + 1
        · rw [if_pos z, if_pos (by omega), z]; rfl
        · rw [if_neg z, hf' i hi]
          by_cases w : m + 1 < i
          · rw [if_pos w, if_pos (by omega)]
          · rw [if_neg w, if_neg (by omega)]) (show oj_up h2 (H + 1) _ (H + 1) = _ from if_pos rfl) (fun x z => by simp only [oj_up]; rw [if_neg z]; exact hx x z) kk
      rw [← hm2] at hs
      iterate 2 (first | (refine J_step rfl rfl ?_) | (refine J_getf rfl rfl rfl (by assumption) rfl ?_))
      exact hs
  repeat (first | (refine J_step rfl rfl ?_) | (refine J_getf rfl rfl rfl (by assumption) rfl ?_))
  refine J_aald (b1 := g 7) rfl e1 (vp_in_6 (N := 8) rfl (by decide)) (hf 7 (by omega)) ?_
  iterate 3 (first | (refine J_step rfl rfl ?_) | (refine J_getf rfl rfl rfl (by assumption) rfl ?_))
  refine loop 7 f h1 (Nat.le_refl _) (fun i hi => by rw [if_neg (by omega)]; exact hf i hi) e1 (fun x _ => rfl) ?_
  intro f' h2 hf' he hx
  have e0' : h2 H = .inr (1, [.ref (H + 1), .int (nI c)]) := (hx _ (by omega)).trans e0
  obtain ⟨hg7, fs, hgf⟩ := hg 7 (by omega)
  repeat (first | (refine J_step rfl rfl ?_) | (refine J_getf rfl rfl rfl (by assumption) rfl ?_))
  refine J_aast (fs := fs) rfl he ((hx _ (by omega)).trans hgf) (vp_in_6 (N := 8) rfl (by decide)) ?_
  generalize hh3 : oj_up h2 (H + 1) (.inl (4, 8, .inr (.inr (.inr (.inr (va_up f' (0 : Int32).toNatClampNeg (some (g 7)))))))) = h3
  have he3 : h3 (H + 1) = .inl (4, 8, .inr (.inr (.inr (.inr (va_up f' 0 (some (g 7))))))) := by rw [← hh3]; exact if_pos rfl
  have hx3 : ∀ x, x ≠ H + 1 → h3 x = h1 x := fun x z => by rw [← hh3]; simp only [oj_up]; rw [if_neg z]; exact hx x z
  have e03 : h3 H = .inr (1, [.ref (H + 1), .int (nI c)]) := (hx3 _ (by omega)).trans e0
  repeat (first | (refine J_step rfl rfl ?_) | (refine J_getf rfl rfl rfl (by assumption) rfl ?_))
  refine J_ifnull rfl ?_
  repeat (first | (refine J_step rfl rfl ?_) | (refine J_getf rfl rfl rfl (by assumption) rfl ?_))
  refine J_callV rfl rfl rfl rfl rfl ((hx3 _ (by omega)).trans hgf) rfl rfl rfl rfl (c_lnCopy (LnR_mv (fun x z1 z2 => hx3 x (by omega)) H1) (LnR_mv (fun x z1 z2 => hx3 x (by omega)) H2) hab hu hb) (Nat.le_refl _) (Nat.le_refl _) (fun E h9 q => by cases q.1) (fun v h9 q => ?_)
  obtain ⟨q1, q2, q3⟩ := q
  cases q1
  have e09 := (q3 H (by omega)).trans e03
  repeat (first | (refine J_step rfl rfl ?_) | (refine J_getf rfl rfl rfl (by assumption) rfl ?_))
  refine J_min rfl (by decide +kernel) rfl rfl (Nat.le_refl _) (Nat.le_refl _) ?_
  have hmin : (if (8 : Int32) < nI c + 1 then 8 else nI c + 1) = nI (min (c + 1) 8) := by
    have : ∀ c, c ≤ 8 → (if (8 : Int32) < nI c + 1 then 8 else nI c + 1) = nI (min (c + 1) 8) := by decide +kernel
    exact this c hc
  refine J_putf rfl rfl rfl e09 rfl rfl (fun _ => rfl) rfl rfl ?_
  repeat (first | (refine J_step rfl rfl ?_) | (refine J_getf rfl rfl rfl (by assumption) rfl ?_))
  refine J_vret rfl rfl rfl rfl ⟨rfl, ⟨va_up f' 0 (some (g 7)), fun i hi => ?_, if_pos rfl, ?_⟩, ?_, ?_, fun x z1 z2 z3 => ?_⟩
  · unfold va_up
    rw [if_neg (by omega), hf' (i + 1) (by omega), if_pos (by omega)]
    rfl
  · simp only [oj_up]; rw [if_neg (by omega)]
    exact (q3 _ (by omega)).trans he3
  · rw [← hmin]; exact if_pos rfl
  · exact LnR_mv (fun x z1 z2 => by simp only [oj_up]; rw [if_neg (by omega)]) q2
  · simp only [oj_up]; rw [if_neg z1]
    exact (q3 x z3).trans (hx3 x z2)
