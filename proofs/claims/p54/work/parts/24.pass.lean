abbrev MS : Type := (Nat → Int32) × List Row × Int64 × Int64
def uB (F : Nat → Int32) : Bool := F 5 == 1
def coolF (F : Nat → Int32) : Nat → Int32 := if (if 0 < F 2 - 5 then F 2 - 5 else 0) ≤ 50 then fset (fset F 2 (if 0 < F 2 - 5 then F 2 - 5 else 0)) 3 0 else fset F 2 (if 0 < F 2 - 5 then F 2 - 5 else 0)
def sp_p0 (F : Nat → Int32) (u : Bool) (l : List Row) (nb : Int32) : List Row × Int32 := spLd F u 0 (spL F l) nb
def sp_p1 (F : Nat → Int32) (u : Bool) (l : List Row) (nb : Int32) : List Row × Int32 := spLd F u 1 (sp_p0 F u l nb).1 (sp_p0 F u l nb).2
def sp_j (F : Nat → Int32) (l : List Row) : Int32 := crMin 0 (sPl F 0 / 4) (F 0) l + crMin 1 (sPl F 1 / 4) (F 0) (crUn 0 (sPl F 0 / 4) l)
def sp_stop (s : MS) : MS := (fset (fset (spA (spF s.1 (uB s.1)) s.2.1) 11 (s.1 11 + sp_j (spF s.1 (uB s.1)) s.2.1)) 12 (sp_p1 (spF s.1 (uB s.1)) (spU s.1 (uB s.1)) s.2.1 (s.1 12)).2, (sp_p1 (spF s.1 (uB s.1)) (spU s.1 (uB s.1)) s.2.1 (s.1 12)).1, s.2.2.1, spJ (spF s.1 (uB s.1)) s.2.1 s.2.2.2)
def sp_x (sl F : Nat → Int32) (l : List Row) : Int32 := sImb F (uB F) sl l
def sp_mv (sl F : Nat → Int32) (l : List Row) : Nat → Int32 := mvB (mvM (mvP F (uB F))) (sp_x sl F l)
def sp_min (sl : Nat → Int32) (s : MS) : MS :=
  if s.1 3 = 0 then
    (if sAtS (sp_mv sl (fset s.1 0 (s.1 0 + 1)) s.2.1) then sp_stop (sp_mv sl (fset s.1 0 (s.1 0 + 1)) s.2.1, s.2.1, mvE s.2.2.1 (sp_x sl (fset s.1 0 (s.1 0 + 1)) s.2.1), s.2.2.2)
    else (sp_mv sl (fset s.1 0 (s.1 0 + 1)) s.2.1, s.2.1, mvE s.2.2.1 (sp_x sl (fset s.1 0 (s.1 0 + 1)) s.2.1), s.2.2.2))
  else (coolF (fset s.1 0 (s.1 0 + 1)), s.2)
def sp_pass (sl : Nat → Int32) : Nat → MS → MS
  | 0, s => s
  | n + 1, s => sp_pass sl n (sp_min sl s)
def gU (F : Nat → Int32) : Prop := F 5 = bI (uB F)
theorem gU_iff {F : Nat → Int32} : gU F ↔ ∃ b : Bool, F 5 = bI b := by
  constructor
  · intro h; exact ⟨_, h⟩
  · rintro ⟨b, h⟩; unfold gU uB; rw [h]; cases b <;> rfl
theorem mvB_ne {F : Nat → Int32} {x : Int32} {i : Nat} (h2 : i ≠ 2) (h3 : i ≠ 3) (h10 : i ≠ 10) : mvB F x i = F i := by
  unfold mvB
  split
  · rw [fset_ne h10, fset_ne h2]
  · split
    · rw [fset_ne h3, fset_ne h2]
    · rw [fset_ne h2]
theorem mvM_ne {F : Nat → Int32} {i : Nat} (h9 : i ≠ 9) : mvM F i = F i := by
  unfold mvM
  split
  · rw [fset_ne h9]
  · rfl
theorem coolF_ne {F : Nat → Int32} {i : Nat} (h2 : i ≠ 2) (h3 : i ≠ 3) : coolF F i = F i := by
  unfold coolF
  generalize (if 0 < F 2 - 5 then F 2 - 5 else 0) = x
  split
  · rw [fset_ne h3, fset_ne h2]
  · rw [fset_ne h2]
theorem sp_mv_ne {sl F : Nat → Int32} {l : List Row} {i : Nat} (h2 : i ≠ 2) (h3 : i ≠ 3) (h4 : i ≠ 4) (h9 : i ≠ 9) (h10 : i ≠ 10) : sp_mv sl F l i = F i := by
  unfold sp_mv mvP
  rw [mvB_ne h2 h3 h10, mvM_ne h9, fset_ne h4]
theorem spF_gU {F : Nat → Int32} (h : gU F) : gU (spF F (uB F)) := by
  unfold spF
  split
  · exact gU_iff.mpr ⟨_, rfl⟩
  · exact h
theorem sp_stop_gU {s : MS} (h : gU s.1) : gU (sp_stop s).1 := by
  have := spF_gU h
  rw [gU_iff] at this ⊢
  exact this
theorem sp_min_gU {sl : Nat → Int32} {s : MS} (h : gU s.1) : gU (sp_min sl s).1 := by
  have h0 : gU (fset s.1 0 (s.1 0 + 1)) := h
  have h1 : gU (sp_mv sl (fset s.1 0 (s.1 0 + 1)) s.2.1) := by
    rw [gU_iff] at h0 ⊢
    obtain ⟨b, hb⟩ := h0
    exact ⟨b, by rw [sp_mv_ne (by decide) (by decide) (by decide) (by decide) (by decide)]; exact hb⟩
  unfold sp_min
  split
  · split
    · exact sp_stop_gU h1
    · exact h1
  · rw [gU_iff] at h0 ⊢
    obtain ⟨b, hb⟩ := h0
    exact ⟨b, by show coolF _ 5 = _; rw [coolF_ne (by decide) (by decide)]; exact hb⟩
theorem sp_pass_gU {sl : Nat → Int32} : ∀ (n : Nat) (s : MS), gU s.1 → gU (sp_pass sl n s).1
  | 0, _, h => h
  | n + 1, s, h => sp_pass_gU n _ (sp_min_gU h)
def lnMS (h : AHp) (a : Nat) (sl : Nat → Int32) (s : MS) (h' : AHp) : Prop := lnIs h a s.1 sl s.2.1 s.2.2.1 s.2.2.2 h'
theorem sp_pass_add (sl : Nat → Int32) : ∀ (n m : Nat) (s : MS), sp_pass sl (n + m) s = sp_pass sl m (sp_pass sl n s)
  | 0, m, s => by rw [Nat.zero_add]; rfl
  | n + 1, m, s => by rw [show n + 1 + m = (n + m) + 1 by omega]; exact sp_pass_add sl n m _
theorem JM_imp {μ : MI} {d mc ms : Nat} {av : List Value} {h : AHp} {Q Q' : QT} (H : JM μ d mc ms av h Q) (hq : ∀ r h', Q r h' → Q' r h') : JM μ d mc ms av h Q' := by
  intro l hl D tyA adK adV b scr ad L sz
  have := H l hl D tyA adK adV b scr ad L sz
  unfold vx_Met MetFree at this ⊢
  intro p e ha hc hk s m args below hf happ hP hK
  obtain ⟨n, o, h1, h2, h3, h4⟩ := this p e ha hc hk s m args below hf happ hP hK
  refine ⟨n, o, h1, h2, h3, ?_⟩
  rcases h4 with ⟨⟨⟨v, h', ad', L', e1, e2, e3⟩, e4⟩, e5⟩ | ⟨q, e0, E, ce, Lc, ⟨⟨h', e1, e2⟩, e3⟩, e4⟩
  · exact Or.inl ⟨⟨⟨v, h', ad', L', e1, hq _ _ e2, e3⟩, e4⟩, e5⟩
  · exact Or.inr ⟨q, e0, E, ce, Lc, ⟨⟨h', hq _ _ e1, e2⟩, e3⟩, e4⟩
set_option maxRecDepth 100000 in
set_option maxHeartbeats 2000000 in
theorem c_stopM {h h1 : AHp} {a : Nat} {sl : Nat → Int32} {s : MS} (H : lnMS h a sl s h1) (hu : gU s.1) : JM mi_X2_stop 2 0 0 [.ref a] h1 (fun r h' => r = .inl none ∧ lnMS h a sl (sp_stop s) h') := by
  refine JM_imp (c_stop (u := uB s.1) H hu) ?_
  rintro r h' ⟨q1, q2⟩
  refine ⟨q1, lnIs_F (lnIs_y (v := s.1 11 + sp_j (spF s.1 (uB s.1)) s.2.1) q2) ?_⟩
  show fset (fset _ 12 _) 11 _ = fset (fset _ 11 _) 12 _
  funext i
  unfold fset
  by_cases e : i = 11
  · rw [if_pos e, if_neg (by omega), if_pos e]
  · rw [if_neg e]
    by_cases q : i = 12
    · rw [if_pos q, if_pos q]; rfl
    · rw [if_neg q, if_neg q, if_neg e]
set_option maxRecDepth 100000 in
set_option maxHeartbeats 2000000 in
set_option maxRecDepth 100000 in
set_option maxHeartbeats 2000000 in
theorem c_letPass {h h1 : AHp} {a n : Nat} {sl : Nat → Int32} {s : MS} (H : lnMS h a sl s h1) (hu : gU s.1) (hn : n ≤ 1000) : JM mi_X2_letPass 3 0 0 [.ref a, .int (nI n)] h1 (fun r h' => r = .inl (some (.int ((sp_pass sl n s).1 7 - s.1 7))) ∧ lnMS h a sl (sp_pass sl n s) h') := by
  have e0 := (lnIs_at H).1
  refine JM_of gd_X2_letPass rfl (by decide +kernel) (Nat.le_of_ble_eq_true rfl) (oj_cats rfl) (by decide) ?_
  have loop : ∀ m j h1 s', m + j = n → lnMS h a sl s' h1 → gU s'.1 → sp_pass sl m s' = sp_pass sl n s → J mi_X2_letPass 3 0 0 (fun r h' => r = .inl (some (.int ((sp_pass sl n s).1 7 - s.1 7))) ∧ lnMS h a sl (sp_pass sl n s) h') 0 0 7 [some (.ref a), some (.int (nI n)), some (.int (s.1 7)), some (.int (nI j))] [] h1 := by
    intro m
    induction m with
    | zero =>
      intro j h1 s' hj H hu hs
      obtain rfl : j = n := by omega
      have e0 := (lnIs_at H).1
      repeat (first | (refine J_step rfl rfl ?_) | (refine J_getf rfl rfl rfl (by assumption) rfl ?_))
      refine J_ic rfl (fun hq => ?_) (fun hq => absurd (Int32.le_refl _) hq)
      repeat (first | (refine J_step rfl rfl ?_) | (refine J_getf rfl rfl rfl (by assumption) rfl ?_))
      rw [← hs]
      exact J_iret rfl rfl rfl rfl ⟨rfl, H⟩
    | succ m ih =>
      intro j h1 s' hj H hu hs
      have e0 := (lnIs_at H).1
      repeat (first | (refine J_step rfl rfl ?_) | (refine J_getf rfl rfl rfl (by assumption) rfl ?_))
      refine J_ic rfl (fun hq => absurd hq (nI_ge (by omega) (by omega))) (fun hq => ?_)
      iterate 5 (first | (refine J_step rfl rfl ?_) | (refine J_getf rfl rfl rfl e0 rfl ?_))
      refine J_putf rfl rfl rfl e0 rfl rfl (fun _ => rfl) rfl rfl ?_
      have H2 := lnIs_fld (F' := fset s'.1 0 (s'.1 0 + 1)) (E' := s'.2.2.1) (Jn' := s'.2.2.2) H rfl
      refine J_heap (h2 := oj_up h1 a (lnObj a (fset s'.1 0 (s'.1 0 + 1)) s'.2.2.1 s'.2.2.2)) rfl ?_
      generalize oj_up h1 a (lnObj a (fset s'.1 0 (s'.1 0 + 1)) s'.2.2.1 s'.2.2.2) = h2 at H2 ⊢
      have hL := lnIs_at H2
      have g0 := hL.1
      have hu2 : gU (fset s'.1 0 (s'.1 0 + 1)) := hu
      have next : ∀ h3, lnMS h a sl (sp_min sl s') h3 → J mi_X2_letPass 3 0 0 (fun r h' => r = .inl (some (.int ((sp_pass sl n s).1 7 - s.1 7))) ∧ lnMS h a sl (sp_pass sl n s) h') 0 0 55 [some (.ref a), some (.int (nI n)), some (.int (s.1 7)), some (.int (nI j))] [] h3 := by
        intro h3 H3
        have hs2 := ih (j + 1) h3 (sp_min sl s') (by omega) H3 (sp_min_gU hu) hs
        rw [nI_succ] at hs2
        iterate 2 (first | (refine J_step rfl rfl ?_) | (refine J_getf rfl rfl rfl (by assumption) rfl ?_))
        exact hs2
      iterate 2 (first | (refine J_step rfl rfl ?_) | (refine J_getf rfl rfl rfl g0 rfl ?_))
      refine J_if (y := 0) rfl (fun hq => ?_) (fun hq => ?_)
      · have hq : s'.1 3 = 0 := hq
        iterate 2 (refine J_step rfl rfl ?_)
        refine J_cV rfl rfl rfl rfl rfl g0 rfl rfl rfl rfl rfl rfl (c_imbalanceNow hL hu2) ?_
        refine J_callV rfl rfl rfl rfl rfl g0 rfl rfl rfl rfl (c_move H2 hu2) (Nat.le_refl _) (Nat.le_refl _) (fun E h9 q => by cases q.1) (fun v h9 q => ?_)
        obtain ⟨q1, q2⟩ := q
        cases q1
        have H3 : lnMS h a sl (sp_mv sl (fset s'.1 0 (s'.1 0 + 1)) s'.2.1, s'.2.1, mvE s'.2.2.1 (sp_x sl (fset s'.1 0 (s'.1 0 + 1)) s'.2.1), s'.2.2.2) h9 := q2
        have hu3 : gU (sp_mv sl (fset s'.1 0 (s'.1 0 + 1)) s'.2.1) := by
          rw [gU_iff] at hu2 ⊢
          obtain ⟨b, hb⟩ := hu2
          exact ⟨b, by rw [sp_mv_ne (by decide) (by decide) (by decide) (by decide) (by decide)]; exact hb⟩
        have hL3 := lnIs_at H3
        have g3 := hL3.1
        iterate 1 (refine J_step rfl rfl ?_)
        refine J_cV rfl rfl rfl rfl rfl g3 rfl rfl rfl rfl rfl rfl (c_isAtStations (d := 0) hL3) ?_
        refine J_if (y := 0) rfl (fun hq2 => ?_) (fun hq2 => ?_)
        · have hb : sAtS (sp_mv sl (fset s'.1 0 (s'.1 0 + 1)) s'.2.1) = false := by cases hb : sAtS (sp_mv sl (fset s'.1 0 (s'.1 0 + 1)) s'.2.1) <;> simp_all [oj_cz, bI]
          refine next h9 ?_
          rw [sp_min, if_pos hq, hb]
          exact H3
        · have hb : sAtS (sp_mv sl (fset s'.1 0 (s'.1 0 + 1)) s'.2.1) = true := by cases hb : sAtS (sp_mv sl (fset s'.1 0 (s'.1 0 + 1)) s'.2.1) <;> simp_all [oj_cz, bI]
          iterate 1 (refine J_step rfl rfl ?_)
          refine J_callV rfl rfl rfl rfl rfl g3 rfl rfl rfl rfl (c_stopM H3 hu3) (Nat.le_refl _) (Nat.le_refl _) (fun E h9 q => by cases q.1) (fun v h9 q => ?_)
          obtain ⟨q1, q2⟩ := q
          cases q1
          refine next h9 ?_
          rw [sp_min, if_pos hq, hb]
          exact q2
      · have hq : ¬ s'.1 3 = 0 := hq
        iterate 1 (refine J_step rfl rfl ?_)
        refine J_callV rfl rfl rfl rfl rfl g0 rfl rfl rfl rfl (c_coolDown H2) (Nat.le_refl _) (Nat.le_refl _) (fun E h9 q => by cases q.1) (fun v h9 q => ?_)
        obtain ⟨q1, q2⟩ := q
        cases q1
        iterate 1 (first | (refine J_step rfl rfl ?_) | (refine J_getf rfl rfl rfl (by assumption) rfl ?_))
        refine next h9 ?_
        rw [sp_min, if_neg hq]
        exact q2
  iterate 5 (first | (refine J_step rfl rfl ?_) | (refine J_getf rfl rfl rfl (by assumption) rfl ?_))
  exact loop n 0 h1 s (by omega) H hu rfl
