/-- both sides hold the state A, the law's arrays stand, the script stands -/
def LW (N : Nat) (xs : Nat → Int32) (A : AS) (h : AHp) : Prop := CRep h A ∧ (∃ v R, MdAt h v R ∧ RS v R A) ∧ (∃ f, h 129 = .inl (2, 1, .inr (.inl f))) ∧ (∃ g, h 130 = .inl (3, 1, .inr (.inr (.inr (.inl g))))) ∧ h 999999 = .inl (9, N, .inl xs)
theorem MdAt_mv {h h' : AHp} {v : Nat → Int32} {R : Nat → Nat → Int32} (hh : ∀ x, 120 < x → x < 129 → h' x = h x) (H : MdAt h v R) : MdAt h' v R := by
  obtain ⟨a, b, c, d, e, f, g, i⟩ := H
  exact ⟨(hh _ (by decide) (by decide)).trans a, (hh _ (by decide) (by decide)).trans b, (hh _ (by decide) (by decide)).trans c, (hh _ (by decide) (by decide)).trans d, (hh _ (by decide) (by decide)).trans e, (hh _ (by decide) (by decide)).trans f, (hh _ (by decide) (by decide)).trans g, (hh _ (by decide) (by decide)).trans i⟩
/-- the law's state behind the class's half of a wrapped call -/
def LV1 (N : Nat) (xs : Nat → Int32) (A B : AS) (c val : Int32) (h : AHp) : Prop := CRep h B ∧ (∃ v R, MdAt h v R ∧ RS v R A) ∧ (∃ f : Nat → Int64, h 129 = .inl (2, 1, .inr (.inl f)) ∧ (c = 0 → f 0 = val.toInt64)) ∧ (∃ g, h 130 = .inl (3, 1, .inr (.inr (.inr (.inl g))))) ∧ h 999999 = .inl (9, N, .inl xs)
theorem LW_w {N : Nat} {xs : Nat → Int32} {A B : AS} {c val : Int32} {h h1 : AHp} (H : LW N xs A h) (K : WH h B c val h1) : LV1 N xs A B c val h1 := by
  obtain ⟨C, ⟨v, R, M, S⟩, F, ⟨g, hg⟩, hs⟩ := H
  obtain ⟨C1, hh, F1⟩ := K
  exact ⟨C1, ⟨v, R, MdAt_mv (fun x z1 z2 => hh x z1 (by omega)) M, S⟩, F1, ⟨g, (hh _ (by decide) (by decide)).trans hg⟩, (hh _ (by decide) (by decide)).trans hs⟩
theorem CRep_md {h h' : AHp} {A : AS} (hh : ∀ x, x < 121 ∨ 128 < x → h' x = h x) (H : CRep h A) : CRep h' A := CRep_mv (fun x z => hh x (by omega)) H
theorem LW_m {N : Nat} {xs : Nat → Int32} {A B : AS} {c val : Int32} {h1 h2 : AHp} (H : LV1 N xs A B c val h1) (K : RP h1 B c h2) : LW N xs B h2 ∧ (∃ v R, MdAt h2 v R ∧ v 1 = c) ∧ ∃ f : Nat → Int64, h2 129 = .inl (2, 1, .inr (.inl f)) ∧ (c = 0 → f 0 = val.toInt64) := by
  obtain ⟨C, -, ⟨f, hf, hv⟩, ⟨g, hg⟩, hs⟩ := H
  obtain ⟨v, R, ⟨M, hh⟩, S, e⟩ := K
  have k := fun x (z : x < 121 ∨ 128 < x) => hh x z
  have hf2 := (k 129 (by decide)).trans hf
  exact ⟨⟨CRep_md k C, ⟨v, R, M, S⟩, ⟨f, hf2⟩, ⟨g, (k _ (by decide)).trans hg⟩, (k _ (by decide)).trans hs⟩, ⟨v, R, M, e⟩, ⟨f, hf2, hv⟩⟩
/-- behind the class's half of an unwrapped call -/
theorem LW_x {N : Nat} {xs : Nat → Int32} {A B : AS} {h h1 : AHp} (H : LW N xs A h) (K : CStep h B h1) : CRep h1 B ∧ (∃ v R, MdAt h1 v R ∧ RS v R A) ∧ (∃ f, h1 129 = .inl (2, 1, .inr (.inl f))) ∧ (∃ g, h1 130 = .inl (3, 1, .inr (.inr (.inr (.inl g))))) ∧ h1 999999 = .inl (9, N, .inl xs) := by
  obtain ⟨C, ⟨v, R, M, S⟩, ⟨f, hf⟩, ⟨g, hg⟩, hs⟩ := H
  obtain ⟨C1, hh⟩ := K
  exact ⟨C1, ⟨v, R, MdAt_mv (fun x z1 z2 => hh x z1) M, S⟩, ⟨f, (hh _ (by decide)).trans hf⟩, ⟨g, (hh _ (by decide)).trans hg⟩, (hh _ (by decide)).trans hs⟩
theorem LW_y {N : Nat} {xs : Nat → Int32} {A B : AS} {h h1 : AHp} {c : Int32} (H : CRep h B ∧ (∃ v R, MdAt h v R ∧ RS v R A) ∧ (∃ f, h 129 = .inl (2, 1, .inr (.inl f))) ∧ (∃ g, h 130 = .inl (3, 1, .inr (.inr (.inr (.inl g))))) ∧ h 999999 = .inl (9, N, .inl xs)) (K : RP h B c h1) : LW N xs B h1 := by
  obtain ⟨C, -, ⟨f, hf⟩, ⟨g, hg⟩, hs⟩ := H
  obtain ⟨v, R, ⟨M, hh⟩, S, e⟩ := K
  exact ⟨CRep_md hh C, ⟨v, R, M, S⟩, ⟨f, (hh _ (by decide)).trans hf⟩, ⟨g, (hh _ (by decide)).trans hg⟩, (hh _ (by decide)).trans hs⟩
theorem lg_self (x : Int64) : lg_cmp x x = 0 := by
  unfold lg_cmp
  simp
/-- the law's way on from the end of a turn -/
def LK (mc ms : Nat) (Q : QT) (N : Nat) (xs : Nat → Int32) (k n m : Nat) (i : Int32) : Prop := ∀ (B : AS) (h' : AHp) (k' n' : Nat) (a6 a7 a8 a9 : Option Value), LW N xs B h' → AI B (m + 1) → k' ≤ k + 1 → n' ≤ n + 6 → J mi_L_law 13 mc ms Q k' n' 2371 [some (.ref 999999), some (.ref 0), some (.ref 121), some (.ref 129), some (.ref 130), some (.int i), a6, a7, a8, a9] [] h'
theorem cOk_i2c (x : Int32) : cOk (x.toUInt32 % 65536).toInt32 := by
  show vp_nar .char _ = _
  rw [vp_nar_char]
  rw [← UInt32.toUInt32_toUInt16]
  simp
  have e : x.toUInt32 % 65536 % 65536 = x.toUInt32 % 65536 := UInt32.toNat_inj.mp (by rw [UInt32.toNat_mod, UInt32.toNat_mod, Nat.mod_mod])
  rw [e]
/-- the mean's halves -/
def LV2 (N : Nat) (xs : Nat → Int32) (A B : AS) (c : Int32) (val : UInt64) (h : AHp) : Prop := CRep h B ∧ (∃ v R, MdAt h v R ∧ RS v R A) ∧ (∃ f, h 129 = .inl (2, 1, .inr (.inl f))) ∧ (∃ g : Nat → UInt64, h 130 = .inl (3, 1, .inr (.inr (.inr (.inl g)))) ∧ (c = 0 → g 0 = val)) ∧ h 999999 = .inl (9, N, .inl xs)
theorem LW_d {N : Nat} {xs : Nat → Int32} {A B : AS} {c : Int32} {val : UInt64} {h h1 : AHp} (H : LW N xs A h) (K : WD h B c val h1) : LV2 N xs A B c val h1 := by
  obtain ⟨C, ⟨v, R, M, S⟩, ⟨f, hf⟩, -, hs⟩ := H
  obtain ⟨C1, hh, F1⟩ := K
  exact ⟨C1, ⟨v, R, MdAt_mv (fun x z1 z2 => hh x z1 (by omega)) M, S⟩, ⟨f, (hh _ (by decide) (by decide)).trans hf⟩, F1, (hh _ (by decide) (by decide)).trans hs⟩
theorem LW_n {N : Nat} {xs : Nat → Int32} {A B : AS} {c : Int32} {val : UInt64} {h1 h2 : AHp} (H : LV2 N xs A B c val h1) (K : RP h1 B c h2) : LW N xs B h2 ∧ (∃ v R, MdAt h2 v R ∧ v 1 = c) ∧ ∃ g : Nat → UInt64, h2 130 = .inl (3, 1, .inr (.inr (.inr (.inl g)))) ∧ (c = 0 → g 0 = val) := by
  obtain ⟨C, -, ⟨f, hf⟩, ⟨g, hg, hv⟩, hs⟩ := H
  obtain ⟨v, R, ⟨M, hh⟩, S, e⟩ := K
  have k := fun x (z : x < 121 ∨ 128 < x) => hh x z
  have hg2 := (k 130 (by decide)).trans hg
  exact ⟨⟨CRep_md k C, ⟨v, R, M, S⟩, ⟨f, (k _ (by decide)).trans hf⟩, ⟨g, hg2⟩, (k _ (by decide)).trans hs⟩, ⟨v, R, M, e⟩, ⟨g, hg2, hv⟩⟩
/-- a wrapped call that answers true or false -/
def UB (μw μr : MI) (dw dr : Nat) (as : List Value) (A : AS) (n : Nat) : Prop := ∃ (B : AS) (c val b : Int32), AI B (n + 1) ∧ (c = 0 → b = val ∧ (val = 0 ∨ val = 1)) ∧ (∀ (h : AHp) (f : Nat → Int64), CRep h A → h 129 = .inl (2, 1, .inr (.inl f)) → JM μw dw 1 6 (.ref 0 :: (as ++ [.ref 129])) h (fun r h' => r = .inl (some (.int c)) ∧ WH h B c val h')) ∧ (∀ (h : AHp) (v : Nat → Int32) (R : Nat → Nat → Int32), MdAt h v R → RS v R A → JM μr dr 0 0 (.ref 121 :: as) h (fun r h' => r = .inl (some (.int b)) ∧ RP h B c h'))
set_option maxRecDepth 100000 in
set_option maxHeartbeats 2000000 in
theorem u_BgoesUp {A : AS} {n : Nat} {p0 : Int32} (HA : AI A n) (hn : n < 512) : UB mi_L_goesUp mi_X6_goesUp 8 2 [.int p0] A n := by
  have hI := AI_cur HA
  by_cases hc : 0 ≤ p0 ∧ p0 < 2
  · refine ⟨A, 0, bI (sUp (uB A.1.2.1) p0), bI (sUp (uB A.1.2.1) p0), AI_step HA hn, fun _ => ⟨rfl, by first | exact bI_or _ | exact Or.inl rfl⟩, fun h f HC hf => ?_, fun h v R HM HS => ?_⟩
    · obtain ⟨e, ⟨sl', hs, hL⟩, -⟩ := id HC
      exact w_goesUp (by decide) (by decide) (JM_q HC (t_goesUp e hL hI.gU) ((if_pos hc))) e hf (Or.inl ⟨rfl, rfl⟩) (bI_or _)
    · exact JM_m HS (m_goesUp HM HS.1 hI.gU) ((if_pos (st2.mpr hc))) ((if_pos (st2.mpr hc)))
  · refine ⟨A, 1, 0, 0, AI_step HA hn, fun _ => ⟨rfl, by first | exact bI_or _ | exact Or.inl rfl⟩, fun h f HC hf => ?_, fun h v R HM HS => ?_⟩
    · obtain ⟨e, ⟨sl', hs, hL⟩, -⟩ := id HC
      exact w_goesUp (by decide) (by decide) (JM_q HC (t_goesUp e hL hI.gU) ((if_neg hc))) e hf (Or.inr (⟨rfl, rfl⟩)) (Or.inl rfl)
    · exact JM_m HS (m_goesUp HM HS.1 hI.gU) ((if_neg ((fun z => hc (st2.mp z))))) ((if_neg ((fun z => hc (st2.mp z)))))
set_option maxRecDepth 100000 in
set_option maxHeartbeats 2000000 in
theorem u_Bturn {A : AS} {n : Nat} (HA : AI A n) (hn : n < 512) : UB mi_L_turn mi_X6_turn 9 8 [] A n := by
  have hI := AI_cur HA
  have eB : (asTurn A).2 = (asChg A 3 0 0 0).2 := by unfold asTurn; split <;> rfl
  refine ⟨(asChg A 3 0 0 0).2, rCd 3 (sFault A.1.2.1 A.1.2.2.1 3 0 0 0), bI (!uB A.1.2.1), _, AI_chg HA hn (by decide), fun hc => ?_, fun h f HC hf => w_turn (by decide) (by decide) (JM_c (t_turn HC hI.gU hI.gB) eB rfl) HC.1 hf ?_ (bI_or _), fun h v R HM HS => m_turn HM HS hI.gU⟩
  · by_cases hf : sFault A.1.2.1 A.1.2.2.1 3 0 0 0 = 0
    · rw [if_pos hf]; exact ⟨rfl, bI_or _⟩
    · exact absurd hc (rCd_ne (by decide) hf)
  rcases (fT_c : sFault A.1.2.1 A.1.2.2.1 3 0 0 0 = 0 ∨ sFault A.1.2.1 A.1.2.2.1 3 0 0 0 = 3 ∨ sFault A.1.2.1 A.1.2.2.1 3 0 0 0 = 4) with e | e | e
  · have e : sFault A.1.2.1 A.1.2.2.1 3 0 0 0 = 0 := e
    refine Or.inl ⟨?_, (chg0 (A := A) (k := 3) (x := 0) (y := 0) (z := 0) e).2⟩
    unfold asTurn; rw [if_pos e]
  · have e : sFault A.1.2.1 A.1.2.2.1 3 0 0 0 = 3 := e
    have hz : ¬ sFault A.1.2.1 A.1.2.2.1 3 0 0 0 = 0 := by rw [e]; decide
    refine Or.inr (Or.inl ⟨?_, (chgj (A := A) (k := 3) (x := 0) (y := 0) (z := 0) (j := 3) e (by decide) rfl (by decide)).2⟩)
    unfold asTurn; rw [if_neg hz]; exact (chgj (A := A) (k := 3) (x := 0) (y := 0) (z := 0) (j := 3) e (by decide) (by decide) rfl).1
  · have e : sFault A.1.2.1 A.1.2.2.1 3 0 0 0 = 4 := e
    have hz : ¬ sFault A.1.2.1 A.1.2.2.1 3 0 0 0 = 0 := by rw [e]; decide
    refine Or.inr (Or.inr ⟨?_, (chgj (A := A) (k := 3) (x := 0) (y := 0) (z := 0) (j := 4) e (by decide) rfl (by decide)).2⟩)
    unfold asTurn; rw [if_neg hz]; exact (chgj (A := A) (k := 3) (x := 0) (y := 0) (z := 0) (j := 4) e (by decide) (by decide) rfl).1
