theorem f_add {l : List Row} {a b c : Int32} : fAdd l a b c = 0 ∨ fAdd l a b c = 1 ∨ fAdd l a b c = 2 ∨ fAdd l a b c = 3 := by
  unfold fAdd; split <;> (try split) <;> (try split) <;> simp
theorem f_rem {l : List Row} {v : Int32} : fRem l v = 0 ∨ fRem l v = 5 ∨ fRem l v = 3 := by
  unfold fRem; split <;> (try split) <;> simp
theorem f_slp {g v : Int32} : fSlp g v = 0 ∨ fSlp g v = 1 ∨ fSlp g v = 2 := by
  unfold fSlp; split <;> (try split) <;> simp
theorem f_trn {F : Nat → Int32} : fTrn F = 0 ∨ fTrn F = 3 ∨ fTrn F = 4 := by
  unfold fTrn; split <;> (try split) <;> simp
theorem f_cap {l : List Row} {v : Int32} : fCap l v = 0 ∨ fCap l v = 2 ∨ fCap l v = 3 := by
  unfold fCap; split <;> (try split) <;> simp
theorem f_wai {v : Int32} : fWai v = 0 ∨ fWai v = 2 := by
  unfold fWai; split <;> simp
set_option maxRecDepth 100000 in
set_option maxHeartbeats 2000000 in
theorem us_addPicker {h : AHp} {A : AS} {n : Nat} {p0 p1 p2 : Int32} (C : CRep h A) (HA : AI A n) (hn : n < 512) (ht : A.2.2.2.2.1 = []) : ∃ c B, JM mi_L_addPicker 9 1 6 [.ref 0, .int p0, .int p1, .int p2] h (fun r h' => r = .inl (some (.int c)) ∧ CStep h B h') ∧ ActR A c B ∧ AI B (n + 1) := by
  have hl := AI_cur HA
  have hC := t_addPicker (x := p0) (y := p1) (z := p2) C (LI.gU hl) (LI.gB hl)
  have hAI := AI_chg HA hn (k := 0) (x := p0) (y := p1) (z := p2) (by omega)
  rcases asChg_act (k := 0) (x := p0) (y := p1) (z := p2) HA hn (by omega) ht with ⟨v, hv, ha, -, -⟩ | ⟨hf, hv, hB⟩
  · exact ⟨v, _, w_addPicker (Nat.le_refl _) (Nat.le_refl _) hC C.1 (Or.inl hv), ha, hAI⟩
  · have hcs : fAdd A.1.2.2.1 p0 p1 p2 = 1 ∨ fAdd A.1.2.2.1 p0 p1 p2 = 2 ∨ fAdd A.1.2.2.1 p0 p1 p2 = 3 := f_add.resolve_left hf
    rcases hcs with e | e | e
    · have hv2 : (asChg A 0 p0 p1 p2).1 = .inr "java/lang/IndexOutOfBoundsException" := by rw [hv]; exact congrArg (fun q => Sum.inr (xOf q)) e
      exact ⟨-900001, _, w_addPicker (Nat.le_refl _) (Nat.le_refl _) hC C.1 (Or.inr (Or.inl ⟨hv2, rfl⟩)), by rw [hB]; exact ActR_err ht (Or.inl rfl), hAI⟩
    · have hv2 : (asChg A 0 p0 p1 p2).1 = .inr "java/lang/IllegalArgumentException" := by rw [hv]; exact congrArg (fun q => Sum.inr (xOf q)) e
      exact ⟨-900002, _, w_addPicker (Nat.le_refl _) (Nat.le_refl _) hC C.1 (Or.inr (Or.inr (Or.inl ⟨hv2, rfl⟩))), by rw [hB]; exact ActR_err ht (Or.inr (Or.inl rfl)), hAI⟩
    · have hv2 : (asChg A 0 p0 p1 p2).1 = .inr "java/lang/IllegalStateException" := by rw [hv]; exact congrArg (fun q => Sum.inr (xOf q)) e
      exact ⟨-900003, _, w_addPicker (Nat.le_refl _) (Nat.le_refl _) hC C.1 (Or.inr (Or.inr (Or.inr (⟨hv2, rfl⟩)))), by rw [hB]; exact ActR_err ht (Or.inr (Or.inr (rfl))), hAI⟩
set_option maxRecDepth 100000 in
set_option maxHeartbeats 2000000 in
theorem us_removePicker {h : AHp} {A : AS} {n : Nat} {p0 : Int32} (C : CRep h A) (HA : AI A n) (hn : n < 512) (ht : A.2.2.2.2.1 = []) : ∃ c B, JM mi_L_removePicker 9 1 6 [.ref 0, .int p0] h (fun r h' => r = .inl (some (.int c)) ∧ CStep h B h') ∧ ActR A c B ∧ AI B (n + 1) := by
  have hl := AI_cur HA
  have hC := t_removePicker (x := p0) C (LI.gU hl) (LI.gB hl)
  have hAI := AI_chg HA hn (k := 1) (x := p0) (y := 0) (z := 0) (by omega)
  rcases asChg_act (k := 1) (x := p0) (y := 0) (z := 0) HA hn (by omega) ht with ⟨v, hv, ha, -, -⟩ | ⟨hf, hv, hB⟩
  · exact ⟨v, _, w_removePicker (Nat.le_refl _) (Nat.le_refl _) hC C.1 (Or.inl hv), ha, hAI⟩
  · have hcs : fRem A.1.2.2.1 p0 = 5 ∨ fRem A.1.2.2.1 p0 = 3 := f_rem.resolve_left hf
    rcases hcs with e | e
    · have hv2 : (asChg A 1 p0 0 0).1 = .inr "java/util/NoSuchElementException" := by rw [hv]; exact congrArg (fun q => Sum.inr (xOf q)) e
      exact ⟨-900001, _, w_removePicker (Nat.le_refl _) (Nat.le_refl _) hC C.1 (Or.inr (Or.inl ⟨hv2, rfl⟩)), by rw [hB]; exact ActR_err ht (Or.inl rfl), hAI⟩
    · have hv2 : (asChg A 1 p0 0 0).1 = .inr "java/lang/IllegalStateException" := by rw [hv]; exact congrArg (fun q => Sum.inr (xOf q)) e
      exact ⟨-900002, _, w_removePicker (Nat.le_refl _) (Nat.le_refl _) hC C.1 (Or.inr (Or.inr (⟨hv2, rfl⟩))), by rw [hB]; exact ActR_err ht (Or.inr (Or.inl rfl)), hAI⟩
set_option maxRecDepth 100000 in
set_option maxHeartbeats 2000000 in
theorem us_setSlope {h : AHp} {A : AS} {n : Nat} {p0 p1 : Int32} (C : CRep h A) (HA : AI A n) (hn : n < 512) (ht : A.2.2.2.2.1 = []) : ∃ c B, JM mi_L_setSlope 9 1 6 [.ref 0, .int p0, .int p1] h (fun r h' => r = .inl (some (.int c)) ∧ CStep h B h') ∧ ActR A c B ∧ AI B (n + 1) := by
  have hl := AI_cur HA
  have hC := t_setSlope (x := p0) (y := p1) C (LI.gU hl) (LI.gB hl)
  have hAI := AI_chg HA hn (k := 2) (x := p0) (y := p1) (z := 0) (by omega)
  rcases asChg_act (k := 2) (x := p0) (y := p1) (z := 0) HA hn (by omega) ht with ⟨v, hv, ha, -, -⟩ | ⟨hf, hv, hB⟩
  · exact ⟨v, _, w_setSlope (Nat.le_refl _) (Nat.le_refl _) hC C.1 (Or.inl hv), ha, hAI⟩
  · have hcs : fSlp p0 p1 = 1 ∨ fSlp p0 p1 = 2 := f_slp.resolve_left hf
    rcases hcs with e | e
    · have hv2 : (asChg A 2 p0 p1 0).1 = .inr "java/lang/IndexOutOfBoundsException" := by rw [hv]; exact congrArg (fun q => Sum.inr (xOf q)) e
      exact ⟨-900001, _, w_setSlope (Nat.le_refl _) (Nat.le_refl _) hC C.1 (Or.inr (Or.inl ⟨hv2, rfl⟩)), by rw [hB]; exact ActR_err ht (Or.inl rfl), hAI⟩
    · have hv2 : (asChg A 2 p0 p1 0).1 = .inr "java/lang/IllegalArgumentException" := by rw [hv]; exact congrArg (fun q => Sum.inr (xOf q)) e
      exact ⟨-900002, _, w_setSlope (Nat.le_refl _) (Nat.le_refl _) hC C.1 (Or.inr (Or.inr (⟨hv2, rfl⟩))), by rw [hB]; exact ActR_err ht (Or.inr (Or.inl rfl)), hAI⟩
set_option maxRecDepth 100000 in
set_option maxHeartbeats 2000000 in
theorem us_setCapacity {h : AHp} {A : AS} {n : Nat} {p0 : Int32} (C : CRep h A) (HA : AI A n) (hn : n < 512) (ht : A.2.2.2.2.1 = []) : ∃ c B, JM mi_L_setCapacity 9 1 6 [.ref 0, .int p0] h (fun r h' => r = .inl (some (.int c)) ∧ CStep h B h') ∧ ActR A c B ∧ AI B (n + 1) := by
  have hl := AI_cur HA
  have hC := t_setCapacity (x := p0) C (LI.gU hl) (LI.gB hl)
  have hAI := AI_chg HA hn (k := 4) (x := p0) (y := 0) (z := 0) (by omega)
  rcases asChg_act (k := 4) (x := p0) (y := 0) (z := 0) HA hn (by omega) ht with ⟨v, hv, ha, -, -⟩ | ⟨hf, hv, hB⟩
  · exact ⟨v, _, w_setCapacity (Nat.le_refl _) (Nat.le_refl _) hC C.1 (Or.inl hv), ha, hAI⟩
  · have hcs : fCap A.1.2.2.1 p0 = 2 ∨ fCap A.1.2.2.1 p0 = 3 := f_cap.resolve_left hf
    rcases hcs with e | e
    · have hv2 : (asChg A 4 p0 0 0).1 = .inr "java/lang/IllegalArgumentException" := by rw [hv]; exact congrArg (fun q => Sum.inr (xOf q)) e
      exact ⟨-900001, _, w_setCapacity (Nat.le_refl _) (Nat.le_refl _) hC C.1 (Or.inr (Or.inl ⟨hv2, rfl⟩)), by rw [hB]; exact ActR_err ht (Or.inl rfl), hAI⟩
    · have hv2 : (asChg A 4 p0 0 0).1 = .inr "java/lang/IllegalStateException" := by rw [hv]; exact congrArg (fun q => Sum.inr (xOf q)) e
      exact ⟨-900002, _, w_setCapacity (Nat.le_refl _) (Nat.le_refl _) hC C.1 (Or.inr (Or.inr (⟨hv2, rfl⟩))), by rw [hB]; exact ActR_err ht (Or.inr (Or.inl rfl)), hAI⟩
set_option maxRecDepth 100000 in
set_option maxHeartbeats 2000000 in
theorem us_pass {h : AHp} {A : AS} {n : Nat} {p0 : Int32} (C : CRep h A) (HA : AI A n) (hn : n < 512) (ht : A.2.2.2.2.1 = []) : ∃ c B, JM mi_L_pass 9 1 6 [.ref 0, .int p0] h (fun r h' => r = .inl (some (.int c)) ∧ CStep h B h') ∧ ActR A c B ∧ AI B (n + 1) := by
  have hl := AI_cur HA
  have hC := t_pass (x := p0) C (LI.gU hl) (LI.gB hl)
  have hAI := AI_chg HA hn (k := 5) (x := p0) (y := 0) (z := 0) (by omega)
  rcases asChg_act (k := 5) (x := p0) (y := 0) (z := 0) HA hn (by omega) ht with ⟨v, hv, ha, -, -⟩ | ⟨hf, hv, hB⟩
  · exact ⟨v, _, w_pass (Nat.le_refl _) (Nat.le_refl _) hC C.1 (Or.inl hv), ha, hAI⟩
  · have hcs : fWai p0 = 2 := f_wai.resolve_left hf
    have e := hcs
    · have hv2 : (asChg A 5 p0 0 0).1 = .inr "java/lang/IllegalArgumentException" := by rw [hv]; exact congrArg (fun q => Sum.inr (xOf q)) e
      exact ⟨-900001, _, w_pass (Nat.le_refl _) (Nat.le_refl _) hC C.1 (Or.inr (⟨hv2, rfl⟩)), by rw [hB]; exact ActR_err ht (Or.inl rfl), hAI⟩
set_option maxRecDepth 100000 in
set_option maxHeartbeats 2000000 in
theorem us_turn {h : AHp} {A : AS} {n : Nat} (C : CRep h A) (HA : AI A n) (hn : n < 512) (ht : A.2.2.2.2.1 = []) : ∃ c B, JM mi_L_turn 9 1 6 [.ref 0] h (fun r h' => r = .inl (some (.int c)) ∧ CStep h B h') ∧ ActR A c B ∧ AI B (n + 1) := by
  have hl := AI_cur HA
  have hC := t_turn C (LI.gU hl) (LI.gB hl)
  have hAI := AI_chg HA hn (k := 3) (x := 0) (y := 0) (z := 0) (by omega)
  rcases asChg_act (k := 3) (x := 0) (y := 0) (z := 0) HA hn (by omega) ht with ⟨v, hv, ha, -, hf⟩ | ⟨hf, hv, hB⟩
  · have hT : asTurn A = (.inl (some (.int (bI (!uB A.1.2.1)))), (asChg A 3 0 0 0).2) := by unfold asTurn; rw [if_pos hf]
    rw [hT] at hC
    have hb := lt_of_Bd (Bd_mono (L := 1000) (Bd_bI (!uB A.1.2.1)) (by omega))
    refine ⟨bI (!uB A.1.2.1), _, w_turn (Nat.le_refl _) (Nat.le_refl _) hC C.1 (Or.inl ⟨_, rfl, rfl⟩), ?_, hAI⟩
    obtain ⟨a1, a2, a3⟩ := ha
    refine ⟨a1, a2, Or.inl ⟨hb.1, hb.2, ?_⟩⟩
    unfold asChg
    rw [if_pos hf]
  · have hT : asTurn A = asChg A 3 0 0 0 := by unfold asTurn; rw [if_neg hf]
    rw [hT] at hC
    have hcs : fTrn A.1.2.1 = 3 ∨ fTrn A.1.2.1 = 4 := f_trn.resolve_left hf
    rcases hcs with e | e
    · have hv2 : (asChg A 3 0 0 0).1 = .inr "java/lang/IllegalStateException" := by rw [hv]; exact congrArg (fun q => Sum.inr (xOf q)) e
      exact ⟨-900001, _, w_turn (Nat.le_refl _) (Nat.le_refl _) hC C.1 (Or.inr (Or.inl ⟨hv2, rfl⟩)), by rw [hB]; exact ActR_err ht (Or.inl rfl), hAI⟩
    · have hv2 : (asChg A 3 0 0 0).1 = .inr "java/lang/UnsupportedOperationException" := by rw [hv]; exact congrArg (fun q => Sum.inr (xOf q)) e
      exact ⟨-900002, _, w_turn (Nat.le_refl _) (Nat.le_refl _) hC C.1 (Or.inr (Or.inr ⟨hv2, rfl⟩)), by rw [hB]; exact ActR_err ht (Or.inr (Or.inl rfl)), hAI⟩
theorem LI_0 : LI LQ0 0 0 := by
  refine ⟨0, 4, 0, 0, 0, 0, 0, 0, 0, 0, 0, false, true, ?_, ?_, ?_⟩
  · exact ⟨⟨rfl, rfl, rfl, rfl, rfl, rfl⟩, ⟨rfl, rfl, rfl, rfl⟩, rfl, rfl, rfl, rfl, rfl⟩
  · exact ⟨⟨by decide, by decide, by decide, by decide⟩, ⟨by decide, by decide⟩, ⟨(fun h => by cases h), fun _ => by decide⟩, ⟨by decide, fun _ => rfl, fun h => absurd h (by decide)⟩, rfl, by decide, by decide, by decide, by decide, by decide, by decide, by decide⟩
  · exact ⟨fun g hg => ⟨2, by decide, rfl⟩, fun r hr => (by cases hr), List.Pairwise.nil⟩
theorem AI_0 : AI AS0 0 := by
  refine ⟨Nat.le_refl _, by decide, fun x hx => (by cases hx), fun x hx => (by cases hx), Or.inl rfl, Or.inl rfl, fun q hq => ?_⟩
  rcases hq with z | z | z
  · rw [z]; exact LI_0
  · cases z
  · cases z
