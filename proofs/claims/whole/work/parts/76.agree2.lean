theorem fA_c {l : List Row} {a b c : Int32} : fAdd l a b c = 0 ∨ fAdd l a b c = 1 ∨ fAdd l a b c = 2 ∨ fAdd l a b c = 3 := by
  unfold fAdd; split <;> (try split) <;> (try split) <;> simp
theorem fR_c {l : List Row} {v : Int32} : fRem l v = 0 ∨ fRem l v = 5 ∨ fRem l v = 3 := by
  unfold fRem; split <;> (try split) <;> simp
theorem fS_c {g v : Int32} : fSlp g v = 0 ∨ fSlp g v = 1 ∨ fSlp g v = 2 := by
  unfold fSlp; split <;> (try split) <;> simp
theorem fT_c {F : Nat → Int32} : fTrn F = 0 ∨ fTrn F = 3 ∨ fTrn F = 4 := by
  unfold fTrn; split <;> (try split) <;> simp
theorem fC_c {l : List Row} {v : Int32} : fCap l v = 0 ∨ fCap l v = 2 ∨ fCap l v = 3 := by
  unfold fCap; split <;> (try split) <;> simp
theorem fW_c {v : Int32} : fWai v = 0 ∨ fWai v = 2 := by
  unfold fWai; split <;> simp
theorem chg0 {A : AS} {k : Nat} {x y z : Int32} (hf : sFault A.1.2.1 A.1.2.2.1 k x y z = 0) : (asChg A k x y z).1 = .inl (some (.int (apD A.1 k x y z).1)) ∧ rCd k (sFault A.1.2.1 A.1.2.2.1 k x y z) = 0 := by
  constructor
  · unfold asChg; rw [if_pos hf]
  · rw [hf]; exact rCd0
theorem chgj {A : AS} {k : Nat} {x y z j : Int32} (hf : sFault A.1.2.1 A.1.2.2.1 k x y z = j) (hj : ¬ j = 0) {E : String} (hE : xOf j = E) {c : Int32} (hc : rCd k j = c) : (asChg A k x y z).1 = .inr E ∧ rCd k (sFault A.1.2.1 A.1.2.2.1 k x y z) = c := by
  constructor
  · unfold asChg; rw [hf, if_neg hj, hE]
  · rw [hf]; exact hc
theorem chgv {A : AS} {k : Nat} {x y z : Int32} (hk : k < 6) (h3 : ¬ k = 3) (hc : rCd k (sFault A.1.2.1 A.1.2.2.1 k x y z) = 0) : (if sFault A.1.2.1 A.1.2.2.1 k x y z = 0 then rVal A.1 k x y z else 0) = (apD A.1 k x y z).1 := by
  by_cases hf : sFault A.1.2.1 A.1.2.2.1 k x y z = 0
  · rw [if_pos hf]; unfold rVal; rw [if_neg h3]
  · exact absurd hc (rCd_ne hk hf)
set_option maxRecDepth 100000 in
set_option maxHeartbeats 2000000 in
theorem u_addPicker {A : AS} {n : Nat} {p0 p1 p2 : Int32} (HA : AI A n) (hn : n < 512) : UU mi_L_addPicker mi_X6_addPicker 9 8 [.int p0, .int p1, .int p2] A n := by
  have hI := AI_cur HA
  refine ⟨(asChg A 0 p0 p1 p2).2, rCd 0 (sFault A.1.2.1 A.1.2.2.1 0 p0 p1 p2), (apD A.1 0 p0 p1 p2).1, _, AI_chg HA hn (by decide), fun hc => chgv (by decide) (by decide) hc, fun h f HC hf => w_addPicker (by decide) (by decide) (t_addPicker HC hI.gU hI.gB) HC.1 hf ?_, fun h v R HM HS => m_addPicker HM HS⟩
  rcases (fA_c : sFault A.1.2.1 A.1.2.2.1 0 p0 p1 p2 = 0 ∨ sFault A.1.2.1 A.1.2.2.1 0 p0 p1 p2 = 1 ∨ sFault A.1.2.1 A.1.2.2.1 0 p0 p1 p2 = 2 ∨ sFault A.1.2.1 A.1.2.2.1 0 p0 p1 p2 = 3) with e | e | e | e
  · exact Or.inl (chg0 (A := A) (k := 0) (x := p0) (y := p1) (z := p2) e)
  · exact Or.inr (Or.inl (chgj (A := A) (k := 0) (x := p0) (y := p1) (z := p2) (j := 1) e (by decide) (by decide) (by decide)))
  · exact Or.inr (Or.inr (Or.inl (chgj (A := A) (k := 0) (x := p0) (y := p1) (z := p2) (j := 2) e (by decide) (by decide) (by decide))))
  · exact Or.inr (Or.inr (Or.inr (chgj (A := A) (k := 0) (x := p0) (y := p1) (z := p2) (j := 3) e (by decide) (by decide) (by decide))))
set_option maxRecDepth 100000 in
set_option maxHeartbeats 2000000 in
theorem u_removePicker {A : AS} {n : Nat} {p0 : Int32} (HA : AI A n) (hn : n < 512) : UU mi_L_removePicker mi_X6_removePicker 9 8 [.int p0] A n := by
  have hI := AI_cur HA
  refine ⟨(asChg A 1 p0 0 0).2, rCd 1 (sFault A.1.2.1 A.1.2.2.1 1 p0 0 0), (apD A.1 1 p0 0 0).1, _, AI_chg HA hn (by decide), fun hc => chgv (by decide) (by decide) hc, fun h f HC hf => w_removePicker (by decide) (by decide) (t_removePicker HC hI.gU hI.gB) HC.1 hf ?_, fun h v R HM HS => m_removePicker HM HS (LI_cab hI)⟩
  rcases (fR_c : sFault A.1.2.1 A.1.2.2.1 1 p0 0 0 = 0 ∨ sFault A.1.2.1 A.1.2.2.1 1 p0 0 0 = 5 ∨ sFault A.1.2.1 A.1.2.2.1 1 p0 0 0 = 3) with e | e | e
  · exact Or.inl (chg0 (A := A) (k := 1) (x := p0) (y := 0) (z := 0) e)
  · exact Or.inr (Or.inl (chgj (A := A) (k := 1) (x := p0) (y := 0) (z := 0) (j := 5) e (by decide) (by decide) (by decide)))
  · exact Or.inr (Or.inr (chgj (A := A) (k := 1) (x := p0) (y := 0) (z := 0) (j := 3) e (by decide) (by decide) (by decide)))
set_option maxRecDepth 100000 in
set_option maxHeartbeats 2000000 in
theorem u_setSlope {A : AS} {n : Nat} {p0 p1 : Int32} (HA : AI A n) (hn : n < 512) : UU mi_L_setSlope mi_X6_setSlope 9 8 [.int p0, .int p1] A n := by
  have hI := AI_cur HA
  refine ⟨(asChg A 2 p0 p1 0).2, rCd 2 (sFault A.1.2.1 A.1.2.2.1 2 p0 p1 0), (apD A.1 2 p0 p1 0).1, _, AI_chg HA hn (by decide), fun hc => chgv (by decide) (by decide) hc, fun h f HC hf => w_setSlope (by decide) (by decide) (t_setSlope HC hI.gU hI.gB) HC.1 hf ?_, fun h v R HM HS => m_setSlope HM HS⟩
  rcases (fS_c : sFault A.1.2.1 A.1.2.2.1 2 p0 p1 0 = 0 ∨ sFault A.1.2.1 A.1.2.2.1 2 p0 p1 0 = 1 ∨ sFault A.1.2.1 A.1.2.2.1 2 p0 p1 0 = 2) with e | e | e
  · exact Or.inl (chg0 (A := A) (k := 2) (x := p0) (y := p1) (z := 0) e)
  · exact Or.inr (Or.inl (chgj (A := A) (k := 2) (x := p0) (y := p1) (z := 0) (j := 1) e (by decide) (by decide) (by decide)))
  · exact Or.inr (Or.inr (chgj (A := A) (k := 2) (x := p0) (y := p1) (z := 0) (j := 2) e (by decide) (by decide) (by decide)))
set_option maxRecDepth 100000 in
set_option maxHeartbeats 2000000 in
theorem u_setCapacity {A : AS} {n : Nat} {p0 : Int32} (HA : AI A n) (hn : n < 512) : UU mi_L_setCapacity mi_X6_setCapacity 9 8 [.int p0] A n := by
  have hI := AI_cur HA
  refine ⟨(asChg A 4 p0 0 0).2, rCd 4 (sFault A.1.2.1 A.1.2.2.1 4 p0 0 0), (apD A.1 4 p0 0 0).1, _, AI_chg HA hn (by decide), fun hc => chgv (by decide) (by decide) hc, fun h f HC hf => w_setCapacity (by decide) (by decide) (t_setCapacity HC hI.gU hI.gB) HC.1 hf ?_, fun h v R HM HS => m_setCapacity HM HS⟩
  rcases (fC_c : sFault A.1.2.1 A.1.2.2.1 4 p0 0 0 = 0 ∨ sFault A.1.2.1 A.1.2.2.1 4 p0 0 0 = 2 ∨ sFault A.1.2.1 A.1.2.2.1 4 p0 0 0 = 3) with e | e | e
  · exact Or.inl (chg0 (A := A) (k := 4) (x := p0) (y := 0) (z := 0) e)
  · exact Or.inr (Or.inl (chgj (A := A) (k := 4) (x := p0) (y := 0) (z := 0) (j := 2) e (by decide) (by decide) (by decide)))
  · exact Or.inr (Or.inr (chgj (A := A) (k := 4) (x := p0) (y := 0) (z := 0) (j := 3) e (by decide) (by decide) (by decide)))
set_option maxRecDepth 100000 in
set_option maxHeartbeats 2000000 in
theorem u_pass {A : AS} {n : Nat} {p0 : Int32} (HA : AI A n) (hn : n < 512) : UU mi_L_pass mi_X6_pass 9 8 [.int p0] A n := by
  have hI := AI_cur HA
  refine ⟨(asChg A 5 p0 0 0).2, rCd 5 (sFault A.1.2.1 A.1.2.2.1 5 p0 0 0), (apD A.1 5 p0 0 0).1, _, AI_chg HA hn (by decide), fun hc => chgv (by decide) (by decide) hc, fun h f HC hf => w_pass (by decide) (by decide) (t_pass HC hI.gU hI.gB) HC.1 hf ?_, fun h v R HM HS => m_pass HM HS hI (by omega)⟩
  rcases (fW_c : sFault A.1.2.1 A.1.2.2.1 5 p0 0 0 = 0 ∨ sFault A.1.2.1 A.1.2.2.1 5 p0 0 0 = 2) with e | e
  · exact Or.inl (chg0 (A := A) (k := 5) (x := p0) (y := 0) (z := 0) e)
  · exact Or.inr (chgj (A := A) (k := 5) (x := p0) (y := 0) (z := 0) (j := 2) e (by decide) (by decide) (by decide))
set_option maxRecDepth 100000 in
set_option maxHeartbeats 2000000 in
theorem u_turn {A : AS} {n : Nat} (HA : AI A n) (hn : n < 512) : UU mi_L_turn mi_X6_turn 9 8 [] A n := by
  have hI := AI_cur HA
  have eB : (asTurn A).2 = (asChg A 3 0 0 0).2 := by unfold asTurn; split <;> rfl
  refine ⟨(asChg A 3 0 0 0).2, rCd 3 (sFault A.1.2.1 A.1.2.2.1 3 0 0 0), bI (!uB A.1.2.1), _, AI_chg HA hn (by decide), fun hc => ?_, fun h f HC hf => w_turn (by decide) (by decide) (JM_c (t_turn HC hI.gU hI.gB) eB rfl) HC.1 hf ?_ (bI_or _), fun h v R HM HS => m_turn HM HS hI.gU⟩
  · by_cases hf : sFault A.1.2.1 A.1.2.2.1 3 0 0 0 = 0
    · rw [if_pos hf]
    · exact absurd hc (rCd_ne (by decide) hf)
  rcases (fT_c : sFault A.1.2.1 A.1.2.2.1 3 0 0 0 = 0 ∨ sFault A.1.2.1 A.1.2.2.1 3 0 0 0 = 3 ∨ sFault A.1.2.1 A.1.2.2.1 3 0 0 0 = 4) with e | e | e
  · have e : sFault A.1.2.1 A.1.2.2.1 3 0 0 0 = 0 := e
    refine Or.inl ⟨?_, (chg0 (A := A) (k := 3) (x := 0) (y := 0) (z := 0) e).2⟩
    unfold asTurn; rw [if_pos e]
  · have e : sFault A.1.2.1 A.1.2.2.1 3 0 0 0 = 3 := e
    have hz : ¬ sFault A.1.2.1 A.1.2.2.1 3 0 0 0 = 0 := by rw [e]; decide
    refine Or.inr (Or.inl ⟨?_, (chgj (A := A) (k := 3) (x := 0) (y := 0) (z := 0) (j := 3) e (by decide) rfl (by decide)).2⟩)
    unfold asTurn; rw [if_neg hz]; exact (chgj (A := A) (k := 3) (x := 0) (y := 0) (z := 0) (j := 3) e (by decide) (by decide) rfl).1
  · have e : sFault A.1.2.1 A.1.2.2.1 3 0 0 0 = 4 := e
    have hz : ¬ sFault A.1.2.1 A.1.2.2.1 3 0 0 0 = 0 := by rw [e]; decide
    refine Or.inr (Or.inr ⟨?_, (chgj (A := A) (k := 3) (x := 0) (y := 0) (z := 0) (j := 4) e (by decide) rfl (by decide)).2⟩)
    unfold asTurn; rw [if_neg hz]; exact (chgj (A := A) (k := 3) (x := 0) (y := 0) (z := 0) (j := 4) e (by decide) (by decide) rfl).1
set_option maxRecDepth 100000 in
set_option maxHeartbeats 2000000 in
theorem u_undo {A : AS} {n : Nat} (HA : AI A n) (hn : n < 512) : UU mi_L_undo mi_X6_undo 8 2 [] A n := by
  have hg : ∀ q ∈ A.2.2.1, gU q.2.1 ∧ gB q.2.1 := fun q hq => ⟨(HA.2.2.2.2.2.2 q (Or.inr (Or.inr hq))).gU, (HA.2.2.2.2.2.2 q (Or.inr (Or.inr hq))).gB⟩
  cases hl : A.2.2.1 with
  | nil =>
    refine ⟨(asUndo A).2, 1, 0, 0, AI_undo HA hn, fun _ => rfl, fun h f HC hf => w_undo (by decide) (by decide) (t_undo HC hg) HC.1 hf (Or.inr ⟨?_, rfl⟩), fun h v R HM HS => JM_n (m_undo HM HS) rfl ?_ ?_⟩
    · unfold asUndo; rw [hl]
    · rw [hl]
    · rw [hl]
  | cons q t =>
    refine ⟨(asUndo A).2, 0, nI t.length, nI t.length, AI_undo HA hn, fun _ => rfl, fun h f HC hf => w_undo (by decide) (by decide) (t_undo HC hg) HC.1 hf (Or.inl ⟨?_, rfl⟩), fun h v R HM HS => JM_n (m_undo HM HS) rfl ?_ ?_⟩
    · unfold asUndo; rw [hl]
    · rw [hl]
    · rw [hl]
set_option maxRecDepth 100000 in
set_option maxHeartbeats 2000000 in
theorem u_restore {A : AS} {n : Nat} (HA : AI A n) (hn : n < 512) : UU mi_L_restore mi_X6_restore 7 2 [] A n := by
  have hg : ∀ q, A.2.1 = some q → gU q.2.1 ∧ gB q.2.1 := fun q hq => ⟨(HA.2.2.2.2.2.2 q (Or.inr (Or.inl hq))).gU, (HA.2.2.2.2.2.2 q (Or.inr (Or.inl hq))).gB⟩
  cases hl : A.2.1 with
  | none =>
    refine ⟨(asRest A).2, 1, 0, 0, AI_rest HA hn, fun _ => rfl, fun h f HC hf => w_restore (by decide) (by decide) (t_restore HC hg) HC.1 hf (Or.inr ⟨?_, rfl⟩), fun h v R HM HS => JM_n (m_restore HM HS) rfl ?_ ?_⟩
    · unfold asRest; rw [hl]
    · rw [hl]
    · rw [hl]
  | some q =>
    refine ⟨(asRest A).2, 0, nI q.2.2.1.length, nI q.2.2.1.length, AI_rest HA hn, fun _ => rfl, fun h f HC hf => w_restore (by decide) (by decide) (t_restore HC hg) HC.1 hf (Or.inl ⟨?_, rfl⟩), fun h v R HM HS => JM_n (m_restore HM HS) rfl ?_ ?_⟩
    · unfold asRest; rw [hl]
    · rw [hl]
    · rw [hl]
set_option maxRecDepth 100000 in
set_option maxHeartbeats 2000000 in
theorem u_type {A : AS} {n : Nat} {p0 : Int32} (HA : AI A n) (hn : n < 512) (hc : cOk p0) : UU mi_L_type mi_X6_type 7 2 [.int p0] A n := by
  by_cases hl : 60 ≤ A.2.2.2.2.1.length
  · refine ⟨(asType A p0).2, 1, 0, 0, AI_type HA hn hc, fun _ => rfl, fun h f HC hf => w_type (by decide) (by decide) (t_type HC hc) HC.1 hf (Or.inr ⟨?_, rfl⟩), fun h v R HM HS => JM_n (m_type HM HS) rfl (if_pos hl) (if_pos hl)⟩
    unfold asType; rw [if_pos hl]
  · refine ⟨(asType A p0).2, 0, nI (A.2.2.2.2.1.length + 1), nI (A.2.2.2.2.1.length + 1), AI_type HA hn hc, fun _ => rfl, fun h f HC hf => w_type (by decide) (by decide) (t_type HC hc) HC.1 hf (Or.inl ⟨?_, rfl⟩), fun h v R HM HS => JM_n (m_type HM HS) rfl (if_neg hl) (if_neg hl)⟩
    unfold asType; rw [if_neg hl]
set_option maxRecDepth 100000 in
set_option maxHeartbeats 2000000 in
theorem u_run {A : AS} {n : Nat} (HA : AI A n) (hn : n < 512) (h60 : A.2.2.2.2.1.length ≤ 60) : UU mi_L_run mi_X6_run 10 9 [] A n := by
  have hI := AI_cur HA
  have h1 := HA.1
  have hw := (wOk_of HA.2.2.1).2
  have hT : (rdP A.2.2.2.2.1).1 = true → 240 * (n - A.2.2.2.2.1.length) + 240 * (rdP A.2.2.2.2.1).2.2.length ≤ 123000 ∧ n - A.2.2.2.2.1.length + (rdP A.2.2.2.2.1).2.2.length ≤ 600 := fun h => by have := rdP_5 h; omega
  by_cases hp : (rdP A.2.2.2.2.1).1 = true
  · by_cases hf9 : (ffL (rdP A.2.2.2.2.1).2.2 A.1 0).1 = -1
    · refine ⟨(asRun A).2, 0, nI (rdP A.2.2.2.2.1).2.2.length, _, AI_run HA hn h60, fun _ => rfl, fun h f HC hf => w_run (by decide) (by decide) (t_run HC hI.gU hI.gB hw) HC.1 hf (Or.inl ⟨?_, rfl⟩), fun h v R HM HS => JM_n (m_run HM HS hI hT) rfl ?_ ?_⟩
      · unfold asRun; rw [if_pos hp, if_pos hf9]
      · unfold rnV; rw [if_pos hp, if_pos hf9]
      · unfold rnC; rw [if_pos hp, if_pos hf9]
    · refine ⟨(asRun A).2, 2, 0, 0, AI_run HA hn h60, fun _ => rfl, fun h f HC hf => w_run (by decide) (by decide) (t_run HC hI.gU hI.gB hw) HC.1 hf (Or.inr (Or.inr ⟨?_, rfl⟩)), fun h v R HM HS => JM_n (m_run HM HS hI hT) rfl ?_ ?_⟩
      · unfold asRun; rw [if_pos hp, if_neg hf9]
      · unfold rnV; rw [if_pos hp, if_neg hf9]
      · unfold rnC; rw [if_pos hp, if_neg hf9]
  · refine ⟨(asRun A).2, 1, 0, 0, AI_run HA hn h60, fun _ => rfl, fun h f HC hf => w_run (by decide) (by decide) (t_run HC hI.gU hI.gB hw) HC.1 hf (Or.inr (Or.inl ⟨?_, rfl⟩)), fun h v R HM HS => JM_n (m_run HM HS hI hT) rfl ?_ ?_⟩
    · unfold asRun; rw [if_neg hp]
    · unfold rnV; rw [if_neg hp]
    · unfold rnC; rw [if_neg hp]
