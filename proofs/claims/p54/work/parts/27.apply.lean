def sFault (F : Nat → Int32) (l : List Row) (k : Nat) (x y z : Int32) : Int32 := match k with
  | 0 => fAdd l x y z
  | 1 => fRem l x
  | 2 => fSlp x y
  | 3 => fTrn F
  | 4 => fCap l x
  | _ => fWai x
set_option maxRecDepth 100000 in
set_option maxHeartbeats 2000000 in
theorem c_faultOf {h : AHp} {a k : Nat} {F sl : Nat → Int32} {l : List Row} {E Jn : Int64} {x y z : Int32} (hL : LnAt h a F sl l E Jn) (hk : k ≤ 5) : JM mi_X2_faultOf 2 0 0 [.ref a, .int (nI k), .int x, .int y, .int z] h (oj_is (.inl (some (.int (sFault F l k x y z)))) h) := by
  have e0 := hL.1
  refine JM_of gd_X2_faultOf rfl (by decide +kernel) (Nat.le_of_ble_eq_true rfl) (oj_cats rfl) (by decide) ?_
  match k, hk with
  | 0, _ =>
    repeat (first | (refine J_step rfl rfl ?_) | (refine J_getf rfl rfl rfl (by assumption) rfl ?_))
    refine J_tswIn (tgt := 36) (off := 35) rfl (by decide) (by decide) (by decide) (by decide) ?_
    repeat' (first | (refine J_step rfl rfl ?_) | (refine J_getf rfl rfl rfl (by assumption) rfl ?_) | (refine J_cV rfl rfl rfl rfl rfl (by assumption) rfl rfl rfl rfl rfl rfl (c_faultOfAdding hL) ?_) | (refine J_if (y := 0) rfl (fun _ => ?_) (fun _ => ?_)) | (refine J_ic rfl (fun _ => ?_) (fun _ => ?_)))
    exact J_iret rfl rfl rfl rfl ⟨rfl, rfl⟩
  | 1, _ =>
    repeat (first | (refine J_step rfl rfl ?_) | (refine J_getf rfl rfl rfl (by assumption) rfl ?_))
    refine J_tswIn (tgt := 45) (off := 44) rfl (by decide) (by decide) (by decide) (by decide) ?_
    repeat' (first | (refine J_step rfl rfl ?_) | (refine J_getf rfl rfl rfl (by assumption) rfl ?_) | (refine J_cV rfl rfl rfl rfl rfl (by assumption) rfl rfl rfl rfl rfl rfl (c_faultOfRemoving hL) ?_) | (refine J_if (y := 0) rfl (fun _ => ?_) (fun _ => ?_)) | (refine J_ic rfl (fun _ => ?_) (fun _ => ?_)))
    exact J_iret rfl rfl rfl rfl ⟨rfl, rfl⟩
  | 2, _ =>
    repeat (first | (refine J_step rfl rfl ?_) | (refine J_getf rfl rfl rfl (by assumption) rfl ?_))
    refine J_tswIn (tgt := 51) (off := 50) rfl (by decide) (by decide) (by decide) (by decide) ?_
    repeat' (first | (refine J_step rfl rfl ?_) | (refine J_getf rfl rfl rfl (by assumption) rfl ?_) | (refine J_cV rfl rfl rfl rfl rfl (by assumption) rfl rfl rfl rfl rfl rfl (c_faultOfSlope) ?_) | (refine J_if (y := 0) rfl (fun _ => ?_) (fun _ => ?_)) | (refine J_ic rfl (fun _ => ?_) (fun _ => ?_)))
    exact J_iret rfl rfl rfl rfl ⟨rfl, rfl⟩
  | 3, _ =>
    repeat (first | (refine J_step rfl rfl ?_) | (refine J_getf rfl rfl rfl (by assumption) rfl ?_))
    refine J_tswIn (tgt := 58) (off := 57) rfl (by decide) (by decide) (by decide) (by decide) ?_
    repeat' (first | (refine J_step rfl rfl ?_) | (refine J_getf rfl rfl rfl (by assumption) rfl ?_) | (refine J_cV rfl rfl rfl rfl rfl (by assumption) rfl rfl rfl rfl rfl rfl (c_faultOfTurning hL) ?_) | (refine J_if (y := 0) rfl (fun _ => ?_) (fun _ => ?_)) | (refine J_ic rfl (fun _ => ?_) (fun _ => ?_)))
    exact J_iret rfl rfl rfl rfl ⟨rfl, rfl⟩
  | 4, _ =>
    repeat (first | (refine J_step rfl rfl ?_) | (refine J_getf rfl rfl rfl (by assumption) rfl ?_))
    refine J_tswIn (tgt := 63) (off := 62) rfl (by decide) (by decide) (by decide) (by decide) ?_
    repeat' (first | (refine J_step rfl rfl ?_) | (refine J_getf rfl rfl rfl (by assumption) rfl ?_) | (refine J_cV rfl rfl rfl rfl rfl (by assumption) rfl rfl rfl rfl rfl rfl (c_faultOfCapacity hL) ?_) | (refine J_if (y := 0) rfl (fun _ => ?_) (fun _ => ?_)) | (refine J_ic rfl (fun _ => ?_) (fun _ => ?_)))
    exact J_iret rfl rfl rfl rfl ⟨rfl, rfl⟩
  | 5, _ =>
    repeat (first | (refine J_step rfl rfl ?_) | (refine J_getf rfl rfl rfl (by assumption) rfl ?_))
    refine J_tswOut (tgt := 69) rfl (by decide) (by decide) ?_
    repeat' (first | (refine J_step rfl rfl ?_) | (refine J_getf rfl rfl rfl (by assumption) rfl ?_) | (refine J_if (y := 0) rfl (fun _ => ?_) (fun _ => ?_)) | (refine J_ic rfl (fun _ => ?_) (fun _ => ?_)))
    all_goals (refine J_iret rfl rfl rfl rfl ⟨ri ?_, rfl⟩)
    all_goals (simp only [sFault]; simp_all [oj_cz, oj_cc, ne_bI0, ltn, -Int32.not_le, -Int32.not_lt, -ne_eq, fWai])
abbrev LQ : Type := (Nat → Int32) × MS
def lnLS (h : AHp) (a : Nat) (x : LQ) (h' : AHp) : Prop := lnMS h a x.1 x.2 h'
def apD (q : LQ) (k : Nat) (x y z : Int32) : Int32 × LQ := match k with
  | 0 => (q.2.1 6, q.1, fset q.2.1 6 (q.2.1 6 + 1), q.2.2.1 ++ [(q.2.1 6, x, y, z, q.2.1 0, -1, 0)], q.2.2.2)
  | 1 => (nI (q.2.2.1.eraseIdx (lnRow q.2.2.1 x).toNatClampNeg).length, q.1, fset q.2.1 8 (q.2.1 8 + 1), q.2.2.1.eraseIdx (lnRow q.2.2.1 x).toNatClampNeg, q.2.2.2)
  | 2 => (sSl q.1 x, upd q.1 x.toNatClampNeg y, q.2)
  | 3 => (0, q.1, fset q.2.1 5 (bI (!uB q.2.1)), q.2.2)
  | 4 => (q.2.1 1, q.1, fset q.2.1 1 x, q.2.2)
  | _ => ((sp_pass q.1 x.toNatClampNeg q.2).1 7 - q.2.1 7, q.1, sp_pass q.1 x.toNatClampNeg q.2)
theorem apD_gU {q : LQ} {k : Nat} {x y z : Int32} (hu : gU q.2.1) : gU (apD q k x y z).2.2.1 := by
  unfold apD
  split
  · exact hu
  · exact hu
  · exact hu
  · exact gU_iff.mpr ⟨_, rfl⟩
  · exact hu
  · exact sp_pass_gU _ _ hu
theorem nI_neg1 {i : Nat} (h : i ≤ 20) : ¬ nI i = -1 := fun z => absurd (congrArg Int32.toInt z) (by rw [nI_toInt (by omega)]; have : (-1 : Int32).toInt = -1 := rfl; omega)
theorem i32_clamp {x : Int32} (h : 0 ≤ x) : nI x.toNatClampNeg = x := by
  have h0 := Int32.le_iff_toInt_le.mp h
  have h0 : 0 ≤ x.toInt := by simpa using h0
  have h1 := Int32.toInt_lt x
  apply Int32.toInt_inj.mp
  rw [nI_toInt (by unfold Int32.toNatClampNeg; omega)]
  unfold Int32.toNatClampNeg
  omega
set_option maxRecDepth 100000 in
set_option maxHeartbeats 2000000 in
theorem c_apply {h h1 : AHp} {a k : Nat} {g : LQ} {x y z : Int32} (H : lnLS h a g h1) (hu : gU g.2.1) (hk : k ≤ 5) (h0 : sFault g.2.1 g.2.2.1 k x y z = 0) : JM mi_X2_apply 4 0 0 [.ref a, .int (nI k), .int x, .int y, .int z] h1 (fun r h' => r = .inl (some (.int (apD g k x y z).1)) ∧ lnLS h a (apD g k x y z).2 h') := by
  have hL := lnIs_at H
  obtain ⟨e0, e1, hC⟩ := lnIs_at H
  have hlen : g.2.2.1.length ≤ 20 := by obtain ⟨R, -, -, hl⟩ := H; exact hl
  refine JM_of gd_X2_apply rfl (by decide +kernel) (Nat.le_of_ble_eq_true rfl) (oj_cats rfl) (by decide) ?_
  match k, hk with
  | 0, _ =>
    repeat (first | (refine J_step rfl rfl ?_) | (refine J_getf rfl rfl rfl (by assumption) rfl ?_))
    refine J_tswIn (tgt := 36) (off := 35) rfl (by decide) (by decide) (by decide) (by decide) ?_
    repeat (first | (refine J_step rfl rfl ?_) | (refine J_getf rfl rfl rfl (by assumption) rfl ?_))
    have hl : g.2.2.1.length < 20 := by
      rcases Nat.lt_or_ge g.2.2.1.length 20 with e | e
      · exact e
      · have : g.2.2.1.length = 20 := by omega
        simp only [sFault, fAdd, this] at h0
        rw [if_neg (show ¬ nI 20 < 20 by decide)] at h0
        split at h0
        · cases h0
        · split at h0 <;> cases h0
    refine J_callV rfl rfl rfl rfl rfl (by assumption) rfl rfl rfl rfl (c_letCome H hl) (Nat.le_refl _) (Nat.le_refl _) (fun E h9 q => by cases q.1) (fun v h9 q => ?_)
    obtain ⟨q1, q2⟩ := q
    cases q1
    exact J_iret rfl rfl rfl rfl ⟨rfl, q2⟩
  | 1, _ =>
    repeat (first | (refine J_step rfl rfl ?_) | (refine J_getf rfl rfl rfl (by assumption) rfl ?_))
    refine J_tswIn (tgt := 45) (off := 44) rfl (by decide) (by decide) (by decide) (by decide) ?_
    repeat (first | (refine J_step rfl rfl ?_) | (refine J_getf rfl rfl rfl (by assumption) rfl ?_))
    have hv : ∃ i, i < g.2.2.1.length ∧ lnRow g.2.2.1 x = nI i := by
      rcases fstI_cases (fun j => (rAt g.2.2.1 j).1 == x) g.2.2.1.length with ⟨hv, -⟩ | ⟨i, hi, -, hv, -⟩
      · have hv : lnRow g.2.2.1 x = -1 := hv
        simp only [sFault, fRem] at h0
        rw [if_pos hv] at h0
        cases h0
      · exact ⟨i, hi, hv⟩
    obtain ⟨i, hi, hv⟩ := hv
    refine J_callV rfl rfl rfl rfl rfl (by assumption) rfl rfl rfl rfl (c_letGo H hi hv) (Nat.le_refl _) (Nat.le_refl _) (fun E h9 q => by cases q.1) (fun v h9 q => ?_)
    obtain ⟨q1, q2⟩ := q
    cases q1
    have e : (lnRow g.2.2.1 x).toNatClampNeg = i := by rw [hv, nI_clamp (by omega)]
    exact J_iret rfl rfl rfl rfl ⟨by simp only [apD]; rw [e], by simp only [apD]; rw [e]; exact q2⟩
  | 2, _ =>
    repeat (first | (refine J_step rfl rfl ?_) | (refine J_getf rfl rfl rfl (by assumption) rfl ?_))
    refine J_tswIn (tgt := 51) (off := 50) rfl (by decide) (by decide) (by decide) (by decide) ?_
    repeat (first | (refine J_step rfl rfl ?_) | (refine J_getf rfl rfl rfl (by assumption) rfl ?_))
    have hgx : 0 ≤ x ∧ x < 6 := by
      by_cases e : 0 ≤ x ∧ x < 6
      · exact e
      · simp only [sFault, fSlp] at h0
        rw [if_pos e] at h0
        cases h0
    refine J_callV rfl rfl rfl rfl rfl (by assumption) rfl rfl rfl rfl (c_replaceSlope H hgx) (Nat.le_refl _) (Nat.le_refl _) (fun E h9 q => by cases q.1) (fun v h9 q => ?_)
    obtain ⟨q1, q2⟩ := q
    cases q1
    exact J_iret rfl rfl rfl rfl ⟨rfl, q2⟩
  | 3, _ =>
    repeat (first | (refine J_step rfl rfl ?_) | (refine J_getf rfl rfl rfl (by assumption) rfl ?_))
    refine J_tswIn (tgt := 58) (off := 57) rfl (by decide) (by decide) (by decide) (by decide) ?_
    repeat (first | (refine J_step rfl rfl ?_) | (refine J_getf rfl rfl rfl (by assumption) rfl ?_))
    have fin : ∀ b, b = !uB g.2.1 → J mi_X2_apply 4 0 0 (fun r h' => r = .inl (some (.int (apD g 3 x y z).1)) ∧ lnLS h a (apD g 3 x y z).2 h') 0 0 71 [some (.ref a), some (.int (nI 3)), some (.int x), some (.int y), some (.int z)] [.int (bI b), .ref a] h1 := by
      intro b hb
      refine J_putf rfl rfl rfl e0 rfl rfl (fun _ => rfl) (bI_nar _) (bI_fit _) ?_
      have H3 := lnIs_fld (F' := fset g.2.1 5 (bI b)) (E' := g.2.2.2.1) (Jn' := g.2.2.2.2) H rfl
      repeat (first | (refine J_step rfl rfl ?_) | (refine J_getf rfl rfl rfl (by assumption) rfl ?_))
      subst hb
      exact J_iret rfl rfl rfl rfl ⟨rfl, H3⟩
    rw [hu]
    refine J_if (y := 0) rfl (fun hq => ?_) (fun hq => ?_)
    · have hb : uB g.2.1 = true := by cases e : uB g.2.1 <;> simp_all [oj_cz, bI]
      iterate 1 (refine J_step rfl rfl ?_)
      exact fin false (by rw [hb]; rfl)
    · have hb : uB g.2.1 = false := by cases e : uB g.2.1 <;> simp_all [oj_cz, bI]
      iterate 2 (refine J_step rfl rfl ?_)
      exact fin true (by rw [hb]; rfl)
  | 4, _ =>
    repeat (first | (refine J_step rfl rfl ?_) | (refine J_getf rfl rfl rfl (by assumption) rfl ?_))
    refine J_tswIn (tgt := 76) (off := 75) rfl (by decide) (by decide) (by decide) (by decide) ?_
    repeat (first | (refine J_step rfl rfl ?_) | (refine J_getf rfl rfl rfl (by assumption) rfl ?_))
    refine J_callV rfl rfl rfl rfl rfl (by assumption) rfl rfl rfl rfl (c_replaceCapacity (d := 0) H) (Nat.le_refl _) (Nat.le_refl _) (fun E h9 q => by cases q.1) (fun v h9 q => ?_)
    obtain ⟨q1, q2⟩ := q
    cases q1
    exact J_iret rfl rfl rfl rfl ⟨rfl, q2⟩
  | 5, _ =>
    repeat (first | (refine J_step rfl rfl ?_) | (refine J_getf rfl rfl rfl (by assumption) rfl ?_))
    refine J_tswOut (tgt := 82) rfl (by decide) (by decide) ?_
    repeat (first | (refine J_step rfl rfl ?_) | (refine J_getf rfl rfl rfl (by assumption) rfl ?_))
    have hx : 1 ≤ x ∧ x ≤ 240 := by
      simp only [sFault, fWai] at h0
      split at h0
      · cases h0
      · rename_i e
        exact ⟨Int32.not_lt.mp (fun z => e (Or.inl z)), Int32.not_lt.mp (fun z => e (Or.inr z))⟩
    have e : nI x.toNatClampNeg = x := i32_clamp (Int32.le_trans (by decide) hx.1)
    have h3 : x.toNatClampNeg ≤ 240 := by
      have := Int32.le_iff_toInt_le.mp hx.2
      have : x.toInt ≤ 240 := by simpa using this
      unfold Int32.toNatClampNeg
      omega
    rw [← e]
    refine J_callV rfl rfl rfl rfl rfl (by assumption) rfl rfl rfl rfl (c_letPass H hu (by omega)) (Nat.le_refl _) (Nat.le_refl _) (fun E h9 q => by cases q.1) (fun v h9 q => ?_)
    obtain ⟨q1, q2⟩ := q
    cases q1
    rw [e]
    exact J_iret rfl rfl rfl rfl ⟨rfl, q2⟩
