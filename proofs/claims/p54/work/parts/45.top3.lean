def asUndo (A : AS) : (Option Value ⊕ String) × AS := match A.2.2.1 with
  | [] => (.inr "java/lang/IllegalStateException", A)
  | q :: t => (.inl (some (.int (nI t.length))), (q, A.2.1, t, A.2.2.2))
def asSave (A : AS) : (Option Value ⊕ String) × AS := (.inl (some (.int (nI A.1.2.2.1.length))), (A.1, some A.1, A.2.2))
def asRest (A : AS) : (Option Value ⊕ String) × AS := match A.2.1 with
  | none => (.inr "java/lang/IllegalStateException", A)
  | some q => (.inl (some (.int (nI q.2.2.1.length))), (q, A.2.1, [], A.2.2.2))
def asType (A : AS) (c : Int32) : (Option Value ⊕ String) × AS := if 60 ≤ A.2.2.2.2.1.length then (.inr "java/lang/IllegalStateException", A) else (.inl (some (.int (nI (A.2.2.2.2.1.length + 1)))), (A.1, A.2.1, A.2.2.1, A.2.2.2.1, A.2.2.2.2.1 ++ [c], A.2.2.2.2.2))
set_option maxRecDepth 100000 in
set_option maxHeartbeats 2000000 in
theorem t_undo {h : AHp} {A : AS} (H : CRep h A) (hg : ∀ q ∈ A.2.2.1, gU q.2.1 ∧ gB q.2.1) : JM mi_X5_undo 7 1 6 [.ref 0] h (fun r h' => r = (asUndo A).1 ∧ CStep h (asUndo A).2 h') := by
  obtain ⟨e, hL, hcp, hsv, hsv2, hH, hO, T, p, m, hP⟩ := id H
  obtain ⟨f, g, hB, hff, h31, h32, hl, hqq, hv⟩ := hH
  refine JM_of gd_X5_undo rfl (by decide +kernel) (Nat.le_of_ble_eq_true rfl) (oj_cats rfl) (by decide) ?_
  repeat (first | (refine J_step rfl rfl ?_) | (refine J_getf rfl rfl rfl (by assumption) rfl ?_))
  cases hs : A.2.2.1 with
  | nil =>
    rw [hs] at h31
    refine J_if (y := 0) rfl (fun hq => absurd rfl hq) (fun hq => ?_)
    first | (refine J_throwW (E := "java/lang/IllegalStateException") (text := "no change can be undone") (sn := 28) rfl rfl rfl rfl rfl rfl (by decide +kernel) (by decide +kernel) rfl rfl rfl rfl (Nat.le_of_ble_eq_true rfl) (Nat.le_of_ble_eq_true rfl) ?_)
    unfold asUndo
    rw [hs]
    exact ⟨rfl, CStep.rf H⟩
  | cons q t =>
    have hl' := hl
    rw [hs] at h31 hl' hg
    have hl' : t.length + 1 ≤ 8 := hl'
    obtain ⟨gu, gb⟩ := hg q List.mem_cons_self
    obtain ⟨sl, -, hLn⟩ := id hL
    refine J_if (y := 0) rfl (fun hq => ?_) (fun hq => absurd (nI_ne0 (n := (q :: t).length) (Nat.succ_pos _) (by show t.length + 1 < _; omega)) hq)
    repeat (first | (refine J_step rfl rfl ?_) | (refine J_getf rfl rfl rfl (by assumption) rfl ?_))
    refine J_callV rfl rfl rfl rfl rfl h31 rfl rfl rfl rfl (c_takeBack (H := 31) (b := 1) h31 h32 hff (by omega) (fun i hi => by
      have := hB.1 i hi
      obtain ⟨q, sl, -, w⟩ := hqq i hi
      exact ⟨by omega, _, w.1⟩) (hv 0 q (by rw [hs]; rfl)) hL (by have := hB.1 0 (by omega); omega) (by omega) gu gb ⟨_, hLn.1⟩) (Nat.zero_le _) (Nat.zero_le _) (fun E h9 q => by cases q.1) (fun v h9 q => ?_)
    obtain ⟨q1, k1, k2, k3, k4⟩ := q
    cases q1
    have e9 := (k4 0 (by omega) (by omega) (by omega)).trans e
    have hH9 : HsAt h9 A.2.2.1.tail := HsAt_back hB hl hqq hv ⟨k1, by rw [hs]; exact k2, fun x z1 z2 => k4 x (by omega) (by omega) (by omega)⟩
    rw [hs] at hH9
    have kp : ∀ x, 10 < x → x < 31 ∨ 32 < x → h9 x = h x := fun x z1 z2 => k4 x (by omega) (by omega) (by omega)
    repeat (first | (refine J_step rfl rfl ?_) | (refine J_getf rfl rfl rfl (by assumption) rfl ?_))
    refine J_iret rfl rfl rfl rfl ?_
    unfold asUndo
    rw [hs]
    refine ⟨rfl, ⟨e9, k3, ?_, ?_, fun q w => LnR_mv (fun x z1 z2 => kp x (by omega) (by omega)) (hsv2 q w), hH9, OutAt_mv (fun x z1 z2 => kp x (by omega) (by omega)) hO, T, p, m, PgAt_mv (fun x z1 z2 => kp x (by omega) (by omega)) hP⟩, fun x z => kp x (by omega) (by omega)⟩
    · obtain ⟨q, w⟩ := hcp
      exact ⟨q, LnR_mv (fun x z1 z2 => kp x (by omega) (by omega)) w⟩
    · obtain ⟨q, w⟩ := hsv
      exact ⟨q, LnR_mv (fun x z1 z2 => kp x (by omega) (by omega)) w⟩
set_option maxRecDepth 100000 in
set_option maxHeartbeats 2000000 in
theorem t_save {h : AHp} {A : AS} (H : CRep h A) (hu : gU A.1.2.1) (hb : gB A.1.2.1) : JM mi_X5_save 3 0 0 [.ref 0] h (fun r h' => r = (asSave A).1 ∧ CStep h (asSave A).2 h') := by
  obtain ⟨e, hL, hcp, ⟨qs, hsv⟩, hsv2, hH, hO, T, p, m, hP⟩ := id H
  obtain ⟨sls, -, hs1⟩ := id hsv
  have es := hs1.1
  refine JM_of gd_X5_save rfl (by decide +kernel) (Nat.le_of_ble_eq_true rfl) (oj_cats rfl) (by decide) ?_
  repeat (first | (refine J_step rfl rfl ?_) | (refine J_getf rfl rfl rfl (by assumption) rfl ?_))
  refine J_callV rfl rfl rfl rfl rfl es rfl rfl rfl rfl (c_lnCopy hsv hL (Or.inl (by omega)) hu hb) (Nat.zero_le _) (Nat.zero_le _) (fun E h9 q => by cases q.1) (fun v h5 q => ?_)
  obtain ⟨q1, H5⟩ := q
  cases q1
  have e5 := (H5.2 0 (by omega)).trans e
  clear es
  repeat (first | (refine J_step rfl rfl ?_) | (refine J_getf rfl rfl rfl (by assumption) rfl ?_))
  refine J_putf rfl rfl rfl e5 rfl rfl (fun _ => rfl) rfl rfl ?_
  refine J_heap (h2 := oj_up h5 0 (.inr (5, [.ref 1, .ref 11, .ref 21, .int (bI true), .ref 31, .ref 113, .ref 115, .int A.2.2.2.2.2.1, .int A.2.2.2.2.2.2]))) rfl ?_
  have kp6 : ∀ x, 0 < x → oj_up h5 0 (.inr (5, [.ref 1, .ref 11, .ref 21, .int (bI true), .ref 31, .ref 113, .ref 115, .int A.2.2.2.2.2.1, .int A.2.2.2.2.2.2])) x = h5 x := fun x z => if_neg (by omega)
  have e6 : oj_up h5 0 (.inr (5, [.ref 1, .ref 11, .ref 21, .int (bI true), .ref 31, .ref 113, .ref 115, .int A.2.2.2.2.2.1, .int A.2.2.2.2.2.2])) 0 = .inr (5, [.ref 1, .ref 11, .ref 21, .int (bI true), .ref 31, .ref 113, .ref 115, .int A.2.2.2.2.2.1, .int A.2.2.2.2.2.2]) := if_pos rfl
  generalize oj_up h5 0 (.inr (5, [.ref 1, .ref 11, .ref 21, .int (bI true), .ref 31, .ref 113, .ref 115, .int A.2.2.2.2.2.1, .int A.2.2.2.2.2.2])) = h6 at kp6 e6 ⊢
  clear e5
  have kp : ∀ x, 0 < x → x < 21 ∨ 30 < x → h6 x = h x := fun x z1 z2 => (kp6 x z1).trans (H5.2 x (by omega))
  have hL6 : LnR h6 1 A.1 := LnR_mv (fun x z1 z2 => kp x (by omega) (by omega)) hL
  obtain ⟨sl6, -, hLn6⟩ := id hL6
  have g1 := hLn6.1
  obtain ⟨R, ⟨f0, -⟩, -⟩ := hLn6.2.2
  repeat (first | (refine J_step rfl rfl ?_) | (refine J_getf rfl rfl rfl (by assumption) rfl ?_))
  refine J_iret rfl rfl rfl rfl ⟨rfl, ⟨e6, hL6, ?_, ⟨A.1, LnR_mv (fun x z1 z2 => kp6 x (by omega)) H5.1⟩, fun q w => ?_, HsAt_mv (fun x z1 z2 => kp x (by omega) (by omega)) hH, OutAt_mv (fun x z1 z2 => kp x (by omega) (by omega)) hO, T, p, m, PgAt_mv (fun x z1 z2 => kp x (by omega) (by omega)) hP⟩, fun x z => kp x (by omega) (by omega)⟩
  · obtain ⟨q, w⟩ := hcp
    exact ⟨q, LnR_mv (fun x z1 z2 => kp x (by omega) (by omega)) w⟩
  · have : A.1 = q := Option.some.inj w
    subst this
    exact LnR_mv (fun x z1 z2 => kp6 x (by omega)) H5.1
set_option maxRecDepth 100000 in
set_option maxHeartbeats 2000000 in
theorem t_restore {h : AHp} {A : AS} (H : CRep h A) (hg : ∀ q, A.2.1 = some q → gU q.2.1 ∧ gB q.2.1) : JM mi_X5_restore 6 1 6 [.ref 0] h (fun r h' => r = (asRest A).1 ∧ CStep h (asRest A).2 h') := by
  obtain ⟨e, hL, hcp, hsv, hsv2, hH, hO, T, p, m, hP⟩ := id H
  refine JM_of gd_X5_restore rfl (by decide +kernel) (Nat.le_of_ble_eq_true rfl) (oj_cats rfl) (by decide) ?_
  repeat (first | (refine J_step rfl rfl ?_) | (refine J_getf rfl rfl rfl (by assumption) rfl ?_))
  cases hs : A.2.1 with
  | none =>
    rw [hs] at e
    refine J_if (y := 0) rfl (fun hq => absurd rfl hq) (fun hq => ?_)
    first | (refine J_throwW (E := "java/lang/IllegalStateException") (text := "no state was saved") (sn := 29) rfl rfl rfl rfl rfl rfl (by decide +kernel) (by decide +kernel) rfl rfl rfl rfl (Nat.le_of_ble_eq_true rfl) (Nat.le_of_ble_eq_true rfl) ?_)
    unfold asRest
    rw [hs]
    exact ⟨rfl, CStep.rf H⟩
  | some q =>
    rw [hs] at e
    obtain ⟨gu, gb⟩ := hg q hs
    obtain ⟨sl, -, hLn⟩ := id hL
    have e1 := hLn.1
    refine J_if (y := 0) rfl (fun hq => ?_) (fun hq => absurd (show ¬ bI true = 0 by decide) hq)
    repeat (first | (refine J_step rfl rfl ?_) | (refine J_getf rfl rfl rfl (by assumption) rfl ?_))
    refine J_callV rfl rfl rfl rfl rfl e1 rfl rfl rfl rfl (c_lnCopy hL (hsv2 q hs) (Or.inr (by omega)) gu gb) (Nat.zero_le _) (Nat.zero_le _) (fun E h9 q => by cases q.1) (fun v h5 q => ?_)
    obtain ⟨q1, H5⟩ := q
    cases q1
    have e5 := (H5.2 0 (by omega)).trans e
    clear e1
    obtain ⟨f, g, hB, hff, h31, h32, hl, hqq, hv⟩ := HsAt_mv (h' := h5) (fun x z1 z2 => H5.2 x (by omega)) hH
    repeat (first | (refine J_step rfl rfl ?_) | (refine J_getf rfl rfl rfl (by assumption) rfl ?_))
    refine J_putf rfl rfl rfl h31 rfl rfl (fun _ => rfl) rfl rfl ?_
    refine J_heap (h2 := oj_up h5 31 (.inr (1, [.ref 32, .int (nI 0)]))) rfl ?_
    have kp6 : ∀ x, x ≠ 31 → oj_up h5 31 (.inr (1, [.ref 32, .int (nI 0)])) x = h5 x := fun x z => if_neg (by omega)
    have e6 : oj_up h5 31 (.inr (1, [.ref 32, .int (nI 0)])) 31 = .inr (1, [.ref 32, .int (nI 0)]) := if_pos rfl
    generalize oj_up h5 31 (.inr (1, [.ref 32, .int (nI 0)])) = h6 at kp6 e6 ⊢
    have kp : ∀ x, 10 < x → x ≠ 31 → h6 x = h x := fun x z1 z2 => (kp6 x z2).trans (H5.2 x (by omega))
    have e06 := (kp6 0 (by omega)).trans e5
    clear e5
    have hL6 : LnR h6 1 q := LnR_mv (fun x z1 z2 => kp6 x (by omega)) H5.1
    obtain ⟨sl6, -, hLn6⟩ := id hL6
    have g1 := hLn6.1
    obtain ⟨R, ⟨f0, -⟩, -⟩ := hLn6.2.2
    repeat (first | (refine J_step rfl rfl ?_) | (refine J_getf rfl rfl rfl (by assumption) rfl ?_))
    refine J_iret rfl rfl rfl rfl ?_
    unfold asRest
    rw [hs]
    refine ⟨rfl, ⟨e06, hL6, ?_, ?_, fun q' w => ?_, ⟨f, g, hB, hff, e6, (kp6 32 (by omega)).trans h32, Nat.zero_le _, fun i hi => ?_, fun i q' w => by cases w⟩, OutAt_mv (fun x z1 z2 => kp x (by omega) (by omega)) hO, T, p, m, PgAt_mv (fun x z1 z2 => kp x (by omega) (by omega)) hP⟩, fun x z => kp x (by omega) (by omega)⟩
    · obtain ⟨q, w⟩ := hcp
      exact ⟨q, LnR_mv (fun x z1 z2 => kp x (by omega) (by omega)) w⟩
    · obtain ⟨q, w⟩ := hsv
      exact ⟨q, LnR_mv (fun x z1 z2 => kp x (by omega) (by omega)) w⟩
    · exact LnR_mv (fun x z1 z2 => kp x (by omega) (by omega)) (hsv2 q' (hs.trans w))
    · obtain ⟨q, w⟩ := hqq i hi
      have := hB.1 i hi
      exact ⟨q, LnR_mv (fun x z1 z2 => kp6 x (by omega)) w⟩
set_option maxRecDepth 100000 in
set_option maxHeartbeats 2000000 in
theorem t_type {h : AHp} {A : AS} {c : Int32} (H : CRep h A) (hc : cOk c) : JM mi_X5_type 6 1 6 [.ref 0, .int c] h (fun r h' => r = (asType A c).1 ∧ CStep h (asType A c).2 h') := by
  obtain ⟨e, hL, hcp, hsv, hsv2, hH, hO, T, p, m, hP⟩ := id H
  have p0 := hP.1
  have hw60 := hP.2.2.2.2.2.2
  refine JM_of gd_X5_type rfl (by decide +kernel) (Nat.le_of_ble_eq_true rfl) (oj_cats rfl) (by decide) ?_
  repeat (first | (refine J_step rfl rfl ?_) | (refine J_getf rfl rfl rfl (by assumption) rfl ?_))
  refine J_ic rfl (fun hq => ?_) (fun hq => ?_)
  · have hlt : A.2.2.2.2.1.length < 60 := by
      rcases Nat.lt_or_ge A.2.2.2.2.1.length 60 with z | z
      · exact z
      · exact absurd (show nI A.2.2.2.2.1.length < nI 60 from hq) (nI_nlt z (by omega))
    repeat (first | (refine J_step rfl rfl ?_) | (refine J_getf rfl rfl rfl (by assumption) rfl ?_))
    refine J_callV rfl rfl rfl rfl rfl p0 rfl rfl rfl rfl (c_pgAppend (d := 0) (PgP.rf hP) hc hlt) (Nat.zero_le _) (Nat.zero_le _) (fun E h9 q => by cases q.1) (fun v h5 q => ?_)
    obtain ⟨q1, H5⟩ := q
    cases q1
    have kp : ∀ x, x < 115 ∨ 120 < x → h5 x = h x := fun x z => H5.2 x (by omega)
    have e5 := (kp 0 (by omega)).trans e
    have p5 := H5.1.1
    clear p0 e
    repeat (first | (refine J_step rfl rfl ?_) | (refine J_getf rfl rfl rfl (by assumption) rfl ?_))
    refine J_iret rfl rfl rfl rfl ?_
    unfold asType
    rw [if_neg (by omega)]
    refine ⟨by rw [List.length_append]; rfl, ⟨e5, LnR_mv (fun x z1 z2 => kp x (by omega)) hL, ?_, ?_, fun q w => LnR_mv (fun x z1 z2 => kp x (by omega)) (hsv2 q w), HsAt_mv (fun x z1 z2 => kp x (by omega)) hH, OutAt_mv (fun x z1 z2 => kp x (by omega)) hO, _, _, _, H5.1⟩, fun x z => kp x (by omega)⟩
    · obtain ⟨q, w⟩ := hcp
      exact ⟨q, LnR_mv (fun x z1 z2 => kp x (by omega)) w⟩
    · obtain ⟨q, w⟩ := hsv
      exact ⟨q, LnR_mv (fun x z1 z2 => kp x (by omega)) w⟩
  · have hge : 60 ≤ A.2.2.2.2.1.length := by
      rcases Nat.lt_or_ge A.2.2.2.2.1.length 60 with z | z
      · exact absurd (show nI A.2.2.2.2.1.length < nI 60 from nI_lt z (by omega)) hq
      · exact z
    first | (refine J_throw (E := "java/lang/IllegalStateException") (text := "the program buffer is full") (sn := 13) rfl rfl rfl rfl rfl rfl (by decide +kernel) (by decide +kernel) rfl rfl rfl rfl (Nat.le_of_ble_eq_true rfl) (Nat.le_of_ble_eq_true rfl) ?_)
    unfold asType
    rw [if_pos hge]
    exact ⟨rfl, CStep.rf H⟩
/-- a line that holds something else in its copy: the rest stays -/
theorem CRep_cp {h h' : AHp} {A : AS} (H : CRep h A) (X : LnX h 11 h') : CStep h A h' := by
  obtain ⟨e, hL, hcp, hsv, hsv2, hH, hO, T, p, m, hP⟩ := H
  obtain ⟨hq, kp⟩ := X
  refine ⟨⟨(kp 0 (by omega)).trans e, LnR_mv (fun x z1 z2 => kp x (by omega)) hL, hq, ?_, fun q w => LnR_mv (fun x z1 z2 => kp x (by omega)) (hsv2 q w), HsAt_mv (fun x z1 z2 => kp x (by omega)) hH, OutAt_mv (fun x z1 z2 => kp x (by omega)) hO, T, p, m, PgAt_mv (fun x z1 z2 => kp x (by omega)) hP⟩, fun x z => kp x (by omega)⟩
  obtain ⟨q, w⟩ := hsv
  exact ⟨q, LnR_mv (fun x z1 z2 => kp x (by omega)) w⟩
set_option maxRecDepth 100000 in
set_option maxHeartbeats 2000000 in
theorem t_byPassingA {h : AHp} {A : AS} {m : Nat} (H : CRep h A) (hu : gU A.1.2.1) (hb : gB A.1.2.1) (hm : BS A.1.2 m) (hm2 : m ≤ 100) : JM mi_X5_blockedMinutesByPassing 4 0 0 [.ref 0] h (fun r h' => r = .inl (some (.int (nI m))) ∧ CStep h A h') := by
  obtain ⟨q, w⟩ := H.2.2.1
  exact JM_imp (t_byPassing H.1 H.2.1 w hu hb hm hm2) fun r h' z => ⟨z.1, CRep_cp H z.2⟩
set_option maxRecDepth 100000 in
set_option maxHeartbeats 2000000 in
theorem t_isConsistent {h : AHp} {A : AS} {m : Nat} (H : CRep h A) (hu : gU A.1.2.1) (hb : gB A.1.2.1) (hm : BS A.1.2 m) (hm2 : m ≤ 100) (s1 : SoundV A.1.2.1 A.1.1 A.1.2.2.2.1 A.1.2.2.2.2) (s2 : SoundC A.1.2.1 A.1.2.2.1) (s3 : SoundO A.1.2.2.1 (A.1.2.1 6)) (s4 : sParts A.1.2.1 A.1.2.2.1 = A.1.2.1 6) (s5 : sBm A.1.2.1 = nI m) : JM mi_X5_isConsistent 5 0 0 [.ref 0] h (fun r h' => r = .inl (some (.int (bI true))) ∧ CStep h A h') := by
  have e := H.1
  obtain ⟨sl, hsl, hLn⟩ := id H.2.1
  have e1 := hLn.1
  obtain ⟨R, ⟨f0, -⟩, -⟩ := id hLn.2.2
  have s1' : SoundV A.1.2.1 sl A.1.2.2.2.1 A.1.2.2.2.2 := ⟨fun i hi => by rw [hsl i hi]; exact s1.1 i hi, s1.2⟩
  refine JM_of gd_X5_isConsistent rfl (by decide +kernel) (Nat.le_of_ble_eq_true rfl) (oj_cats rfl) (by decide) ?_
  repeat (first | (refine J_step rfl rfl ?_) | (refine J_getf rfl rfl rfl (by assumption) rfl ?_))
  refine J_cV rfl rfl rfl rfl rfl (by assumption) rfl rfl rfl rfl rfl rfl (c_hasSoundValues (d := 0) hLn s1') ?_
  refine J_if (y := 0) rfl (fun hq => absurd hq (show ¬ bI true = 0 by decide)) (fun hq => ?_)
  repeat (first | (refine J_step rfl rfl ?_) | (refine J_getf rfl rfl rfl (by assumption) rfl ?_))
  refine J_cV rfl rfl rfl rfl rfl (by assumption) rfl rfl rfl rfl rfl rfl (c_hasSoundCabins hLn s2) ?_
  refine J_if (y := 0) rfl (fun hq => absurd hq (show ¬ bI true = 0 by decide)) (fun hq => ?_)
  repeat (first | (refine J_step rfl rfl ?_) | (refine J_getf rfl rfl rfl (by assumption) rfl ?_))
  refine J_cV rfl rfl rfl rfl rfl (by assumption) rfl rfl rfl rfl rfl rfl (c_isOrdered (d := 0) hLn.2.2 s3) ?_
  refine J_if (y := 0) rfl (fun hq => absurd hq (show ¬ bI true = 0 by decide)) (fun hq => ?_)
  repeat (first | (refine J_step rfl rfl ?_) | (refine J_getf rfl rfl rfl (by assumption) rfl ?_))
  refine J_cV rfl rfl rfl rfl rfl (by assumption) rfl rfl rfl rfl rfl rfl (t_cameByParts e hLn) ?_
  repeat (first | (refine J_step rfl rfl ?_) | (refine J_getf rfl rfl rfl (by assumption) rfl ?_))
  refine J_cV rfl rfl rfl rfl rfl (by assumption) rfl rfl rfl rfl rfl rfl (t_came (d := 0) e hLn) ?_
  refine J_ic rfl (fun hq => absurd s4 hq) (fun hq => ?_)
  repeat (first | (refine J_step rfl rfl ?_) | (refine J_getf rfl rfl rfl (by assumption) rfl ?_))
  refine J_cV rfl rfl rfl rfl rfl (by assumption) rfl rfl rfl rfl rfl rfl (t_blockedMinutes (d := 0) e hLn) ?_
  repeat (first | (refine J_step rfl rfl ?_) | (refine J_getf rfl rfl rfl (by assumption) rfl ?_))
  refine J_callV rfl rfl rfl rfl rfl e rfl rfl rfl rfl (t_byPassingA H hu hb hm hm2) (Nat.zero_le _) (Nat.zero_le _) (fun E h9 q => by cases q.1) (fun v h5 q => ?_)
  obtain ⟨q1, H5⟩ := q
  cases q1
  refine J_ic rfl (fun hq => absurd s5 hq) (fun hq => ?_)
  repeat (first | (refine J_step rfl rfl ?_) | (refine J_getf rfl rfl rfl (by assumption) rfl ?_))
  exact J_zret rfl rfl rfl rfl true rfl ⟨rfl, H5⟩
