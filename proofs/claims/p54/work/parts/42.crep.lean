/-- the class's whole state: the line, what was saved, what can be undone (the latest first), the output, the typed signs, position and command on record -/
abbrev AS : Type := LQ × Option LQ × List LQ × List Int32 × List Int32 × Int32 × Int32
def HB (g : Nat → Nat) : Prop := (∀ i, i < 8 → 33 ≤ g i ∧ g i + 9 ≤ 112) ∧ ∀ i j, i < 8 → j < 8 → i ≠ j → g i + 9 < g j ∨ g j + 9 < g i
def HsAt (h : AHp) (hs : List LQ) : Prop := ∃ (f : Nat → Option Nat) (g : Nat → Nat), HB g ∧ (∀ i, i < 8 → f i = some (g i)) ∧ h 31 = .inr (1, [.ref 32, .int (nI hs.length)]) ∧ h 32 = .inl (4, 8, .inr (.inr (.inr (.inr f)))) ∧ hs.length ≤ 8 ∧ (∀ i, i < 8 → ∃ q, LnR h (g i) q) ∧ ∀ i q, hs[i]? = some q → LnR h (g i) q
def CRep (h : AHp) (A : AS) : Prop := h 0 = .inr (5, [.ref 1, .ref 11, .ref 21, .int (bI A.2.1.isSome), .ref 31, .ref 113, .ref 115, .int A.2.2.2.2.2.1, .int A.2.2.2.2.2.2]) ∧ LnR h 1 A.1 ∧ (∃ q, LnR h 11 q) ∧ (∃ q, LnR h 21 q) ∧ (∀ q, A.2.1 = some q → LnR h 21 q) ∧ HsAt h A.2.2.1 ∧ OutAt h 113 A.2.2.2.1 ∧ ∃ T p m, PgAt h 115 A.2.2.2.2.1 T p m
def CStep (h : AHp) (A : AS) (h' : AHp) : Prop := CRep h' A ∧ ∀ x, 120 < x → h' x = h x
theorem CStep.trans {h h1 h2 : AHp} {A B : AS} (H : CStep h A h1) (H2 : CStep h1 B h2) : CStep h B h2 := ⟨H2.1, fun x z => (H2.2 x z).trans (H.2 x z)⟩
theorem CStep.rf {h : AHp} {A : AS} (H : CRep h A) : CStep h A h := ⟨H, fun _ _ => rfl⟩
theorem HsAt_mv {h h' : AHp} {hs : List LQ} (hh : ∀ x, 31 ≤ x → x ≤ 112 → h' x = h x) (H : HsAt h hs) : HsAt h' hs := by
  obtain ⟨f, g, hB, hf, e0, e1, hl, hq, hv⟩ := H
  refine ⟨f, g, hB, hf, (hh _ (by omega) (by omega)).trans e0, (hh _ (by omega) (by omega)).trans e1, hl, fun i hi => ?_, fun i q hi => ?_⟩
  · obtain ⟨q, z⟩ := hq i hi
    have := hB.1 i hi
    exact ⟨q, LnR_mv (fun x z1 z2 => hh x (by omega) (by omega)) z⟩
  · have hi8 : i < 8 := Nat.lt_of_lt_of_le (List.getElem?_eq_some_iff.mp hi).1 hl
    have := hB.1 i hi8
    exact LnR_mv (fun x z1 z2 => hh x (by omega) (by omega)) (hv i q hi)
theorem OutAt_mv {h h' : AHp} {o : Nat} {w : List Int32} (hh : ∀ x, o ≤ x → x ≤ o + 1 → h' x = h x) (H : OutAt h o w) : OutAt h' o w := by
  obtain ⟨e0, ⟨f, e1, hf⟩, hl⟩ := H
  exact ⟨(hh _ (by omega) (by omega)).trans e0, ⟨f, (hh _ (by omega) (by omega)).trans e1, hf⟩, hl⟩
theorem PgAt_mv {h h' : AHp} {P : Nat} {w : List Int32} {T : Nat → Nat → Int32} {p m : Nat} (hh : ∀ x, P ≤ x → x ≤ P + 5 → h' x = h x) (H : PgAt h P w T p m) : PgAt h' P w T p m := by
  obtain ⟨e0, ⟨f, e1, hf⟩, e2, e3, e4, e5, hl⟩ := H
  exact ⟨(hh _ (by omega) (by omega)).trans e0, ⟨f, (hh _ (by omega) (by omega)).trans e1, hf⟩, (hh _ (by omega) (by omega)).trans e2, (hh _ (by omega) (by omega)).trans e3, (hh _ (by omega) (by omega)).trans e4, (hh _ (by omega) (by omega)).trans e5, hl⟩
/-- a state remembered -/
theorem HsAt_rem {h h' : AHp} {hs : List LQ} {q : LQ} {f : Nat → Option Nat} {g : Nat → Nat} (hB : HB g) (hl : hs.length ≤ 8) (hq : ∀ i, i < 8 → ∃ q, LnR h (g i) q) (hv : ∀ i q, hs[i]? = some q → LnR h (g i) q) (P : (∃ f' : Nat → Option Nat, (∀ i, i < 7 → f' (i + 1) = some (g i)) ∧ f' 0 = some (g 7) ∧ h' (31 + 1) = .inl (4, 8, .inr (.inr (.inr (.inr f'))))) ∧ h' 31 = .inr (1, [.ref (31 + 1), .int (nI (min (hs.length + 1) 8))]) ∧ LnR h' (g 7) q ∧ ∀ x, x ≠ 31 → x ≠ 31 + 1 → (x < g 7 ∨ g 7 + 9 < x) → h' x = h x) : HsAt h' ((q :: hs).take 8) := by
  obtain ⟨⟨f', k1, k2, k3⟩, k4, k5, k6⟩ := P
  have b7 := hB.1 7 (by omega)
  have mv : ∀ i q, i < 7 → LnR h (g i) q → LnR h' (g i) q := fun i q hi H => LnR_mv (fun x z1 z2 => by
    have := hB.1 i (by omega)
    have := hB.2 i 7 (by omega) (by omega) (by omega)
    exact k6 x (by omega) (by omega) (by omega)) H
  have hlen : ((q :: hs).take 8).length = min (hs.length + 1) 8 := by rw [List.length_take, List.length_cons]; omega
  refine ⟨f', fun i => if i = 0 then g 7 else g (i - 1), ⟨fun i hi => ?_, fun i j hi hj hij => ?_⟩, fun i hi => ?_, ?_, k3, by rw [hlen]; omega, fun i hi => ?_, fun i q' hi => ?_⟩
  · by_cases z : i = 0
    · simp only [if_pos z]; exact b7
    · simp only [if_neg z]; exact hB.1 _ (by omega)
  · by_cases z : i = 0
    · have z2 : ¬ j = 0 := by omega
      simp only [if_pos z, if_neg z2]
      exact hB.2 7 (j - 1) (by omega) (by omega) (by omega)
    · by_cases z2 : j = 0
      · simp only [if_neg z, if_pos z2]
        exact hB.2 (i - 1) 7 (by omega) (by omega) (by omega)
      · simp only [if_neg z, if_neg z2]
        exact hB.2 (i - 1) (j - 1) (by omega) (by omega) (by omega)
  · by_cases z : i = 0
    · simp only [if_pos z]; rw [z]; exact k2
    · simp only [if_neg z]
      have := k1 (i - 1) (by omega)
      rwa [show i - 1 + 1 = i by omega] at this
  · rw [hlen]; exact k4
  · by_cases z : i = 0
    · simp only [if_pos z]; exact ⟨q, k5⟩
    · simp only [if_neg z]
      obtain ⟨q', w⟩ := hq (i - 1) (by omega)
      exact ⟨q', mv _ _ (by omega) w⟩
  · have hi8 : i < 8 := by
      have := (List.getElem?_eq_some_iff.mp hi).1
      omega
    rw [List.getElem?_take, if_pos hi8] at hi
    cases i with
    | zero =>
      have : q = q' := by simpa using hi
      subst this
      exact k5
    | succ i =>
      rw [List.getElem?_cons_succ] at hi
      exact mv i q' (by omega) (hv i q' hi)
theorem HsAt_back {h h' : AHp} {hs : List LQ} {g : Nat → Nat} (hB : HB g) (hl : hs.length ≤ 8) (hq : ∀ i, i < 8 → ∃ q, LnR h (g i) q) (hv : ∀ i q, hs[i]? = some q → LnR h (g i) q) (P : (∃ f' : Nat → Option Nat, (∀ i, i < 7 → f' i = some (g (i + 1))) ∧ f' 7 = some (g 0) ∧ h' (31 + 1) = .inl (4, 8, .inr (.inr (.inr (.inr f'))))) ∧ h' 31 = .inr (1, [.ref (31 + 1), .int (nI (hs.length - 1))]) ∧ ∀ x, 33 ≤ x → x ≤ 112 → h' x = h x) : HsAt h' hs.tail := by
  obtain ⟨⟨f', k1, k2, k3⟩, k4, k6⟩ := P
  have mv : ∀ i q, i < 8 → LnR h (g i) q → LnR h' (g i) q := fun i q hi H => LnR_mv (fun x z1 z2 => by
    have := hB.1 i (by omega)
    exact k6 x (by omega) (by omega)) H
  refine ⟨f', fun i => if i = 7 then g 0 else g (i + 1), ⟨fun i hi => ?_, fun i j hi hj hij => ?_⟩, fun i hi => ?_, by rw [List.length_tail]; exact k4, k3, by rw [List.length_tail]; omega, fun i hi => ?_, fun i q' hi => ?_⟩
  · by_cases z : i = 7
    · simp only [if_pos z]; exact hB.1 _ (by omega)
    · simp only [if_neg z]; exact hB.1 _ (by omega)
  · by_cases z : i = 7
    · have z2 : ¬ j = 7 := by omega
      simp only [if_pos z, if_neg z2]
      exact hB.2 0 (j + 1) (by omega) (by omega) (by omega)
    · by_cases z2 : j = 7
      · simp only [if_neg z, if_pos z2]
        exact hB.2 (i + 1) 0 (by omega) (by omega) (by omega)
      · simp only [if_neg z, if_neg z2]
        exact hB.2 (i + 1) (j + 1) (by omega) (by omega) (by omega)
  · by_cases z : i = 7
    · simp only [if_pos z]; rw [z]; exact k2
    · simp only [if_neg z]; exact k1 i (by omega)
  · by_cases z : i = 7
    · simp only [if_pos z]
      obtain ⟨q', w⟩ := hq 0 (by omega)
      exact ⟨q', mv _ _ (by omega) w⟩
    · simp only [if_neg z]
      obtain ⟨q', w⟩ := hq (i + 1) (by omega)
      exact ⟨q', mv _ _ (by omega) w⟩
  · have hi2 : hs[i + 1]? = some q' := by rw [List.getElem?_tail] at hi; exact hi
    have hi8 : i + 1 < 8 := Nat.lt_of_lt_of_le (List.getElem?_eq_some_iff.mp hi2).1 hl
    have z : ¬ i = 7 := by omega
    simp only [if_neg z]
    exact mv _ _ hi8 (hv _ _ hi2)
theorem sF_cases {F : Nat → Int32} {l : List Row} {k : Nat} {x y z : Int32} : sFault F l k x y z = 0 ∨ sFault F l k x y z = 1 ∨ sFault F l k x y z = 2 ∨ sFault F l k x y z = 3 ∨ sFault F l k x y z = 4 ∨ sFault F l k x y z = 5 := by
  unfold sFault
  split
  · unfold fAdd; split <;> (try split) <;> (try split) <;> simp
  · unfold fRem; split <;> (try split) <;> simp
  · unfold fSlp; split <;> (try split) <;> simp
  · unfold fTrn; split <;> (try split) <;> simp
  · unfold fCap; split <;> (try split) <;> simp
  · unfold fWai; split <;> simp
/-- a change, done or refused -/
def asChg (A : AS) (k : Nat) (x y z : Int32) : (Option Value ⊕ String) × AS := if sFault A.1.2.1 A.1.2.2.1 k x y z = 0 then (.inl (some (.int (apD A.1 k x y z).1)), ((apD A.1 k x y z).2, A.2.1, (A.1 :: A.2.2.1).take 8, A.2.2.2)) else (.inr (xOf (sFault A.1.2.1 A.1.2.2.1 k x y z)), A)
set_option maxRecDepth 100000 in
set_option maxHeartbeats 2000000 in
theorem c_change {h : AHp} {A : AS} {k : Nat} {x y z : Int32} (H : CRep h A) (hu : gU A.1.2.1) (hb : gB A.1.2.1) (hk : k ≤ 5) : JM mi_X5_change 7 1 6 [.ref 0, .int (nI k), .int x, .int y, .int z] h (fun r h' => r = (asChg A k x y z).1 ∧ CStep h (asChg A k x y z).2 h') := by
  obtain ⟨e, hL, hcp, hsv, hsv2, hH, hO, T, p, m, hP⟩ := id H
  obtain ⟨sl, hsl, hLn⟩ := id hL
  have e1 := hLn.1
  refine JM_of gd_X5_change rfl (by decide +kernel) (Nat.le_of_ble_eq_true rfl) (oj_cats rfl) (by decide) ?_
  repeat (first | (refine J_step rfl rfl ?_) | (refine J_getf rfl rfl rfl (by assumption) rfl ?_))
  refine J_cV rfl rfl rfl rfl rfl (by assumption) rfl rfl rfl rfl rfl rfl (c_faultOf hLn hk) ?_
  by_cases hf : sFault A.1.2.1 A.1.2.2.1 k x y z = 0
  · rw [hf]
    refine J_cS rfl rfl rfl rfl rfl rfl rfl rfl rfl rfl rfl (c_refuse (d := 0)) ?_
    obtain ⟨f, g, hB, hff, h31, h32, hl, hq, hv⟩ := hH
    have b7 := hB.1 7 (by omega)
    obtain ⟨q7, hq7⟩ := hq 7 (by omega)
    repeat (first | (refine J_step rfl rfl ?_) | (refine J_getf rfl rfl rfl (by assumption) rfl ?_))
    refine J_callV rfl rfl rfl rfl rfl h31 rfl rfl rfl rfl (c_remember (H := 31) (b := 1) h31 h32 hff hl (fun i hi => by
      have := hB.1 i hi
      obtain ⟨q, sl, -, w⟩ := hq i hi
      exact ⟨by omega, _, w.1⟩) hq7 hL (by omega) (by omega) hu hb) (Nat.zero_le _) (Nat.zero_le _) (fun E h9 q => by cases q.1) (fun v h9 q => ?_)
    obtain ⟨q1, k1, k2, k3, k4⟩ := q
    cases q1
    have hH9 := HsAt_rem (f := f) hB hl hq hv ⟨k1, k2, k3, k4⟩
    have hL9 : LnR h9 1 A.1 := LnR_mv (fun x z1 z2 => k4 x (by omega) (by omega) (by omega)) hL
    have e9 := (k4 0 (by omega) (by omega) (by omega)).trans e
    obtain ⟨sl9, hsl9, hLn9⟩ := id hL9
    have e19 := hLn9.1
    repeat (first | (refine J_step rfl rfl ?_) | (refine J_getf rfl rfl rfl (by assumption) rfl ?_))
    refine J_callV rfl rfl rfl rfl rfl e19 rfl rfl rfl rfl (c_applyR hL9 hu hk hf) (Nat.zero_le _) (Nat.zero_le _) (fun E h9 q => by cases q.1) (fun v h8 q => ?_)
    obtain ⟨q1, q2, q3⟩ := q
    cases q1
    have keep : ∀ x, 10 < x → x ≠ 31 → x ≠ 32 → (x < g 7 ∨ g 7 + 9 < x) → h8 x = h x := fun x z1 z2 z3 z4 => (q3 x (by omega)).trans (k4 x (by omega) (by omega) z4)
    refine J_iret rfl rfl rfl rfl ?_
    unfold asChg
    rw [if_pos hf]
    refine ⟨rfl, ⟨(q3 0 (by omega)).trans e9, q2, ?_, ?_, ?_, HsAt_mv (fun x z1 z2 => q3 x (by omega)) hH9, ?_, T, p, m, ?_⟩, fun x z => keep x (by omega) (by omega) (by omega) (by omega)⟩
    · obtain ⟨q, w⟩ := hcp
      exact ⟨q, LnR_mv (fun x z1 z2 => keep x (by omega) (by omega) (by omega) (by omega)) w⟩
    · obtain ⟨q, w⟩ := hsv
      exact ⟨q, LnR_mv (fun x z1 z2 => keep x (by omega) (by omega) (by omega) (by omega)) w⟩
    · intro q w
      exact LnR_mv (fun x z1 z2 => keep x (by omega) (by omega) (by omega) (by omega)) (hsv2 q w)
    · exact OutAt_mv (fun x z1 z2 => keep x (by omega) (by omega) (by omega) (by omega)) hO
    · exact PgAt_mv (fun x z1 z2 => keep x (by omega) (by omega) (by omega) (by omega)) hP
  · refine J_xS rfl rfl rfl rfl rfl rfl rfl rfl rfl rfl rfl rfl rfl (c_refuseX ((sF_cases (F := A.1.2.1) (l := A.1.2.2.1) (k := k) (x := x) (y := y) (z := z)).resolve_left hf)) ?_
    unfold asChg
    rw [if_neg hf]
    exact ⟨rfl, CStep.rf H⟩
