abbrev RC : Type := Bool × Nat × Nat × Int32 × Int32 × Int32
def gW (w : List Int32) (q p : Nat) (k : Nat → RC) : RC := if (rdS w (wd q) p).1 = true then k (rdS w (wd q) p).2 else (false, (rdS w (wd q) p).2, 0, 0, 0, 0)
def gD (w : List Int32) (n p : Nat) (k : Int32 → Nat → RC) : RC := if 0 < (rdD w n 0 0 p).2.1 then k (rdD w n 0 0 p).1 (rdD w n 0 0 p).2.2 else (false, (rdD w n 0 0 p).2.2, 0, 0, 0, 0)
/-- one command, read from p on -/
def rdC (w : List Int32) (p : Nat) : RC :=
  if sg w p = 112 then gW w 14 p fun p => gD w 3 p fun x p => gW w 15 p fun p => gD w 1 p fun y p => gW w 16 p fun p => gD w 1 p fun z p => (true, p, 0, x, y, z)
  else if sg w p = 114 then gW w 17 p fun p => gD w 3 p fun x p => (true, p, 1, x, 0, 0)
  else if sg w p = 115 then gW w 18 p fun p => gD w 1 p fun x p => gW w 19 p fun p => gD w 1 p fun y p => (true, p, 2, x, y, 0)
  else if sg w p = 116 then gW w 20 p fun p => (true, p, 3, 0, 0, 0)
  else if sg w p = 99 then gW w 21 p fun p => gD w 1 p fun x p => (true, p, 4, x, 0, 0)
  else if sg w p = 119 then gW w 22 p fun p => if sg w p = 32 then gD w 3 (p + 1) fun x p => (true, p, 5, x, 0, 0) else (true, p, 5, 1, 0, 0)
  else (false, p, 0, 0, 0, 0)
/-- what a command of kind k reads of its numbers -/
def nc (k : Nat) (x y z : Int32) : Int32 × Int32 × Int32 := match k with
  | 0 => (x, y, z)
  | 2 => (x, y, 0)
  | 3 => (0, 0, 0)
  | _ => (x, 0, 0)
def FM (h : AHp) (P : Nat) (w : List Int32) (T : Nat → Nat → Int32) (m : Nat) (R : RC) : QT := fun r h' => r = .inl (some (.int (bI R.1))) ∧ ∃ T' : Nat → Nat → Int32, (∀ i j, j ≠ m → T' i j = T i j) ∧ (R.1 = true → T' 0 m = nI R.2.2.1 ∧ nc R.2.2.1 (T' 1 m) (T' 2 m) (T' 3 m) = nc R.2.2.1 R.2.2.2.1 R.2.2.2.2.1 R.2.2.2.2.2) ∧ PgP h P w T' R.2.1 m h'
theorem bI_f {b : Bool} (h : bI b = 0) : b = false := by cases b with | false => rfl | true => exact absurd h (by decide)
theorem bI_t {b : Bool} (h : ¬ bI b = 0) : b = true := by cases b with | true => rfl | false => exact absurd rfl h
theorem tset_ne {T : Nat → Nat → Int32} {i m a j : Nat} {v : Int32} (h : j ≠ m) : tset T i m v a j = T a j := by
  unfold tset
  split
  · exact if_neg h
  · rfl
theorem tset_at {T : Nat → Nat → Int32} {i m : Nat} {v : Int32} : tset T i m v i m = v := by
  unfold tset
  rw [if_pos rfl]
  exact if_pos rfl
theorem tset_ni {T : Nat → Nat → Int32} {i m a j : Nat} {v : Int32} (h : a ≠ i) : tset T i m v a j = T a j := by
  unfold tset
  rw [if_neg h]
set_option maxRecDepth 100000 in
set_option maxHeartbeats 2000000 in
theorem c_readForm {h h1 : AHp} {P p m : Nat} {w : List Int32} {T : Nat → Nat → Int32} (H : PgP h P w T p m h1) (hw : wOk w) (hp : p ≤ w.length) (hm : m < 16) : JM mi_X4_readForm 6 0 0 [.ref P] h1 (FM h P w T m (rdC w p)) := by
  have hw60 := H.1.2.2.2.2.2.2
  have e0 := H.1.1
  refine JM_of gd_X4_readForm rfl (by decide +kernel) (Nat.le_of_ble_eq_true rfl) (oj_cats rfl) (by decide) ?_
  repeat (first | (refine J_step rfl rfl ?_) | (refine J_getf rfl rfl rfl (by assumption) rfl ?_))
  refine J_cV rfl rfl rfl rfl rfl (by assumption) rfl rfl rfl rfl rfl rfl (c_signAt (d := 0) H.1 hw (by omega)) ?_
  generalize hr : rdC w p = R
  unfold rdC at hr
  by_cases s0 : sg w p = 112
  · rw [if_pos s0] at hr
    rw [s0]
    refine J_lsw (tgt := 68) (off := 60) rfl (by decide) (by decide) (by decide) ?_
    repeat (first | (refine J_step rfl rfl ?_) | (refine J_getf rfl rfl rfl (by assumption) rfl ?_))
    refine J_ldcS (text := "picker ") (sn := 14) rfl (by decide +kernel) ?_
    refine J_callV rfl rfl rfl rfl rfl H.1.1 rfl rfl rfl rfl (c_readStart (k := 0) (q := 14) H hw hp hm (by omega)) (Nat.le_refl _) (Nat.le_refl _) (fun E h9 q => by cases q.1) (fun v h9 q => ?_)
    obtain ⟨q1, H1⟩ := q
    cases q1
    have hp1 : (rdS w (wd 14) p).2 ≤ w.length := rdS_le _ _ (wd_nz 14 (by omega)) hp
    refine J_if (y := 0) rfl (fun hz => ?_) (fun hz => ?_)
    · have hb := bI_f hz
      repeat (first | (refine J_step rfl rfl ?_) | (refine J_getf rfl rfl rfl (by assumption) rfl ?_))
      refine J_zret rfl rfl rfl rfl false rfl ?_
      rw [gW, if_neg (by rw [hb]; decide)] at hr
      rw [← hr]
      exact ⟨rfl, _, (fun i j hj => by simp only [tset_ne hj]), (fun z => by cases z), H1⟩
    rw [gW, if_pos (bI_t hz)] at hr
    have g1 := H1.1.1
    repeat (first | (refine J_step rfl rfl ?_) | (refine J_getf rfl rfl rfl (by assumption) rfl ?_))
    refine J_callV rfl rfl rfl rfl rfl H1.1.1 rfl rfl rfl rfl (c_readDigits (i := 1) (most := 3) H1 hw hp1 (by omega) hm (by omega)) (Nat.le_refl _) (Nat.le_refl _) (fun E h9 q => by cases q.1) (fun v h9 q => ?_)
    obtain ⟨q1, H2⟩ := q
    cases q1
    have hp2 : (rdD w 3 0 0 (rdS w (wd 14) p).2).2.2 ≤ w.length := rdD_le _ _ _ _ hp1
    refine J_if (y := 0) rfl (fun hz => ?_) (fun hz => ?_)
    · have hb := bI_f hz
      repeat (first | (refine J_step rfl rfl ?_) | (refine J_getf rfl rfl rfl (by assumption) rfl ?_))
      refine J_zret rfl rfl rfl rfl false rfl ?_
      rw [gD, if_neg (of_decide_eq_false hb)] at hr
      rw [← hr]
      exact ⟨rfl, _, (fun i j hj => by simp only [tset_ne hj]), (fun z => by cases z), H2⟩
    rw [gD, if_pos (of_decide_eq_true (bI_t hz))] at hr
    repeat (first | (refine J_step rfl rfl ?_) | (refine J_getf rfl rfl rfl (by assumption) rfl ?_))
    refine J_ldcS (text := " ") (sn := 15) rfl (by decide +kernel) ?_
    refine J_callV rfl rfl rfl rfl rfl H2.1.1 rfl rfl rfl rfl (c_readWord (q := 15) H2 hw hp2 (by omega)) (Nat.le_refl _) (Nat.le_refl _) (fun E h9 q => by cases q.1) (fun v h9 q => ?_)
    obtain ⟨q1, H3⟩ := q
    cases q1
    have hp3 : (rdS w (wd 15) (rdD w 3 0 0 (rdS w (wd 14) p).2).2.2).2 ≤ w.length := rdS_le _ _ (wd_nz 15 (by omega)) hp2
    refine J_if (y := 0) rfl (fun hz => ?_) (fun hz => ?_)
    · have hb := bI_f hz
      repeat (first | (refine J_step rfl rfl ?_) | (refine J_getf rfl rfl rfl (by assumption) rfl ?_))
      refine J_zret rfl rfl rfl rfl false rfl ?_
      rw [gW, if_neg (by rw [hb]; decide)] at hr
      rw [← hr]
      exact ⟨rfl, _, (fun i j hj => by simp only [tset_ne hj]), (fun z => by cases z), H3⟩
    rw [gW, if_pos (bI_t hz)] at hr
    have g3 := H3.1.1
    repeat (first | (refine J_step rfl rfl ?_) | (refine J_getf rfl rfl rfl (by assumption) rfl ?_))
    refine J_callV rfl rfl rfl rfl rfl H3.1.1 rfl rfl rfl rfl (c_readDigits (i := 2) (most := 1) H3 hw hp3 (by omega) hm (by omega)) (Nat.le_refl _) (Nat.le_refl _) (fun E h9 q => by cases q.1) (fun v h9 q => ?_)
    obtain ⟨q1, H4⟩ := q
    cases q1
    have hp4 : (rdD w 1 0 0 (rdS w (wd 15) (rdD w 3 0 0 (rdS w (wd 14) p).2).2.2).2).2.2 ≤ w.length := rdD_le _ _ _ _ hp3
    refine J_if (y := 0) rfl (fun hz => ?_) (fun hz => ?_)
    · have hb := bI_f hz
      repeat (first | (refine J_step rfl rfl ?_) | (refine J_getf rfl rfl rfl (by assumption) rfl ?_))
      refine J_zret rfl rfl rfl rfl false rfl ?_
      rw [gD, if_neg (of_decide_eq_false hb)] at hr
      rw [← hr]
      exact ⟨rfl, _, (fun i j hj => by simp only [tset_ne hj]), (fun z => by cases z), H4⟩
    rw [gD, if_pos (of_decide_eq_true (bI_t hz))] at hr
    repeat (first | (refine J_step rfl rfl ?_) | (refine J_getf rfl rfl rfl (by assumption) rfl ?_))
    refine J_ldcS (text := ">") (sn := 16) rfl (by decide +kernel) ?_
    refine J_callV rfl rfl rfl rfl rfl H4.1.1 rfl rfl rfl rfl (c_readWord (q := 16) H4 hw hp4 (by omega)) (Nat.le_refl _) (Nat.le_refl _) (fun E h9 q => by cases q.1) (fun v h9 q => ?_)
    obtain ⟨q1, H5⟩ := q
    cases q1
    have hp5 : (rdS w (wd 16) (rdD w 1 0 0 (rdS w (wd 15) (rdD w 3 0 0 (rdS w (wd 14) p).2).2.2).2).2.2).2 ≤ w.length := rdS_le _ _ (wd_nz 16 (by omega)) hp4
    refine J_if (y := 0) rfl (fun hz => ?_) (fun hz => ?_)
    · have hb := bI_f hz
      repeat (first | (refine J_step rfl rfl ?_) | (refine J_getf rfl rfl rfl (by assumption) rfl ?_))
      refine J_zret rfl rfl rfl rfl false rfl ?_
      rw [gW, if_neg (by rw [hb]; decide)] at hr
      rw [← hr]
      exact ⟨rfl, _, (fun i j hj => by simp only [tset_ne hj]), (fun z => by cases z), H5⟩
    rw [gW, if_pos (bI_t hz)] at hr
    have g5 := H5.1.1
    repeat (first | (refine J_step rfl rfl ?_) | (refine J_getf rfl rfl rfl (by assumption) rfl ?_))
    refine J_callV rfl rfl rfl rfl rfl H5.1.1 rfl rfl rfl rfl (c_readDigits (i := 3) (most := 1) H5 hw hp5 (by omega) hm (by omega)) (Nat.le_refl _) (Nat.le_refl _) (fun E h9 q => by cases q.1) (fun v h9 q => ?_)
    obtain ⟨q1, H6⟩ := q
    cases q1
    have hp6 : (rdD w 1 0 0 (rdS w (wd 16) (rdD w 1 0 0 (rdS w (wd 15) (rdD w 3 0 0 (rdS w (wd 14) p).2).2.2).2).2.2).2).2.2 ≤ w.length := rdD_le _ _ _ _ hp5
    refine J_if (y := 0) rfl (fun hz => ?_) (fun hz => ?_)
    · have hb := bI_f hz
      repeat (first | (refine J_step rfl rfl ?_) | (refine J_getf rfl rfl rfl (by assumption) rfl ?_))
      refine J_zret rfl rfl rfl rfl false rfl ?_
      rw [gD, if_neg (of_decide_eq_false hb)] at hr
      rw [← hr]
      exact ⟨rfl, _, (fun i j hj => by simp only [tset_ne hj]), (fun z => by cases z), H6⟩
    rw [gD, if_pos (of_decide_eq_true (bI_t hz))] at hr
    repeat (first | (refine J_step rfl rfl ?_) | (refine J_getf rfl rfl rfl (by assumption) rfl ?_))
    refine J_zret rfl rfl rfl rfl true rfl ?_
    rw [← hr]
    exact ⟨rfl, _, (fun i j hj => by simp only [tset_ne hj]), (fun _ => ⟨by simp [tset_at, tset_ni], by simp [tset_at, tset_ni, nc]⟩), H6⟩
  rw [if_neg s0] at hr
  by_cases s1 : sg w p = 114
  · rw [if_pos s1] at hr
    rw [s1]
    refine J_lsw (tgt := 138) (off := 130) rfl (by decide) (by decide) (by decide) ?_
    repeat (first | (refine J_step rfl rfl ?_) | (refine J_getf rfl rfl rfl (by assumption) rfl ?_))
    refine J_ldcS (text := "remove ") (sn := 17) rfl (by decide +kernel) ?_
    refine J_callV rfl rfl rfl rfl rfl H.1.1 rfl rfl rfl rfl (c_readStart (k := 1) (q := 17) H hw hp hm (by omega)) (Nat.le_refl _) (Nat.le_refl _) (fun E h9 q => by cases q.1) (fun v h9 q => ?_)
    obtain ⟨q1, H1⟩ := q
    cases q1
    have hp1 : (rdS w (wd 17) p).2 ≤ w.length := rdS_le _ _ (wd_nz 17 (by omega)) hp
    refine J_if (y := 0) rfl (fun hz => ?_) (fun hz => ?_)
    · have hb := bI_f hz
      repeat (first | (refine J_step rfl rfl ?_) | (refine J_getf rfl rfl rfl (by assumption) rfl ?_))
      refine J_zret rfl rfl rfl rfl false rfl ?_
      rw [gW, if_neg (by rw [hb]; decide)] at hr
      rw [← hr]
      exact ⟨rfl, _, (fun i j hj => by simp only [tset_ne hj]), (fun z => by cases z), H1⟩
    rw [gW, if_pos (bI_t hz)] at hr
    have g1 := H1.1.1
    repeat (first | (refine J_step rfl rfl ?_) | (refine J_getf rfl rfl rfl (by assumption) rfl ?_))
    refine J_callV rfl rfl rfl rfl rfl H1.1.1 rfl rfl rfl rfl (c_readDigits (i := 1) (most := 3) H1 hw hp1 (by omega) hm (by omega)) (Nat.le_refl _) (Nat.le_refl _) (fun E h9 q => by cases q.1) (fun v h9 q => ?_)
    obtain ⟨q1, H2⟩ := q
    cases q1
    have hp2 : (rdD w 3 0 0 (rdS w (wd 17) p).2).2.2 ≤ w.length := rdD_le _ _ _ _ hp1
    refine J_if (y := 0) rfl (fun hz => ?_) (fun hz => ?_)
    · have hb := bI_f hz
      repeat (first | (refine J_step rfl rfl ?_) | (refine J_getf rfl rfl rfl (by assumption) rfl ?_))
      refine J_zret rfl rfl rfl rfl false rfl ?_
      rw [gD, if_neg (of_decide_eq_false hb)] at hr
      rw [← hr]
      exact ⟨rfl, _, (fun i j hj => by simp only [tset_ne hj]), (fun z => by cases z), H2⟩
    rw [gD, if_pos (of_decide_eq_true (bI_t hz))] at hr
    repeat (first | (refine J_step rfl rfl ?_) | (refine J_getf rfl rfl rfl (by assumption) rfl ?_))
    refine J_zret rfl rfl rfl rfl true rfl ?_
    rw [← hr]
    exact ⟨rfl, _, (fun i j hj => by simp only [tset_ne hj]), (fun _ => ⟨by simp [tset_at, tset_ni], by simp [tset_at, tset_ni, nc]⟩), H2⟩
  rw [if_neg s1] at hr
  by_cases s2 : sg w p = 115
  · rw [if_pos s2] at hr
    rw [s2]
    refine J_lsw (tgt := 166) (off := 158) rfl (by decide) (by decide) (by decide) ?_
    repeat (first | (refine J_step rfl rfl ?_) | (refine J_getf rfl rfl rfl (by assumption) rfl ?_))
    refine J_ldcS (text := "slope ") (sn := 18) rfl (by decide +kernel) ?_
    refine J_callV rfl rfl rfl rfl rfl H.1.1 rfl rfl rfl rfl (c_readStart (k := 2) (q := 18) H hw hp hm (by omega)) (Nat.le_refl _) (Nat.le_refl _) (fun E h9 q => by cases q.1) (fun v h9 q => ?_)
    obtain ⟨q1, H1⟩ := q
    cases q1
    have hp1 : (rdS w (wd 18) p).2 ≤ w.length := rdS_le _ _ (wd_nz 18 (by omega)) hp
    refine J_if (y := 0) rfl (fun hz => ?_) (fun hz => ?_)
    · have hb := bI_f hz
      repeat (first | (refine J_step rfl rfl ?_) | (refine J_getf rfl rfl rfl (by assumption) rfl ?_))
      refine J_zret rfl rfl rfl rfl false rfl ?_
      rw [gW, if_neg (by rw [hb]; decide)] at hr
      rw [← hr]
      exact ⟨rfl, _, (fun i j hj => by simp only [tset_ne hj]), (fun z => by cases z), H1⟩
    rw [gW, if_pos (bI_t hz)] at hr
    have g1 := H1.1.1
    repeat (first | (refine J_step rfl rfl ?_) | (refine J_getf rfl rfl rfl (by assumption) rfl ?_))
    refine J_callV rfl rfl rfl rfl rfl H1.1.1 rfl rfl rfl rfl (c_readDigits (i := 1) (most := 1) H1 hw hp1 (by omega) hm (by omega)) (Nat.le_refl _) (Nat.le_refl _) (fun E h9 q => by cases q.1) (fun v h9 q => ?_)
    obtain ⟨q1, H2⟩ := q
    cases q1
    have hp2 : (rdD w 1 0 0 (rdS w (wd 18) p).2).2.2 ≤ w.length := rdD_le _ _ _ _ hp1
    refine J_if (y := 0) rfl (fun hz => ?_) (fun hz => ?_)
    · have hb := bI_f hz
      repeat (first | (refine J_step rfl rfl ?_) | (refine J_getf rfl rfl rfl (by assumption) rfl ?_))
      refine J_zret rfl rfl rfl rfl false rfl ?_
      rw [gD, if_neg (of_decide_eq_false hb)] at hr
      rw [← hr]
      exact ⟨rfl, _, (fun i j hj => by simp only [tset_ne hj]), (fun z => by cases z), H2⟩
    rw [gD, if_pos (of_decide_eq_true (bI_t hz))] at hr
    repeat (first | (refine J_step rfl rfl ?_) | (refine J_getf rfl rfl rfl (by assumption) rfl ?_))
    refine J_ldcS (text := "=") (sn := 19) rfl (by decide +kernel) ?_
    refine J_callV rfl rfl rfl rfl rfl H2.1.1 rfl rfl rfl rfl (c_readWord (q := 19) H2 hw hp2 (by omega)) (Nat.le_refl _) (Nat.le_refl _) (fun E h9 q => by cases q.1) (fun v h9 q => ?_)
    obtain ⟨q1, H3⟩ := q
    cases q1
    have hp3 : (rdS w (wd 19) (rdD w 1 0 0 (rdS w (wd 18) p).2).2.2).2 ≤ w.length := rdS_le _ _ (wd_nz 19 (by omega)) hp2
    refine J_if (y := 0) rfl (fun hz => ?_) (fun hz => ?_)
    · have hb := bI_f hz
      repeat (first | (refine J_step rfl rfl ?_) | (refine J_getf rfl rfl rfl (by assumption) rfl ?_))
      refine J_zret rfl rfl rfl rfl false rfl ?_
      rw [gW, if_neg (by rw [hb]; decide)] at hr
      rw [← hr]
      exact ⟨rfl, _, (fun i j hj => by simp only [tset_ne hj]), (fun z => by cases z), H3⟩
    rw [gW, if_pos (bI_t hz)] at hr
    have g3 := H3.1.1
    repeat (first | (refine J_step rfl rfl ?_) | (refine J_getf rfl rfl rfl (by assumption) rfl ?_))
    refine J_callV rfl rfl rfl rfl rfl H3.1.1 rfl rfl rfl rfl (c_readDigits (i := 2) (most := 1) H3 hw hp3 (by omega) hm (by omega)) (Nat.le_refl _) (Nat.le_refl _) (fun E h9 q => by cases q.1) (fun v h9 q => ?_)
    obtain ⟨q1, H4⟩ := q
    cases q1
    have hp4 : (rdD w 1 0 0 (rdS w (wd 19) (rdD w 1 0 0 (rdS w (wd 18) p).2).2.2).2).2.2 ≤ w.length := rdD_le _ _ _ _ hp3
    refine J_if (y := 0) rfl (fun hz => ?_) (fun hz => ?_)
    · have hb := bI_f hz
      repeat (first | (refine J_step rfl rfl ?_) | (refine J_getf rfl rfl rfl (by assumption) rfl ?_))
      refine J_zret rfl rfl rfl rfl false rfl ?_
      rw [gD, if_neg (of_decide_eq_false hb)] at hr
      rw [← hr]
      exact ⟨rfl, _, (fun i j hj => by simp only [tset_ne hj]), (fun z => by cases z), H4⟩
    rw [gD, if_pos (of_decide_eq_true (bI_t hz))] at hr
    repeat (first | (refine J_step rfl rfl ?_) | (refine J_getf rfl rfl rfl (by assumption) rfl ?_))
    refine J_zret rfl rfl rfl rfl true rfl ?_
    rw [← hr]
    exact ⟨rfl, _, (fun i j hj => by simp only [tset_ne hj]), (fun _ => ⟨by simp [tset_at, tset_ni], by simp [tset_at, tset_ni, nc]⟩), H4⟩
  rw [if_neg s2] at hr
  by_cases s3 : sg w p = 116
  · rw [if_pos s3] at hr
    rw [s3]
    refine J_lsw (tgt := 215) (off := 207) rfl (by decide) (by decide) (by decide) ?_
    repeat (first | (refine J_step rfl rfl ?_) | (refine J_getf rfl rfl rfl (by assumption) rfl ?_))
    refine J_ldcS (text := "turn") (sn := 20) rfl (by decide +kernel) ?_
    refine J_callV rfl rfl rfl rfl rfl H.1.1 rfl rfl rfl rfl (c_readStart (k := 3) (q := 20) H hw hp hm (by omega)) (Nat.le_refl _) (Nat.le_refl _) (fun E h9 q => by cases q.1) (fun v h9 q => ?_)
    obtain ⟨q1, H1⟩ := q
    cases q1
    have hp1 : (rdS w (wd 20) p).2 ≤ w.length := rdS_le _ _ (wd_nz 20 (by omega)) hp
    refine J_zret rfl rfl rfl rfl _ rfl ?_
    cases hb : (rdS w (wd 20) p).1 with
    | false =>
      rw [gW, if_neg (by rw [hb]; decide)] at hr
      rw [← hr]
      exact ⟨rfl, _, (fun i j hj => by simp only [tset_ne hj]), (fun z => by cases z), H1⟩
    | true =>
      rw [gW, if_pos hb] at hr
      rw [← hr]
      exact ⟨rfl, _, (fun i j hj => by simp only [tset_ne hj]), (fun _ => ⟨by simp [tset_at, tset_ni], rfl⟩), H1⟩
  rw [if_neg s3] at hr
  by_cases s4 : sg w p = 99
  · rw [if_pos s4] at hr
    rw [s4]
    refine J_lsw (tgt := 223) (off := 215) rfl (by decide) (by decide) (by decide) ?_
    repeat (first | (refine J_step rfl rfl ?_) | (refine J_getf rfl rfl rfl (by assumption) rfl ?_))
    refine J_ldcS (text := "capacity ") (sn := 21) rfl (by decide +kernel) ?_
    refine J_callV rfl rfl rfl rfl rfl H.1.1 rfl rfl rfl rfl (c_readStart (k := 4) (q := 21) H hw hp hm (by omega)) (Nat.le_refl _) (Nat.le_refl _) (fun E h9 q => by cases q.1) (fun v h9 q => ?_)
    obtain ⟨q1, H1⟩ := q
    cases q1
    have hp1 : (rdS w (wd 21) p).2 ≤ w.length := rdS_le _ _ (wd_nz 21 (by omega)) hp
    refine J_if (y := 0) rfl (fun hz => ?_) (fun hz => ?_)
    · have hb := bI_f hz
      repeat (first | (refine J_step rfl rfl ?_) | (refine J_getf rfl rfl rfl (by assumption) rfl ?_))
      refine J_zret rfl rfl rfl rfl false rfl ?_
      rw [gW, if_neg (by rw [hb]; decide)] at hr
      rw [← hr]
      exact ⟨rfl, _, (fun i j hj => by simp only [tset_ne hj]), (fun z => by cases z), H1⟩
    rw [gW, if_pos (bI_t hz)] at hr
    have g1 := H1.1.1
    repeat (first | (refine J_step rfl rfl ?_) | (refine J_getf rfl rfl rfl (by assumption) rfl ?_))
    refine J_callV rfl rfl rfl rfl rfl H1.1.1 rfl rfl rfl rfl (c_readDigits (i := 1) (most := 1) H1 hw hp1 (by omega) hm (by omega)) (Nat.le_refl _) (Nat.le_refl _) (fun E h9 q => by cases q.1) (fun v h9 q => ?_)
    obtain ⟨q1, H2⟩ := q
    cases q1
    have hp2 : (rdD w 1 0 0 (rdS w (wd 21) p).2).2.2 ≤ w.length := rdD_le _ _ _ _ hp1
    refine J_if (y := 0) rfl (fun hz => ?_) (fun hz => ?_)
    · have hb := bI_f hz
      repeat (first | (refine J_step rfl rfl ?_) | (refine J_getf rfl rfl rfl (by assumption) rfl ?_))
      refine J_zret rfl rfl rfl rfl false rfl ?_
      rw [gD, if_neg (of_decide_eq_false hb)] at hr
      rw [← hr]
      exact ⟨rfl, _, (fun i j hj => by simp only [tset_ne hj]), (fun z => by cases z), H2⟩
    rw [gD, if_pos (of_decide_eq_true (bI_t hz))] at hr
    repeat (first | (refine J_step rfl rfl ?_) | (refine J_getf rfl rfl rfl (by assumption) rfl ?_))
    refine J_zret rfl rfl rfl rfl true rfl ?_
    rw [← hr]
    exact ⟨rfl, _, (fun i j hj => by simp only [tset_ne hj]), (fun _ => ⟨by simp [tset_at, tset_ni], by simp [tset_at, tset_ni, nc]⟩), H2⟩
  rw [if_neg s4] at hr
  by_cases s5 : sg w p = 119
  · rw [if_pos s5] at hr
    rw [s5]
    refine J_lsw (tgt := 251) (off := 243) rfl (by decide) (by decide) (by decide) ?_
    repeat (first | (refine J_step rfl rfl ?_) | (refine J_getf rfl rfl rfl (by assumption) rfl ?_))
    refine J_ldcS (text := "wait") (sn := 22) rfl (by decide +kernel) ?_
    refine J_callV rfl rfl rfl rfl rfl H.1.1 rfl rfl rfl rfl (c_readStart (k := 5) (q := 22) H hw hp hm (by omega)) (Nat.le_refl _) (Nat.le_refl _) (fun E h9 q => by cases q.1) (fun v h9 q => ?_)
    obtain ⟨q1, H1⟩ := q
    cases q1
    have hp1 : (rdS w (wd 22) p).2 ≤ w.length := rdS_le _ _ (wd_nz 22 (by omega)) hp
    refine J_if (y := 0) rfl (fun hz => ?_) (fun hz => ?_)
    · have hb := bI_f hz
      repeat (first | (refine J_step rfl rfl ?_) | (refine J_getf rfl rfl rfl (by assumption) rfl ?_))
      refine J_zret rfl rfl rfl rfl false rfl ?_
      rw [gW, if_neg (by rw [hb]; decide)] at hr
      rw [← hr]
      exact ⟨rfl, _, (fun i j hj => by simp only [tset_ne hj]), (fun z => by cases z), H1⟩
    rw [gW, if_pos (bI_t hz)] at hr
    have g9 := H1.1.1
    repeat (first | (refine J_step rfl rfl ?_) | (refine J_getf rfl rfl rfl (by assumption) rfl ?_))
    refine J_callV rfl rfl rfl rfl rfl H1.1.1 rfl rfl rfl rfl (c_readMinutes H1 hw hp1 hm) (Nat.le_refl _) (Nat.le_refl _) (fun E h9 q => ?_) (fun v h9 q => ?_)
    · exfalso
      split at q
      · cases q.1
      · cases q.1
    by_cases hs : sg w (rdS w (wd 22) p).2 = 32
    · rw [if_pos hs] at q hr
      obtain ⟨q1, H2⟩ := q
      cases q1
      have hlt := sg_lt (w := w) (p := (rdS w (wd 22) p).2) (by rw [hs]; decide)
      refine J_if (y := 0) rfl (fun hz => ?_) (fun hz => ?_)
      · have hb := bI_f hz
        repeat (first | (refine J_step rfl rfl ?_) | (refine J_getf rfl rfl rfl (by assumption) rfl ?_))
        refine J_zret rfl rfl rfl rfl false rfl ?_
        rw [gD, if_neg (of_decide_eq_false hb)] at hr
        rw [← hr]
        exact ⟨rfl, _, (fun i j hj => by simp only [tset_ne hj]), (fun z => by cases z), H2⟩
      · rw [gD, if_pos (of_decide_eq_true (bI_t hz))] at hr
        repeat (first | (refine J_step rfl rfl ?_) | (refine J_getf rfl rfl rfl (by assumption) rfl ?_))
        refine J_zret rfl rfl rfl rfl true rfl ?_
        rw [← hr]
        exact ⟨rfl, _, (fun i j hj => by simp only [tset_ne hj]), (fun _ => ⟨by simp [tset_at, tset_ni], by simp [tset_at, tset_ni, nc]⟩), H2⟩
    · rw [if_neg hs] at q hr
      obtain ⟨q1, H2⟩ := q
      cases q1
      refine J_if (y := 0) rfl (fun hz => absurd hz (show ¬ bI true = 0 by decide)) (fun hz => ?_)
      repeat (first | (refine J_step rfl rfl ?_) | (refine J_getf rfl rfl rfl (by assumption) rfl ?_))
      refine J_zret rfl rfl rfl rfl true rfl ?_
      rw [← hr]
      exact ⟨rfl, _, (fun i j hj => by simp only [tset_ne hj]), (fun _ => ⟨by simp [tset_at, tset_ni], by simp [tset_at, tset_ni, nc]⟩), H2⟩
  rw [if_neg s5] at hr
  refine J_lsw (tgt := 274) (off := 266) rfl (by decide) ?_ (by decide) ?_
  · have e : ∀ n : Int32, ¬ sg w p = n → ¬ (n.toInt = (sg w p).toInt) := fun n h z => h (Int32.toInt_inj.mp z).symm
    show Op.lookupswitch.offset [(99, 215), (112, 60), (114, 130), (115, 158), (116, 207), (119, 243)] 266 (sg w p).toInt = 266
    rw [Op.lookupswitch.offset, if_neg (show ¬ (99 : Int) = _ from e 99 s4), Op.lookupswitch.offset, if_neg (show ¬ (112 : Int) = _ from e 112 s0), Op.lookupswitch.offset, if_neg (show ¬ (114 : Int) = _ from e 114 s1), Op.lookupswitch.offset, if_neg (show ¬ (115 : Int) = _ from e 115 s2), Op.lookupswitch.offset, if_neg (show ¬ (116 : Int) = _ from e 116 s3), Op.lookupswitch.offset, if_neg (show ¬ (119 : Int) = _ from e 119 s5)]
    rfl
  repeat (first | (refine J_step rfl rfl ?_) | (refine J_getf rfl rfl rfl (by assumption) rfl ?_))
  refine J_zret rfl rfl rfl rfl false rfl ?_
  rw [← hr]
  exact ⟨rfl, _, (fun i j hj => rfl), (fun z => by cases z), H⟩
