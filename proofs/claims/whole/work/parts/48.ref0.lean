/-! THE REFERENCE: its object at 121 with its numbers v, its seven rows A at 122..128 -/
def rO (v : Nat → Int32) : AC := .inr (6, [.ref 122, .ref 123, .ref 124, .ref 125, .int (v 0), .int (v 1), .int (v 2), .int (v 3), .int (v 4), .int (v 5), .ref 126, .int (v 6), .ref 127, .ref 128, .int (v 7), .int (v 8), .int (v 9)])
def MdAt (h : AHp) (v : Nat → Int32) (A : Nat → Nat → Int32) : Prop := h 121 = rO v ∧ h 122 = .inl (0, 160, .inl (A 0)) ∧ h 123 = .inl (0, 160, .inl (A 1)) ∧ h 124 = .inl (0, 160, .inl (A 2)) ∧ h 125 = .inl (0, 1280, .inl (A 3)) ∧ h 126 = .inl (0, 80, .inl (A 4)) ∧ h 127 = .inl (0, 60, .inl (A 5)) ∧ h 128 = .inl (0, 124, .inl (A 6))
def MdP (h : AHp) (v : Nat → Int32) (A : Nat → Nat → Int32) (h' : AHp) : Prop := MdAt h' v A ∧ ∀ x, x < 121 ∨ 128 < x → h' x = h x
def aset (A : Nat → Nat → Int32) (i : Nat) (f : Nat → Int32) : Nat → Nat → Int32 := fun j => if j = i then f else A j
theorem MdP.rf {h : AHp} {v : Nat → Int32} {A : Nat → Nat → Int32} (H : MdAt h v A) : MdP h v A h := ⟨H, fun _ _ => rfl⟩
theorem MdP.trans {h h1 h2 : AHp} {v v2 : Nat → Int32} {A A2 : Nat → Nat → Int32} (H : MdP h v A h1) (H2 : MdP h1 v2 A2 h2) : MdP h v2 A2 h2 := ⟨H2.1, fun x z => (H2.2 x z).trans (H.2 x z)⟩
theorem MdAt.fld {h : AHp} {v v' : Nat → Int32} {A : Nat → Nat → Int32} (H : MdAt h v A) : MdP h v' A (oj_up h 121 (rO v')) := by
  obtain ⟨e0, e1, e2, e3, e4, e5, e6, e7⟩ := H
  exact ⟨⟨if_pos rfl, (if_neg (by decide)).trans e1, (if_neg (by decide)).trans e2, (if_neg (by decide)).trans e3, (if_neg (by decide)).trans e4, (if_neg (by decide)).trans e5, (if_neg (by decide)).trans e6, (if_neg (by decide)).trans e7⟩, fun x z => if_neg (by omega)⟩
def aN : Nat → Nat
  | 3 => 1280
  | 4 => 80
  | 5 => 60
  | 6 => 124
  | _ => 160
theorem MdAt.arr {h : AHp} {v : Nat → Int32} {A : Nat → Nat → Int32} (H : MdAt h v A) {i : Nat} (hi : i < 7) {f : Nat → Int32} : MdP h v (aset A i f) (oj_up h (122 + i) (.inl (0, aN i, .inl f))) := by
  obtain ⟨e0, e1, e2, e3, e4, e5, e6, e7⟩ := H
  have ht : ∀ j, j < 7 → h (122 + j) = .inl (0, aN j, .inl (A j)) → oj_up h (122 + i) (.inl (0, aN i, .inl f)) (122 + j) = .inl (0, aN j, .inl (aset A i f j)) := by
    intro j hj hh
    unfold oj_up aset
    by_cases z : j = i
    · rw [if_pos (by rw [z]), if_pos z, z]
    · rw [if_neg (by omega), if_neg z, hh]
  exact ⟨⟨(if_neg (by omega)).trans e0, ht 0 (by decide) e1, ht 1 (by decide) e2, ht 2 (by decide) e3, ht 3 (by decide) e4, ht 4 (by decide) e5, ht 5 (by decide) e6, ht 6 (by decide) e7⟩, fun x z => if_neg (by omega)⟩
def mRow (r : Row) (w : Nat) : Int32 := match w with
  | 0 => r.1
  | 1 => r.2.1
  | 2 => r.2.2.1
  | 3 => r.2.2.2.1
  | 4 => r.2.2.2.2.2.1 + 1
  | 5 => r.2.2.2.2.2.2
  | _ => r.2.2.2.2.1
/-- the row f holds the line q -/
def SI (f : Nat → Int32) (q : LQ) : Prop := (∀ i, i < 13 → f i = q.2.1 i) ∧ f 13 = nI q.2.2.1.length ∧ (∀ g, g < 6 → f (14 + g) = q.1 g) ∧ (∀ j, j < q.2.2.1.length → ∀ w, w < 7 → f (20 + 7 * j + w) = mRow (rAt q.2.2.1 j) w) ∧ q.2.2.1.length ≤ 20
theorem nI_mul (a b : Nat) : nI a * nI b = nI (a * b) := by unfold nI; exact (Int32.ofNat_mul a b).symm
theorem ix_row (j w : Nat) : 20 + 7 * nI j + nI w = nI (20 + 7 * j + w) := by
  show nI 20 + nI 7 * nI j + nI w = _
  rw [nI_mul, nI_add, nI_add]
section OJ48
variable {μ : MI} {d mc ms : Nat} {Q : QT} {k n pc : Nat} {ls : List (Option Value)} {st : List Value} {h : AHp} {i : Instr} {len nx : Nat} {c : Int32} {t : Nat}
/-- a cell of a row, read -/
theorem J_rs {a N : Nat} {f : Nat → Int32} {x w : Int32} (i : Nat) (he : mT μ pc = some (.iaload, len, nx, c, t)) (ha : h a = .inl (0, N, .inl f)) (hx : x = nI i) (hi : i < N) (hN : N < 2 ^ 31) (hv : f i = w) (kk : J μ d mc ms Q k n nx ls (.int w :: st) h) : J μ d mc ms Q k n pc ls (.int x :: .ref a :: st) h := by
  subst hx
  refine J_iald he ha (vp_in_nI hi hN) ?_
  rw [nI_clamp (by omega), hv]
  exact kk
/-- a cell of a row, written -/
theorem J_ws {a N : Nat} {f : Nat → Int32} {x w : Int32} (i : Nat) (he : mT μ pc = some (.iastore, len, nx, c, t)) (ha : h a = .inl (0, N, .inl f)) (hx : x = nI i) (hi : i < N) (hN : N < 2 ^ 31) (kk : J μ d mc ms Q k n nx ls st (oj_up h a (.inl (0, N, .inl (upd f i w))))) : J μ d mc ms Q k n pc ls (.int w :: .int x :: .ref a :: st) h := by
  subst hx
  refine J_iast he ha (vp_in_nI hi hN) ?_
  rw [nI_clamp (by omega)]
  exact kk
end OJ48
set_option maxRecDepth 100000 in
set_option maxHeartbeats 2000000 in
theorem m_isIn {d : Nat} {h : AHp} {x a b : Int32} : JM mi_X6_isIn d 0 0 [.int x, .int a, .int b] h (oj_is (.inl (some (.int (bI (decide (a ≤ x ∧ x ≤ b)))))) h) := by
  refine JM_of gd_X6_isIn rfl (by decide +kernel) (Nat.le_of_ble_eq_true rfl) (oj_cats rfl) (by decide) ?_
  repeat' (first | (refine J_step rfl rfl ?_) | (refine J_getf rfl rfl rfl (by assumption) rfl ?_) | (refine J_if (y := 0) rfl (fun _ => ?_) (fun _ => ?_)) | (refine J_ic rfl (fun _ => ?_) (fun _ => ?_)))
  all_goals (refine J_zret rfl rfl rfl rfl (decide (a ≤ x ∧ x ≤ b)) ?_ ⟨rfl, rfl⟩)
  all_goals simp_all [oj_cz, oj_cc, ne_bI0, ltn, -Int32.not_le, -Int32.not_lt, -ne_eq, bI]
set_option maxRecDepth 100000 in
set_option maxHeartbeats 2000000 in
theorem m_isCabin {h : AHp} {x : Int32} : JM mi_X6_isCabin 1 0 0 [.int x] h (oj_is (.inl (some (.int (bI (decide (0 ≤ x ∧ x ≤ 1)))))) h) := by
  refine JM_of gd_X6_isCabin rfl (by decide +kernel) (Nat.le_of_ble_eq_true rfl) (oj_cats rfl) (by decide) ?_
  repeat (first | (refine J_step rfl rfl ?_) | (refine J_getf rfl rfl rfl (by assumption) rfl ?_))
  refine J_cS rfl rfl rfl rfl rfl rfl rfl rfl rfl rfl rfl (m_isIn (d := 0)) ?_
  exact J_zret rfl rfl rfl rfl _ rfl ⟨rfl, rfl⟩
set_option maxRecDepth 100000 in
set_option maxHeartbeats 2000000 in
theorem m_isStation {h : AHp} {x : Int32} : JM mi_X6_isStation 1 0 0 [.int x] h (oj_is (.inl (some (.int (bI (decide (0 ≤ x ∧ x ≤ 6)))))) h) := by
  refine JM_of gd_X6_isStation rfl (by decide +kernel) (Nat.le_of_ble_eq_true rfl) (oj_cats rfl) (by decide) ?_
  repeat (first | (refine J_step rfl rfl ?_) | (refine J_getf rfl rfl rfl (by assumption) rfl ?_))
  refine J_cS rfl rfl rfl rfl rfl rfl rfl rfl rfl rfl rfl (m_isIn (d := 0)) ?_
  exact J_zret rfl rfl rfl rfl _ rfl ⟨rfl, rfl⟩
set_option maxRecDepth 100000 in
set_option maxHeartbeats 2000000 in
theorem m_isThrown {d : Nat} {h h1 : AHp} {v : Nat → Int32} {A : Nat → Nat → Int32} {b : Bool} {t : Int32} (H : MdP h v A h1) : JM mi_X6_isThrown d 0 0 [.ref 121, .int (bI b), .int t] h1 (fun r h' => r = .inl (some (.int (bI b))) ∧ MdP h (fset v 1 (if b then t else 0)) A h') := by
  have e0 := H.1.1
  refine JM_of gd_X6_isThrown rfl (by decide +kernel) (Nat.le_of_ble_eq_true rfl) (oj_cats rfl) (by decide) ?_
  repeat (first | (refine J_step rfl rfl ?_) | (refine J_getf rfl rfl rfl (by assumption) rfl ?_))
  refine J_if (y := 0) rfl (fun hq => ?_) (fun hq => ?_)
  · have hb := bI_f hq
    repeat (first | (refine J_step rfl rfl ?_) | (refine J_getf rfl rfl rfl (by assumption) rfl ?_))
    refine J_putf rfl rfl rfl e0 rfl rfl (fun _ => rfl) rfl rfl ?_
    repeat (first | (refine J_step rfl rfl ?_) | (refine J_getf rfl rfl rfl (by assumption) rfl ?_))
    refine J_zret rfl rfl rfl rfl b rfl ⟨rfl, ?_⟩
    subst hb
    exact H.trans (H.1.fld (v' := fset v 1 (if false then t else 0)))
  · have hb := bI_t hq
    repeat (first | (refine J_step rfl rfl ?_) | (refine J_getf rfl rfl rfl (by assumption) rfl ?_))
    refine J_putf rfl rfl rfl e0 rfl rfl (fun _ => rfl) rfl rfl ?_
    repeat (first | (refine J_step rfl rfl ?_) | (refine J_getf rfl rfl rfl (by assumption) rfl ?_))
    refine J_zret rfl rfl rfl rfl b rfl ⟨rfl, ?_⟩
    subst hb
    exact H.trans (H.1.fld (v' := fset v 1 (if true then t else 0)))
set_option maxRecDepth 100000 in
set_option maxHeartbeats 2000000 in
theorem m_thrown {d : Nat} {h : AHp} {v : Nat → Int32} {A : Nat → Nat → Int32} (H : MdAt h v A) : JM mi_X6_thrown d 0 0 [.ref 121] h (oj_is (.inl (some (.int (v 1)))) h) := by
  have e0 := H.1
  refine JM_of gd_X6_thrown rfl (by decide +kernel) (Nat.le_of_ble_eq_true rfl) (oj_cats rfl) (by decide) ?_
  repeat (first | (refine J_step rfl rfl ?_) | (refine J_getf rfl rfl rfl (by assumption) rfl ?_))
  exact J_iret rfl rfl rfl rfl ⟨rfl, rfl⟩
set_option maxRecDepth 100000 in
set_option maxHeartbeats 2000000 in
theorem m_of {d : Nat} {h : AHp} {v : Nat → Int32} {A : Nat → Nat → Int32} {q : LQ} {j w : Nat} (H : MdAt h v A) (S : SI (A 0) q) (hj : j < q.2.2.1.length) (hw : w < 7) : JM mi_X6_of d 0 0 [.ref 121, .int (nI j), .int (nI w)] h (oj_is (.inl (some (.int (mRow (rAt q.2.2.1 j) w)))) h) := by
  have e0 := H.1
  have e1 := H.2.1
  have hl := S.2.2.2.2
  refine JM_of gd_X6_of rfl (by decide +kernel) (Nat.le_of_ble_eq_true rfl) (oj_cats rfl) (by decide) ?_
  repeat (first | (refine J_step rfl rfl ?_) | (refine J_getf rfl rfl rfl (by assumption) rfl ?_))
  refine J_rs (20 + 7 * j + w) rfl e1 (ix_row j w) (by omega) (by decide) (S.2.2.2.1 j hj w hw) ?_
  exact J_iret rfl rfl rfl rfl ⟨rfl, rfl⟩
set_option maxRecDepth 100000 in
set_option maxHeartbeats 2000000 in
theorem m_at {h : AHp} {v : Nat → Int32} {A : Nat → Nat → Int32} {q : LQ} {x : Int32} (H : MdAt h v A) (S : SI (A 0) q) : JM mi_X6_at 1 0 0 [.ref 121, .int x] h (oj_is (.inl (some (.int (lnRow q.2.2.1 x)))) h) := by
  have e0 := H.1
  have e1 := H.2.1
  have hl := S.2.2.2.2
  refine JM_of gd_X6_at rfl (by decide +kernel) (Nat.le_of_ble_eq_true rfl) (oj_cats rfl) (by decide) ?_
  have loop : ∀ m j, m + j = q.2.2.1.length → ∀ w, fstF (fun j => (rAt q.2.2.1 j).1 == x) m j = w → J mi_X6_at 1 0 0 (oj_is (.inl (some (.int w))) h) 0 0 2 [some (.ref 121), some (.int x), some (.int (nI j))] [] h := by
    intro m
    induction m with
    | zero =>
      intro j hj w hw
      obtain rfl : j = q.2.2.1.length := by omega
      repeat (first | (refine J_step rfl rfl ?_) | (refine J_getf rfl rfl rfl (by assumption) rfl ?_))
      refine J_rs 13 rfl e1 rfl (by decide) (by decide) S.2.1 ?_
      refine J_ic rfl (fun hq => ?_) (fun hq => absurd (Int32.le_refl _) hq)
      repeat (first | (refine J_step rfl rfl ?_) | (refine J_getf rfl rfl rfl (by assumption) rfl ?_))
      exact J_iret rfl rfl rfl rfl ⟨by rw [← hw]; rfl, rfl⟩
    | succ m ih =>
      intro j hj w hw
      have hlt : j < q.2.2.1.length := by omega
      rw [fstF] at hw
      repeat (first | (refine J_step rfl rfl ?_) | (refine J_getf rfl rfl rfl (by assumption) rfl ?_))
      refine J_rs 13 rfl e1 rfl (by decide) (by decide) S.2.1 ?_
      refine J_ic rfl (fun hq => absurd hq (nI_ge (by omega) (by omega))) (fun hq => ?_)
      repeat (first | (refine J_step rfl rfl ?_) | (refine J_getf rfl rfl rfl (by assumption) rfl ?_))
      refine J_cV rfl rfl rfl rfl rfl (by assumption) rfl rfl rfl rfl rfl rfl (m_of (d := 0) (w := 0) H S hlt (by decide)) ?_
      repeat (first | (refine J_step rfl rfl ?_) | (refine J_getf rfl rfl rfl (by assumption) rfl ?_))
      refine J_ic rfl (fun hq => ?_) (fun hq => ?_)
      · rw [if_neg (by simpa [oj_cc, mRow] using hq)] at hw
        have hs := ih (j + 1) (by omega) w hw
        rw [nI_succ] at hs
        iterate 2 (first | (refine J_step rfl rfl ?_) | (refine J_getf rfl rfl rfl (by assumption) rfl ?_))
        exact hs
      · rw [if_pos (by simpa [oj_cc, mRow] using hq)] at hw
        repeat (first | (refine J_step rfl rfl ?_) | (refine J_getf rfl rfl rfl (by assumption) rfl ?_))
        exact J_iret rfl rfl rfl rfl ⟨by rw [← hw], rfl⟩
  iterate 2 (first | (refine J_step rfl rfl ?_) | (refine J_getf rfl rfl rfl (by assumption) rfl ?_))
  exact loop _ 0 rfl _ rfl
set_option maxRecDepth 100000 in
set_option maxHeartbeats 2000000 in
theorem m_placeOf {d : Nat} {h : AHp} {v : Nat → Int32} {A : Nat → Nat → Int32} {q : LQ} {x : Int32} (H : MdAt h v A) (S : SI (A 0) q) : JM mi_X6_placeOf d 0 0 [.ref 121, .int x] h (oj_is (.inl (some (.int (sPl q.2.1 x)))) h) := by
  have e0 := H.1
  have e1 := H.2.1
  refine JM_of gd_X6_placeOf rfl (by decide +kernel) (Nat.le_of_ble_eq_true rfl) (oj_cats rfl) (by decide) ?_
  repeat (first | (refine J_step rfl rfl ?_) | (refine J_getf rfl rfl rfl (by assumption) rfl ?_))
  refine J_if (y := 0) rfl (fun hq => ?_) (fun hq => ?_)
  · repeat (first | (refine J_step rfl rfl ?_) | (refine J_getf rfl rfl rfl (by assumption) rfl ?_))
    refine J_rs 4 rfl e1 rfl (by decide) (by decide) (S.1 4 (by decide)) ?_
    repeat (first | (refine J_step rfl rfl ?_) | (refine J_getf rfl rfl rfl (by assumption) rfl ?_))
    exact J_iret rfl rfl rfl rfl ⟨ri (by rw [sPl, if_neg (show ¬ x = 0 from hq)]), rfl⟩
  · repeat (first | (refine J_step rfl rfl ?_) | (refine J_getf rfl rfl rfl (by assumption) rfl ?_))
    refine J_rs 4 rfl e1 rfl (by decide) (by decide) (S.1 4 (by decide)) ?_
    repeat (first | (refine J_step rfl rfl ?_) | (refine J_getf rfl rfl rfl (by assumption) rfl ?_))
    exact J_iret rfl rfl rfl rfl ⟨ri (by rw [sPl, if_pos (show x = 0 from Classical.not_not.mp hq)]), rfl⟩
set_option maxRecDepth 100000 in
set_option maxHeartbeats 2000000 in
theorem m_up {d : Nat} {h : AHp} {v : Nat → Int32} {A : Nat → Nat → Int32} {q : LQ} {x : Int32} (H : MdAt h v A) (S : SI (A 0) q) (hu : gU q.2.1) : JM mi_X6_up d 0 0 [.ref 121, .int x] h (oj_is (.inl (some (.int (bI (sUp (uB q.2.1) x))))) h) := by
  have e0 := H.1
  have e1 := H.2.1
  have h5 : A 0 5 = bI (uB q.2.1) := (S.1 5 (by decide)).trans hu
  have fin : ∀ b : Bool, b = decide (x = 0) → J mi_X6_up d 0 0 (oj_is (.inl (some (.int (bI (sUp (uB q.2.1) x))))) h) 0 0 9 [some (.ref 121), some (.int x)] [.int (bI b)] h := by
    intro b hb
    repeat (first | (refine J_step rfl rfl ?_) | (refine J_getf rfl rfl rfl (by assumption) rfl ?_))
    cases hu3 : uB q.2.1 with
    | false =>
      rw [hu3] at h5
      refine J_rs 5 rfl e1 rfl (by decide) (by decide) h5 ?_
      repeat (first | (refine J_step rfl rfl ?_) | (refine J_getf rfl rfl rfl (by assumption) rfl ?_))
      refine J_ic rfl (fun _ => ?_) (fun hq => absurd (show ¬ bI false = 1 by decide) hq)
      repeat (first | (refine J_step rfl rfl ?_) | (refine J_getf rfl rfl rfl (by assumption) rfl ?_))
      cases b with
      | false =>
        have hx : ¬ x = 0 := of_decide_eq_false hb.symm
        refine J_ic rfl (fun hq => absurd rfl hq) (fun _ => ?_)
        repeat (first | (refine J_step rfl rfl ?_) | (refine J_getf rfl rfl rfl (by assumption) rfl ?_))
        exact J_zret rfl rfl rfl rfl true rfl ⟨by rw [sUp, if_neg hx]; rfl, rfl⟩
      | true =>
        have hx : x = 0 := of_decide_eq_true hb.symm
        refine J_ic rfl (fun _ => ?_) (fun hq => absurd (show ¬ bI true = 0 by decide) hq)
        repeat (first | (refine J_step rfl rfl ?_) | (refine J_getf rfl rfl rfl (by assumption) rfl ?_))
        exact J_zret rfl rfl rfl rfl false rfl ⟨by rw [sUp, if_pos hx], rfl⟩
    | true =>
      rw [hu3] at h5
      refine J_rs 5 rfl e1 rfl (by decide) (by decide) h5 ?_
      repeat (first | (refine J_step rfl rfl ?_) | (refine J_getf rfl rfl rfl (by assumption) rfl ?_))
      refine J_ic rfl (fun hq => absurd (show bI true = 1 from rfl) hq) (fun _ => ?_)
      repeat (first | (refine J_step rfl rfl ?_) | (refine J_getf rfl rfl rfl (by assumption) rfl ?_))
      cases b with
      | false =>
        have hx : ¬ x = 0 := of_decide_eq_false hb.symm
        refine J_ic rfl (fun _ => ?_) (fun hq => absurd (show ¬ bI false = 1 by decide) hq)
        repeat (first | (refine J_step rfl rfl ?_) | (refine J_getf rfl rfl rfl (by assumption) rfl ?_))
        exact J_zret rfl rfl rfl rfl false rfl ⟨by rw [sUp, if_neg hx]; rfl, rfl⟩
      | true =>
        have hx : x = 0 := of_decide_eq_true hb.symm
        refine J_ic rfl (fun hq => absurd (show bI true = 1 from rfl) hq) (fun _ => ?_)
        repeat (first | (refine J_step rfl rfl ?_) | (refine J_getf rfl rfl rfl (by assumption) rfl ?_))
        exact J_zret rfl rfl rfl rfl true rfl ⟨by rw [sUp, if_pos hx], rfl⟩
  refine JM_of gd_X6_up rfl (by decide +kernel) (Nat.le_of_ble_eq_true rfl) (oj_cats rfl) (by decide) ?_
  repeat (first | (refine J_step rfl rfl ?_) | (refine J_getf rfl rfl rfl (by assumption) rfl ?_))
  refine J_if (y := 0) rfl (fun hq => ?_) (fun hq => ?_)
  · iterate 1 (refine J_step rfl rfl ?_)
    exact fin false (decide_eq_false (show ¬ x = 0 from hq)).symm
  · iterate 2 (refine J_step rfl rfl ?_)
    exact fin true (decide_eq_true (show x = 0 from Classical.not_not.mp hq)).symm
set_option maxRecDepth 100000 in
set_option maxHeartbeats 2000000 in
theorem m_isAtStations {d : Nat} {h : AHp} {v : Nat → Int32} {A : Nat → Nat → Int32} {q : LQ} (H : MdAt h v A) (S : SI (A 0) q) : JM mi_X6_isAtStations d 0 0 [.ref 121] h (oj_is (.inl (some (.int (bI (sAtS q.2.1))))) h) := by
  have e0 := H.1
  have e1 := H.2.1
  refine JM_of gd_X6_isAtStations rfl (by decide +kernel) (Nat.le_of_ble_eq_true rfl) (oj_cats rfl) (by decide) ?_
  repeat (first | (refine J_step rfl rfl ?_) | (refine J_getf rfl rfl rfl (by assumption) rfl ?_))
  refine J_rs 4 rfl e1 rfl (by decide) (by decide) (S.1 4 (by decide)) ?_
  repeat (first | (refine J_step rfl rfl ?_) | (refine J_getf rfl rfl rfl (by assumption) rfl ?_))
  refine J_irem rfl (by decide) ?_
  refine J_if (y := 0) rfl (fun hq => ?_) (fun hq => ?_)
  · repeat (first | (refine J_step rfl rfl ?_) | (refine J_getf rfl rfl rfl (by assumption) rfl ?_))
    exact J_zret rfl rfl rfl rfl (sAtS q.2.1) (by simp only [oj_cz] at hq; simp [sAtS, bI, hq]) ⟨rfl, rfl⟩
  · repeat (first | (refine J_step rfl rfl ?_) | (refine J_getf rfl rfl rfl (by assumption) rfl ?_))
    exact J_zret rfl rfl rfl rfl (sAtS q.2.1) (by simp only [oj_cz, Classical.not_not] at hq; simp [sAtS, bI, hq]) ⟨rfl, rfl⟩
set_option maxRecDepth 100000 in
set_option maxHeartbeats 2000000 in
theorem m_isAtEnds {d : Nat} {h : AHp} {v : Nat → Int32} {A : Nat → Nat → Int32} {q : LQ} (H : MdAt h v A) (S : SI (A 0) q) : JM mi_X6_isAtEnds d 0 0 [.ref 121] h (oj_is (.inl (some (.int (bI (sAtE q.2.1))))) h) := by
  have e0 := H.1
  have e1 := H.2.1
  refine JM_of gd_X6_isAtEnds rfl (by decide +kernel) (Nat.le_of_ble_eq_true rfl) (oj_cats rfl) (by decide) ?_
  repeat (first | (refine J_step rfl rfl ?_) | (refine J_getf rfl rfl rfl (by assumption) rfl ?_))
  refine J_rs 4 rfl e1 rfl (by decide) (by decide) (S.1 4 (by decide)) ?_
  refine J_if (y := 0) rfl (fun hq => ?_) (fun hq => ?_)
  · repeat (first | (refine J_step rfl rfl ?_) | (refine J_getf rfl rfl rfl (by assumption) rfl ?_))
    exact J_zret rfl rfl rfl rfl (sAtE q.2.1) (by simp only [oj_cz] at hq; simp [sAtE, bI, hq]) ⟨rfl, rfl⟩
  · repeat (first | (refine J_step rfl rfl ?_) | (refine J_getf rfl rfl rfl (by assumption) rfl ?_))
    refine J_rs 4 rfl e1 rfl (by decide) (by decide) (S.1 4 (by decide)) ?_
    repeat (first | (refine J_step rfl rfl ?_) | (refine J_getf rfl rfl rfl (by assumption) rfl ?_))
    simp only [oj_cz] at hq
    refine J_ic rfl (fun hq2 => ?_) (fun hq2 => ?_)
    · repeat (first | (refine J_step rfl rfl ?_) | (refine J_getf rfl rfl rfl (by assumption) rfl ?_))
      exact J_zret rfl rfl rfl rfl (sAtE q.2.1) (by simp only [oj_cc] at hq2; simp [sAtE, bI, hq, hq2]) ⟨rfl, rfl⟩
    · repeat (first | (refine J_step rfl rfl ?_) | (refine J_getf rfl rfl rfl (by assumption) rfl ?_))
      exact J_zret rfl rfl rfl rfl (sAtE q.2.1) (by simp only [oj_cc, Classical.not_not] at hq2; simp [sAtE, bI, hq2]) ⟨rfl, rfl⟩
set_option maxRecDepth 100000 in
set_option maxHeartbeats 2000000 in
theorem m_ahead {h : AHp} {v : Nat → Int32} {A : Nat → Nat → Int32} {q : LQ} {x : Int32} (H : MdAt h v A) (S : SI (A 0) q) (hu : gU q.2.1) : JM mi_X6_ahead 1 0 0 [.ref 121, .int x] h (oj_is (.inl (some (.int (sAhead q.2.1 (uB q.2.1) x)))) h) := by
  have e0 := H.1
  refine JM_of gd_X6_ahead rfl (by decide +kernel) (Nat.le_of_ble_eq_true rfl) (oj_cats rfl) (by decide) ?_
  repeat (first | (refine J_step rfl rfl ?_) | (refine J_getf rfl rfl rfl (by assumption) rfl ?_))
  refine J_cV rfl rfl rfl rfl rfl (by assumption) rfl rfl rfl rfl rfl rfl (m_up (d := 0) H S hu) ?_
  refine J_if (y := 0) rfl (fun hq => ?_) (fun hq => ?_)
  · have hb := bI_f hq
    repeat (first | (refine J_step rfl rfl ?_) | (refine J_getf rfl rfl rfl (by assumption) rfl ?_))
    refine J_cV rfl rfl rfl rfl rfl (by assumption) rfl rfl rfl rfl rfl rfl (m_placeOf (d := 0) H S) ?_
    repeat (first | (refine J_step rfl rfl ?_) | (refine J_getf rfl rfl rfl (by assumption) rfl ?_))
    refine J_idiv rfl (by decide) ?_
    exact J_iret rfl rfl rfl rfl ⟨ri (by rw [sAhead, hb]; rfl), rfl⟩
  · have hb := bI_t hq
    repeat (first | (refine J_step rfl rfl ?_) | (refine J_getf rfl rfl rfl (by assumption) rfl ?_))
    refine J_cV rfl rfl rfl rfl rfl (by assumption) rfl rfl rfl rfl rfl rfl (m_placeOf (d := 0) H S) ?_
    repeat (first | (refine J_step rfl rfl ?_) | (refine J_getf rfl rfl rfl (by assumption) rfl ?_))
    refine J_idiv rfl (by decide) ?_
    repeat (first | (refine J_step rfl rfl ?_) | (refine J_getf rfl rfl rfl (by assumption) rfl ?_))
    exact J_iret rfl rfl rfl rfl ⟨ri (by rw [sAhead, hb]; rfl), rfl⟩
theorem add1_inj {x y : Int32} : x + 1 = y + 1 ↔ x = y := ⟨fun h => by have := congrArg (· - 1) h; simpa using this, fun h => by rw [h]⟩
set_option maxRecDepth 100000 in
set_option maxHeartbeats 2000000 in
theorem m_inCabin {h : AHp} {v : Nat → Int32} {A : Nat → Nat → Int32} {q : LQ} {x : Int32} (H : MdAt h v A) (S : SI (A 0) q) : JM mi_X6_inCabin 1 0 0 [.ref 121, .int x] h (oj_is (.inl (some (.int (nI (crRid q.2.2.1 x))))) h) := by
  have e0 := H.1
  have e1 := H.2.1
  have hl := S.2.2.2.2
  refine JM_of gd_X6_inCabin rfl (by decide +kernel) (Nat.le_of_ble_eq_true rfl) (oj_cats rfl) (by decide) ?_
  have loop : ∀ m j, m + j = q.2.2.1.length → J mi_X6_inCabin 1 0 0 (oj_is (.inl (some (.int (nI (crRid q.2.2.1 x))))) h) 0 0 4 [some (.ref 121), some (.int x), some (.int (nI ((q.2.2.1.take j).countP fun r => r.2.2.2.2.2.1 == x))), some (.int (nI j))] [] h := by
    intro m
    induction m with
    | zero =>
      intro j hj
      obtain rfl : j = q.2.2.1.length := by omega
      repeat (first | (refine J_step rfl rfl ?_) | (refine J_getf rfl rfl rfl (by assumption) rfl ?_))
      refine J_rs 13 rfl e1 rfl (by decide) (by decide) S.2.1 ?_
      refine J_ic rfl (fun hq => ?_) (fun hq => absurd (Int32.le_refl _) hq)
      repeat (first | (refine J_step rfl rfl ?_) | (refine J_getf rfl rfl rfl (by assumption) rfl ?_))
      exact J_iret rfl rfl rfl rfl ⟨by rw [ct_all]; rfl, rfl⟩
    | succ m ih =>
      intro j hj
      have hlt : j < q.2.2.1.length := by omega
      have hs := ih (j + 1) (by omega)
      rw [ct_succ hlt, nI_succ, ← rAt_eq hlt] at hs
      repeat (first | (refine J_step rfl rfl ?_) | (refine J_getf rfl rfl rfl (by assumption) rfl ?_))
      refine J_rs 13 rfl e1 rfl (by decide) (by decide) S.2.1 ?_
      refine J_ic rfl (fun hq => absurd hq (nI_ge (by omega) (by omega))) (fun hq => ?_)
      repeat (first | (refine J_step rfl rfl ?_) | (refine J_getf rfl rfl rfl (by assumption) rfl ?_))
      refine J_cV rfl rfl rfl rfl rfl (by assumption) rfl rfl rfl rfl rfl rfl (m_of (d := 0) (w := 4) H S hlt (by decide)) ?_
      repeat (first | (refine J_step rfl rfl ?_) | (refine J_getf rfl rfl rfl (by assumption) rfl ?_))
      refine J_ic rfl (fun hq => ?_) (fun hq => ?_)
      · have hq : ¬ (rAt q.2.2.1 j).2.2.2.2.2.1 = x := fun z => hq (add1_inj.mpr z)
        rw [if_neg (by simpa using hq)] at hs
        iterate 5 (first | (refine J_step rfl rfl ?_) | (refine J_getf rfl rfl rfl (by assumption) rfl ?_))
        rw [Int32.add_zero]
        exact hs
      · have hq : (rAt q.2.2.1 j).2.2.2.2.2.1 = x := add1_inj.mp (Classical.not_not.mp hq)
        rw [if_pos (by simpa using hq), nI_succ] at hs
        iterate 6 (first | (refine J_step rfl rfl ?_) | (refine J_getf rfl rfl rfl (by assumption) rfl ?_))
        exact hs
  iterate 4 (first | (refine J_step rfl rfl ?_) | (refine J_getf rfl rfl rfl (by assumption) rfl ?_))
  exact loop _ 0 rfl
set_option maxRecDepth 100000 in
set_option maxHeartbeats 2000000 in
theorem m_heavy {h : AHp} {v : Nat → Int32} {A : Nat → Nat → Int32} {q : LQ} {x : Int32} (H : MdAt h v A) (S : SI (A 0) q) : JM mi_X6_heavy 1 0 0 [.ref 121, .int x] h (oj_is (.inl (some (.int (crFull q.2.2.1 x)))) h) := by
  have e0 := H.1
  have e1 := H.2.1
  have hl := S.2.2.2.2
  refine JM_of gd_X6_heavy rfl (by decide +kernel) (Nat.le_of_ble_eq_true rfl) (oj_cats rfl) (by decide) ?_
  have loop : ∀ m j, m + j = q.2.2.1.length → J mi_X6_heavy 1 0 0 (oj_is (.inl (some (.int (crFull q.2.2.1 x)))) h) 0 0 6 [some (.ref 121), some (.int x), some (.int (crFull (q.2.2.1.take j) x)), some (.int (nI j))] [] h := by
    intro m
    induction m with
    | zero =>
      intro j hj
      obtain rfl : j = q.2.2.1.length := by omega
      repeat (first | (refine J_step rfl rfl ?_) | (refine J_getf rfl rfl rfl (by assumption) rfl ?_))
      refine J_rs 13 rfl e1 rfl (by decide) (by decide) S.2.1 ?_
      refine J_ic rfl (fun hq => ?_) (fun hq => absurd (Int32.le_refl _) hq)
      repeat (first | (refine J_step rfl rfl ?_) | (refine J_getf rfl rfl rfl (by assumption) rfl ?_))
      exact J_iret rfl rfl rfl rfl ⟨by rw [List.take_length], rfl⟩
    | succ m ih =>
      intro j hj
      have hlt : j < q.2.2.1.length := by omega
      have hs := ih (j + 1) (by omega)
      have e2 : crFull (q.2.2.1.take (j + 1)) x = crFull (q.2.2.1.take j) x + (if (rAt q.2.2.1 j).2.2.2.2.2.1 == x then (rAt q.2.2.1 j).2.1 else 0) := by
        unfold crFull
        rw [rAt_eq hlt, tk_succ hlt, List.filter_append, crWt_app, ← Int32.add_assoc]
        congr 1
        by_cases hq : (q.2.2.1[j].2.2.2.2.2.1 == x) = true
        · rw [if_pos hq]; simp [List.filter_cons, hq, crWt]
        · rw [if_neg hq]; simp [List.filter_cons, hq, crWt]
      rw [e2, nI_succ] at hs
      repeat (first | (refine J_step rfl rfl ?_) | (refine J_getf rfl rfl rfl (by assumption) rfl ?_))
      refine J_rs 13 rfl e1 rfl (by decide) (by decide) S.2.1 ?_
      refine J_ic rfl (fun hq => absurd hq (nI_ge (by omega) (by omega))) (fun hq => ?_)
      repeat (first | (refine J_step rfl rfl ?_) | (refine J_getf rfl rfl rfl (by assumption) rfl ?_))
      refine J_cV rfl rfl rfl rfl rfl (by assumption) rfl rfl rfl rfl rfl rfl (m_of (d := 0) (w := 4) H S hlt (by decide)) ?_
      repeat (first | (refine J_step rfl rfl ?_) | (refine J_getf rfl rfl rfl (by assumption) rfl ?_))
      refine J_ic rfl (fun hq => ?_) (fun hq => ?_)
      · have hq : ¬ (rAt q.2.2.1 j).2.2.2.2.2.1 = x := fun z => hq (add1_inj.mpr z)
        rw [if_neg (by simpa using hq)] at hs
        iterate 5 (first | (refine J_step rfl rfl ?_) | (refine J_getf rfl rfl rfl (by assumption) rfl ?_))
        exact hs
      · have hq : (rAt q.2.2.1 j).2.2.2.2.2.1 = x := add1_inj.mp (Classical.not_not.mp hq)
        rw [if_pos (by simpa using hq)] at hs
        repeat (first | (refine J_step rfl rfl ?_) | (refine J_getf rfl rfl rfl (by assumption) rfl ?_))
        refine J_cV rfl rfl rfl rfl rfl (by assumption) rfl rfl rfl rfl rfl rfl (m_of (d := 0) (w := 1) H S hlt (by decide)) ?_
        iterate 5 (first | (refine J_step rfl rfl ?_) | (refine J_getf rfl rfl rfl (by assumption) rfl ?_))
        exact hs
  iterate 4 (first | (refine J_step rfl rfl ?_) | (refine J_getf rfl rfl rfl (by assumption) rfl ?_))
  exact loop _ 0 rfl
set_option maxRecDepth 100000 in
set_option maxHeartbeats 2000000 in
theorem m_waitsAt {h : AHp} {v : Nat → Int32} {A : Nat → Nat → Int32} {q : LQ} {j : Nat} {s : Int32} (H : MdAt h v A) (S : SI (A 0) q) (hj : j < q.2.2.1.length) : JM mi_X6_waitsAt 1 0 0 [.ref 121, .int (nI j), .int s] h (oj_is (.inl (some (.int (bI (crW s (rAt q.2.2.1 j)))))) h) := by
  have e0 := H.1
  refine JM_of gd_X6_waitsAt rfl (by decide +kernel) (Nat.le_of_ble_eq_true rfl) (oj_cats rfl) (by decide) ?_
  repeat (first | (refine J_step rfl rfl ?_) | (refine J_getf rfl rfl rfl (by assumption) rfl ?_))
  refine J_cV rfl rfl rfl rfl rfl (by assumption) rfl rfl rfl rfl rfl rfl (m_of (d := 0) (w := 4) H S hj (by decide)) ?_
  refine J_if (y := 0) rfl (fun hq => ?_) (fun hq => ?_)
  · have hq : ¬ (rAt q.2.2.1 j).2.2.2.2.2.1 = -1 := fun z => hq (by show (rAt q.2.2.1 j).2.2.2.2.2.1 + 1 = 0; rw [z]; rfl)
    repeat (first | (refine J_step rfl rfl ?_) | (refine J_getf rfl rfl rfl (by assumption) rfl ?_))
    exact J_zret rfl rfl rfl rfl _ (by simp [crW, hq, bI]) ⟨rfl, rfl⟩
  · have hq : (rAt q.2.2.1 j).2.2.2.2.2.1 = -1 := add1_inj.mp ((show (rAt q.2.2.1 j).2.2.2.2.2.1 + 1 = 0 from Classical.not_not.mp hq).trans (by decide))
    repeat (first | (refine J_step rfl rfl ?_) | (refine J_getf rfl rfl rfl (by assumption) rfl ?_))
    refine J_cV rfl rfl rfl rfl rfl (by assumption) rfl rfl rfl rfl rfl rfl (m_of (d := 0) (w := 2) H S hj (by decide)) ?_
    repeat (first | (refine J_step rfl rfl ?_) | (refine J_getf rfl rfl rfl (by assumption) rfl ?_))
    refine J_ic rfl (fun hq2 => ?_) (fun hq2 => ?_)
    · have hq2 : ¬ (rAt q.2.2.1 j).2.2.1 = s := hq2
      repeat (first | (refine J_step rfl rfl ?_) | (refine J_getf rfl rfl rfl (by assumption) rfl ?_))
      exact J_zret rfl rfl rfl rfl _ (by simp [crW, hq2, bI]) ⟨rfl, rfl⟩
    · have hq2 : (rAt q.2.2.1 j).2.2.1 = s := Classical.not_not.mp hq2
      repeat (first | (refine J_step rfl rfl ?_) | (refine J_getf rfl rfl rfl (by assumption) rfl ?_))
      exact J_zret rfl rfl rfl rfl _ (by simp [crW, hq, hq2, bI]) ⟨rfl, rfl⟩
set_option maxRecDepth 100000 in
set_option maxHeartbeats 2000000 in
theorem m_many {h : AHp} {v : Nat → Int32} {A : Nat → Nat → Int32} {q : LQ} {s : Int32} (H : MdAt h v A) (S : SI (A 0) q) : JM mi_X6_many 2 0 0 [.ref 121, .int s] h (oj_is (.inl (some (.int (nI (crWtg q.2.2.1 s))))) h) := by
  have e0 := H.1
  have e1 := H.2.1
  have hl := S.2.2.2.2
  refine JM_of gd_X6_many rfl (by decide +kernel) (Nat.le_of_ble_eq_true rfl) (oj_cats rfl) (by decide) ?_
  have loop : ∀ m j, m + j = q.2.2.1.length → J mi_X6_many 2 0 0 (oj_is (.inl (some (.int (nI (crWtg q.2.2.1 s))))) h) 0 0 4 [some (.ref 121), some (.int s), some (.int (nI ((q.2.2.1.take j).countP (crW s)))), some (.int (nI j))] [] h := by
    intro m
    induction m with
    | zero =>
      intro j hj
      obtain rfl : j = q.2.2.1.length := by omega
      repeat (first | (refine J_step rfl rfl ?_) | (refine J_getf rfl rfl rfl (by assumption) rfl ?_))
      refine J_rs 13 rfl e1 rfl (by decide) (by decide) S.2.1 ?_
      refine J_ic rfl (fun hq => ?_) (fun hq => absurd (Int32.le_refl _) hq)
      repeat (first | (refine J_step rfl rfl ?_) | (refine J_getf rfl rfl rfl (by assumption) rfl ?_))
      exact J_iret rfl rfl rfl rfl ⟨by rw [ct_all]; rfl, rfl⟩
    | succ m ih =>
      intro j hj
      have hlt : j < q.2.2.1.length := by omega
      have hs := ih (j + 1) (by omega)
      rw [ct_succ hlt, nI_succ, ← rAt_eq hlt] at hs
      repeat (first | (refine J_step rfl rfl ?_) | (refine J_getf rfl rfl rfl (by assumption) rfl ?_))
      refine J_rs 13 rfl e1 rfl (by decide) (by decide) S.2.1 ?_
      refine J_ic rfl (fun hq => absurd hq (nI_ge (by omega) (by omega))) (fun hq => ?_)
      repeat (first | (refine J_step rfl rfl ?_) | (refine J_getf rfl rfl rfl (by assumption) rfl ?_))
      refine J_cV rfl rfl rfl rfl rfl (by assumption) rfl rfl rfl rfl rfl rfl (m_waitsAt H S hlt) ?_
      refine J_if (y := 0) rfl (fun hq => ?_) (fun hq => ?_)
      · rw [if_neg (by rw [bI_f hq]; decide)] at hs
        iterate 5 (first | (refine J_step rfl rfl ?_) | (refine J_getf rfl rfl rfl (by assumption) rfl ?_))
        rw [Int32.add_zero]
        exact hs
      · rw [if_pos (bI_t hq), nI_succ] at hs
        iterate 6 (first | (refine J_step rfl rfl ?_) | (refine J_getf rfl rfl rfl (by assumption) rfl ?_))
        exact hs
  iterate 4 (first | (refine J_step rfl rfl ?_) | (refine J_getf rfl rfl rfl (by assumption) rfl ?_))
  exact loop _ 0 rfl
