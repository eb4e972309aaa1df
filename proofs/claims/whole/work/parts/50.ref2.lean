def uHit (tg : Int32) : Nat → Int32 → Bool → Bool
  | 0, a, _ => a == tg
  | m + 1, a, u => a == tg || uHit tg m (uNx a u) (uUp (uNx a u) u)
def wy (u : Bool) : Int32 := if u then 1 else -1
theorem u_hit : ∀ p, p ≤ 24 → ∀ u : Bool, (p = 0 → u = true) → (p = 24 → u = false) → ∀ s, s < 7 → uHit (nI s * 4) 48 (nI p) u = true := by decide +kernel
theorem u_next1 : ∀ p, p ≤ 24 → ∀ u : Bool, (p = 0 → u = true) → (p = 24 → u = false) → (uNx (nI p) u).toNatClampNeg ≤ 24 ∧ uNx (nI p) u = nI (uNx (nI p) u).toNatClampNeg := by decide +kernel
theorem u_next2 : ∀ p, p ≤ 24 → ∀ u : Bool, (p = 0 → u = true) → (p = 24 → u = false) → ((uNx (nI p) u).toNatClampNeg = 0 → uUp (uNx (nI p) u) u = true) ∧ ((uNx (nI p) u).toNatClampNeg = 24 → uUp (uNx (nI p) u) u = false) := by decide +kernel
theorem u_next3 : ∀ p, p ≤ 24 → ∀ u : Bool, (p = 0 → u = true) → (p = 24 → u = false) → nI p + wy u = uNx (nI p) u ∧ (if uNx (nI p) u = 0 then (1 : Int32) else if uNx (nI p) u = 24 then -1 else wy u) = wy (uUp (uNx (nI p) u) u) := by decide +kernel
theorem u_next (p : Nat) (hp : p ≤ 24) (u : Bool) (h0 : p = 0 → u = true) (h1 : p = 24 → u = false) : (uNx (nI p) u).toNatClampNeg ≤ 24 ∧ uNx (nI p) u = nI (uNx (nI p) u).toNatClampNeg ∧ ((uNx (nI p) u).toNatClampNeg = 0 → uUp (uNx (nI p) u) u = true) ∧ ((uNx (nI p) u).toNatClampNeg = 24 → uUp (uNx (nI p) u) u = false) ∧ nI p + wy u = uNx (nI p) u ∧ (if uNx (nI p) u = 0 then (1 : Int32) else if uNx (nI p) u = 24 then -1 else wy u) = wy (uUp (uNx (nI p) u) u) := ⟨(u_next1 p hp u h0 h1).1, (u_next1 p hp u h0 h1).2, (u_next2 p hp u h0 h1).1, (u_next2 p hp u h0 h1).2, u_next3 p hp u h0 h1⟩
theorem sc_inv {F : Nat → Int32} {l : List Row} (hs : SoundC F l) {c : Nat} (hc : c < 2) : ∃ p, p ≤ 24 ∧ sPl F (nI c) = nI p ∧ (p = 0 → sUp (uB F) (nI c) = true) ∧ (p = 24 → sUp (uB F) (nI c) = false) := by
  obtain ⟨h0, h1, hu, hz, ht, -⟩ := hs
  have e : F 4 = nI (F 4).toNatClampNeg := (i32_clamp h0).symm
  have hp : (F 4).toNatClampNeg ≤ 24 := by
    have := Int32.le_iff_toInt_le.mp h1
    have : (F 4).toInt ≤ 24 := by simpa using this
    unfold Int32.toNatClampNeg
    omega
  generalize (F 4).toNatClampNeg = p at e hp
  match c, hc with
  | 0, _ => exact ⟨p, hp, e, fun z => hz (by rw [e, z]; rfl), fun z => ht (by rw [e, z]; rfl)⟩
  | 1, _ =>
    refine ⟨24 - p, by omega, ?_, fun z => ?_, fun z => ?_⟩
    · show 24 - F 4 = _
      rw [e]
      have : ∀ p, p ≤ 24 → 24 - nI p = nI (24 - p) := by decide +kernel
      exact this p hp
    · show (!uB F) = true
      rw [ht (by rw [e, show p = 24 by omega]; rfl)]; rfl
    · show (!uB F) = false
      rw [hz (by rw [e, show p = 0 by omega]; rfl)]; rfl
theorem i32_lt2 {x : Int32} (h : 0 ≤ x ∧ x ≤ 1) : ∃ c, c < 2 ∧ x = nI c := ⟨x.toNatClampNeg, by
  have t1 := Int32.le_iff_toInt_le.mp h.2
  have t2 : x.toInt ≤ 1 := by simpa using t1
  unfold Int32.toNatClampNeg
  omega, (i32_clamp h.1).symm⟩
theorem i32_lt7 {x : Int32} (h : 0 ≤ x ∧ x ≤ 6) : ∃ c, c < 7 ∧ x = nI c := ⟨x.toNatClampNeg, by
  have t1 := Int32.le_iff_toInt_le.mp h.2
  have t2 : x.toInt ≤ 6 := by simpa using t1
  unfold Int32.toNatClampNeg
  omega, (i32_clamp h.1).symm⟩
set_option maxRecDepth 100000 in
set_option maxHeartbeats 2000000 in
theorem m_unitsUntil {h : AHp} {v : Nat → Int32} {A : Nat → Nat → Int32} {q : LQ} {x y : Int32} (H : MdAt h v A) (S : SI (A 0) q) (hs : SoundC q.2.1 q.2.2.1) : JM mi_X6_unitsUntil 2 0 0 [.ref 121, .int x, .int y] h (fun r h' => r = .inl (some (.int (if (0 ≤ x ∧ x ≤ 1) ∧ 0 ≤ y ∧ y ≤ 6 then nI (uMv (y * 4) 48 (sPl q.2.1 x) (sUp (uB q.2.1) x)) else 0))) ∧ MdP h (fset v 1 (if (0 ≤ x ∧ x ≤ 1) ∧ 0 ≤ y ∧ y ≤ 6 then 0 else 1)) A h') := by
  have e0 := H.1
  have e1 := H.2.1
  have hl := S.2.2.2.2
  refine JM_of gd_X6_unitsUntil rfl (by decide +kernel) (Nat.le_of_ble_eq_true rfl) (oj_cats rfl) (by decide) ?_
  repeat (first | (refine J_step rfl rfl ?_) | (refine J_getf rfl rfl rfl (by assumption) rfl ?_))
  refine J_cS rfl rfl rfl rfl rfl rfl rfl rfl rfl rfl rfl (m_isCabin) ?_
  by_cases hv : 0 ≤ x ∧ x ≤ 1
  · rw [decide_eq_true hv]
    refine J_if (y := 0) rfl (fun hq => absurd hq (show ¬ bI true = 0 by decide)) (fun _ => ?_)
    repeat (first | (refine J_step rfl rfl ?_) | (refine J_getf rfl rfl rfl (by assumption) rfl ?_))
    refine J_cS rfl rfl rfl rfl rfl rfl rfl rfl rfl rfl rfl (m_isStation) ?_
    by_cases hw : 0 ≤ y ∧ y ≤ 6
    · simp only [if_pos (show (0 ≤ x ∧ x ≤ 1) ∧ 0 ≤ y ∧ y ≤ 6 from ⟨hv, hw⟩)]
      rw [decide_eq_true hw]
      refine J_if (y := 0) rfl (fun _ => ?_) (fun hq => absurd (show ¬ bI true = 0 by decide) hq)
      repeat (first | (refine J_step rfl rfl ?_) | (refine J_getf rfl rfl rfl (by assumption) rfl ?_))
      refine J_callV rfl rfl rfl rfl rfl (by assumption) rfl rfl rfl rfl (m_thrF (d := 0) (MdP.rf H)) (Nat.zero_le _) (Nat.zero_le _) (fun E h9 q => by cases q.1) (fun v9 h1 q => ?_)
      obtain ⟨q1, H1⟩ := q
      cases q1
      clear e0 e1
      have e0 := H1.1.1
      have e1 := H1.1.2.1
      refine J_if (y := 0) rfl (fun _ => ?_) (fun hq => absurd rfl hq)
      obtain ⟨c, hc, hxc⟩ := i32_lt2 hv
      obtain ⟨s, hs7, hys⟩ := i32_lt7 hw
      obtain ⟨p, hp, hpe, hp0, hp24⟩ := sc_inv hs hc
      rw [← hxc] at hpe hp0 hp24
      have hhit := u_hit p hp _ hp0 hp24 s hs7
      rw [← hys] at hhit
      have loop : ∀ m p u n w, p ≤ 24 → (p = 0 → u = true) → (p = 24 → u = false) → uHit (y * 4) m (nI p) u = true → w = n + uMv (y * 4) m (nI p) u → J mi_X6_unitsUntil 2 0 0 (fun r h' => r = .inl (some (.int (nI w))) ∧ MdP h (fset v 1 0) A h') 0 0 53 [some (.ref 121), some (.int x), some (.int y), some (.int (nI p)), some (.int (wy u)), some (.int (nI n))] [] h1 := by
        intro m
        induction m with
        | zero =>
          intro p u n w hp hp0 hp24 hh hw
          have hh : nI p = y * 4 := by simpa [uHit] using hh
          repeat (first | (refine J_step rfl rfl ?_) | (refine J_getf rfl rfl rfl (by assumption) rfl ?_))
          refine J_ic rfl (fun hq => ?_) (fun hq => absurd (show nI p = 4 * y by rw [hh, Int32.mul_comm]) hq)
          repeat (first | (refine J_step rfl rfl ?_) | (refine J_getf rfl rfl rfl (by assumption) rfl ?_))
          exact J_iret rfl rfl rfl rfl ⟨by rw [hw]; rfl, H1⟩
        | succ m ih =>
          intro p u n w hp hp0 hp24 hh hw
          rw [uMv] at hw
          by_cases ht : nI p = y * 4
          · rw [if_pos ht] at hw
            repeat (first | (refine J_step rfl rfl ?_) | (refine J_getf rfl rfl rfl (by assumption) rfl ?_))
            refine J_ic rfl (fun hq => ?_) (fun hq => absurd (show nI p = 4 * y by rw [ht, Int32.mul_comm]) hq)
            repeat (first | (refine J_step rfl rfl ?_) | (refine J_getf rfl rfl rfl (by assumption) rfl ?_))
            exact J_iret rfl rfl rfl rfl ⟨by rw [hw]; rfl, H1⟩
          · rw [if_neg ht] at hw
            have hh : uHit (y * 4) m (uNx (nI p) u) (uUp (uNx (nI p) u) u) = true := by
              simpa [uHit, ht] using hh
            obtain ⟨k1, k2, k3, k4, k5, k6⟩ := u_next p hp u hp0 hp24
            generalize (uNx (nI p) u).toNatClampNeg = p' at k1 k2 k3 k4
            rw [k2] at hh hw k3 k4 k5 k6
            have hs := ih p' (uUp (nI p') u) (n + 1) w k1 k3 k4 hh (by omega)
            rw [nI_succ] at hs
            repeat (first | (refine J_step rfl rfl ?_) | (refine J_getf rfl rfl rfl (by assumption) rfl ?_))
            refine J_ic rfl (fun hq => absurd (show nI p = 4 * y from hq) (fun z => ht (by rw [z, Int32.mul_comm]))) (fun _ => ?_)
            repeat (first | (refine J_step rfl rfl ?_) | (refine J_getf rfl rfl rfl (by assumption) rfl ?_))
            rw [k5]
            refine J_if (y := 0) rfl (fun hq => ?_) (fun hq => ?_)
            · have hq : ¬ nI p' = 0 := hq
              rw [if_neg hq] at k6
              repeat (first | (refine J_step rfl rfl ?_) | (refine J_getf rfl rfl rfl (by assumption) rfl ?_))
              refine J_ic rfl (fun hq2 => ?_) (fun hq2 => ?_)
              · have hq2 : ¬ nI p' = 24 := hq2
                rw [if_neg hq2] at k6
                rw [k6]
                iterate 4 (first | (refine J_step rfl rfl ?_) | (refine J_getf rfl rfl rfl (by assumption) rfl ?_))
                exact hs
              · have hq2 : nI p' = 24 := Classical.not_not.mp hq2
                rw [if_pos hq2] at k6
                rw [← k6] at hs
                iterate 5 (first | (refine J_step rfl rfl ?_) | (refine J_getf rfl rfl rfl (by assumption) rfl ?_))
                exact hs
            · have hq : nI p' = 0 := Classical.not_not.mp hq
              rw [if_pos hq] at k6
              rw [← k6] at hs
              iterate 5 (first | (refine J_step rfl rfl ?_) | (refine J_getf rfl rfl rfl (by assumption) rfl ?_))
              exact hs
      repeat (first | (refine J_step rfl rfl ?_) | (refine J_getf rfl rfl rfl (by assumption) rfl ?_))
      refine J_cV rfl rfl rfl rfl rfl (by assumption) rfl rfl rfl rfl rfl rfl (m_placeOf (d := 0) H1.1 S) ?_
      repeat (first | (refine J_step rfl rfl ?_) | (refine J_getf rfl rfl rfl (by assumption) rfl ?_))
      refine J_cV rfl rfl rfl rfl rfl (by assumption) rfl rfl rfl rfl rfl rfl (m_up (d := 0) H1.1 S hs.2.2.1) ?_
      have hgo := loop 48 p (sUp (uB q.2.1) x) 0 _ hp hp0 hp24 hhit (Nat.zero_add _).symm
      rw [← hpe] at hgo
      refine J_if (y := 0) rfl (fun hq => ?_) (fun hq => ?_)
      · rw [show wy (sUp (uB q.2.1) x) = -1 by rw [bI_f hq]; rfl] at hgo
        iterate 4 (first | (refine J_step rfl rfl ?_) | (refine J_getf rfl rfl rfl (by assumption) rfl ?_))
        exact hgo
      · rw [show wy (sUp (uB q.2.1) x) = 1 by rw [bI_t hq]; rfl] at hgo
        iterate 5 (first | (refine J_step rfl rfl ?_) | (refine J_getf rfl rfl rfl (by assumption) rfl ?_))
        exact hgo
    · simp only [if_neg (show ¬ ((0 ≤ x ∧ x ≤ 1) ∧ 0 ≤ y ∧ y ≤ 6) from fun z => hw z.2)]
      rw [decide_eq_false hw]
      refine J_if (y := 0) rfl (fun hq => absurd rfl hq) (fun _ => ?_)
      repeat (first | (refine J_step rfl rfl ?_) | (refine J_getf rfl rfl rfl (by assumption) rfl ?_))
      refine J_callV rfl rfl rfl rfl rfl (by assumption) rfl rfl rfl rfl (m_thrT (d := 0) (MdP.rf H)) (Nat.zero_le _) (Nat.zero_le _) (fun E h9 q => by cases q.1) (fun v9 h1 q => ?_)
      obtain ⟨q1, H1⟩ := q
      cases q1
      clear e0 e1
      have e0 := H1.1.1
      have e1 := H1.1.2.1
      refine J_if (y := 0) rfl (fun hq => absurd hq (show ¬ (1 : Int32) = 0 by decide)) (fun _ => ?_)
      repeat (first | (refine J_step rfl rfl ?_) | (refine J_getf rfl rfl rfl (by assumption) rfl ?_))
      exact J_iret rfl rfl rfl rfl ⟨rfl, H1⟩
  · simp only [if_neg (show ¬ ((0 ≤ x ∧ x ≤ 1) ∧ 0 ≤ y ∧ y ≤ 6) from fun z => hv z.1)]
    rw [decide_eq_false hv]
    refine J_if (y := 0) rfl (fun _ => ?_) (fun hq => absurd rfl hq)
    repeat (first | (refine J_step rfl rfl ?_) | (refine J_getf rfl rfl rfl (by assumption) rfl ?_))
    refine J_callV rfl rfl rfl rfl rfl (by assumption) rfl rfl rfl rfl (m_thrT (d := 0) (MdP.rf H)) (Nat.zero_le _) (Nat.zero_le _) (fun E h9 q => by cases q.1) (fun v9 h1 q => ?_)
    obtain ⟨q1, H1⟩ := q
    cases q1
    clear e0 e1
    have e0 := H1.1.1
    have e1 := H1.1.2.1
    refine J_if (y := 0) rfl (fun hq => absurd hq (show ¬ (1 : Int32) = 0 by decide)) (fun _ => ?_)
    repeat (first | (refine J_step rfl rfl ?_) | (refine J_getf rfl rfl rfl (by assumption) rfl ?_))
    exact J_iret rfl rfl rfl rfl ⟨rfl, H1⟩
set_option maxRecDepth 100000 in
set_option maxHeartbeats 2000000 in
theorem m_unitsUntilByMoving {h : AHp} {v : Nat → Int32} {A : Nat → Nat → Int32} {q : LQ} {x y : Int32} (H : MdAt h v A) (S : SI (A 0) q) (hs : SoundC q.2.1 q.2.2.1) : JM mi_X6_unitsUntilByMoving 3 0 0 [.ref 121, .int x, .int y] h (fun r h' => r = .inl (some (.int (if (0 ≤ x ∧ x ≤ 1) ∧ 0 ≤ y ∧ y ≤ 6 then nI (uMv (y * 4) 48 (sPl q.2.1 x) (sUp (uB q.2.1) x)) else 0))) ∧ MdP h (fset v 1 (if (0 ≤ x ∧ x ≤ 1) ∧ 0 ≤ y ∧ y ≤ 6 then 0 else 1)) A h') := by
  have e0 := H.1
  have e1 := H.2.1
  have hl := S.2.2.2.2
  refine JM_of gd_X6_unitsUntilByMoving rfl (by decide +kernel) (Nat.le_of_ble_eq_true rfl) (oj_cats rfl) (by decide) ?_
  repeat (first | (refine J_step rfl rfl ?_) | (refine J_getf rfl rfl rfl (by assumption) rfl ?_))
  refine J_callV rfl rfl rfl rfl rfl e0 rfl rfl rfl rfl (m_unitsUntil H S hs) (Nat.zero_le _) (Nat.zero_le _) (fun E h9 q => by cases q.1) (fun v9 h1 q => ?_)
  obtain ⟨q1, H1⟩ := q
  cases q1
  exact J_iret rfl rfl rfl rfl ⟨rfl, H1⟩
set_option maxRecDepth 100000 in
set_option maxHeartbeats 2000000 in
theorem m_isPresent {h : AHp} {v : Nat → Int32} {A : Nat → Nat → Int32} {q : LQ} {x : Int32} (H : MdAt h v A) (S : SI (A 0) q) : JM mi_X6_isPresent 2 0 0 [.ref 121, .int x] h (fun r h' => r = .inl (some (.int (bI (!(lnRow q.2.2.1 x == -1))))) ∧ MdP h (fset v 1 (0)) A h') := by
  have e0 := H.1
  have e1 := H.2.1
  have hl := S.2.2.2.2
  refine JM_of gd_X6_isPresent rfl (by decide +kernel) (Nat.le_of_ble_eq_true rfl) (oj_cats rfl) (by decide) ?_
  repeat (first | (refine J_step rfl rfl ?_) | (refine J_getf rfl rfl rfl (by assumption) rfl ?_))
  refine J_putf rfl rfl rfl e0 rfl rfl (fun _ => rfl) rfl rfl ?_
  have H1 := H.fld (v' := fset v 1 0)
  refine J_heap (h2 := oj_up h 121 (rO (fset v 1 0))) rfl ?_
  generalize oj_up h 121 (rO (fset v 1 0)) = h1 at H1 ⊢
  clear e0 e1
  have e0 := H1.1.1
  have e1 := H1.1.2.1
  repeat (first | (refine J_step rfl rfl ?_) | (refine J_getf rfl rfl rfl (by assumption) rfl ?_))
  refine J_cV rfl rfl rfl rfl rfl (by assumption) rfl rfl rfl rfl rfl rfl (m_at H1.1 S) ?_
  rcases fstI_cases (fun j => (rAt q.2.2.1 j).1 == x) q.2.2.1.length with ⟨hv, -⟩ | ⟨i, hi, -, hv, -⟩
  · have hv : lnRow q.2.2.1 x = -1 := hv
    rw [hv]
    refine J_if (y := 0) rfl (fun _ => ?_) (fun hq => absurd (show (-1 : Int32) < 0 by decide) hq)
    repeat (first | (refine J_step rfl rfl ?_) | (refine J_getf rfl rfl rfl (by assumption) rfl ?_))
    exact J_zret rfl rfl rfl rfl false rfl ⟨rfl, H1⟩
  · have hv : lnRow q.2.2.1 x = nI i := hv
    rw [hv]
    refine J_if (y := 0) rfl (fun hq => absurd hq (nI_pos (by omega))) (fun _ => ?_)
    repeat (first | (refine J_step rfl rfl ?_) | (refine J_getf rfl rfl rfl (by assumption) rfl ?_))
    exact J_zret rfl rfl rfl rfl true rfl ⟨by rw [show (nI i == -1) = false from beq_false_of_ne (nI_neg1 (by omega))]; rfl, H1⟩
set_option maxRecDepth 100000 in
set_option maxHeartbeats 2000000 in
theorem m_ofPicker {h : AHp} {v : Nat → Int32} {A : Nat → Nat → Int32} {q : LQ} {x : Int32} {w : Nat} (H : MdAt h v A) (S : SI (A 0) q) (hw : w < 7) : JM mi_X6_ofPicker 2 0 0 [.ref 121, .int x, .int (nI w)] h (fun r h' => r = .inl (some (.int (if lnRow q.2.2.1 x = -1 then 0 else mRow (rAt q.2.2.1 (lnRow q.2.2.1 x).toNatClampNeg) w))) ∧ MdP h (fset v 1 (if lnRow q.2.2.1 x = -1 then 1 else 0)) A h') := by
  have e0 := H.1
  have e1 := H.2.1
  have hl := S.2.2.2.2
  refine JM_of gd_X6_ofPicker rfl (by decide +kernel) (Nat.le_of_ble_eq_true rfl) (oj_cats rfl) (by decide) ?_
  repeat (first | (refine J_step rfl rfl ?_) | (refine J_getf rfl rfl rfl (by assumption) rfl ?_))
  refine J_cV rfl rfl rfl rfl rfl (by assumption) rfl rfl rfl rfl rfl rfl (m_at H S) ?_
  rcases fstI_cases (fun j => (rAt q.2.2.1 j).1 == x) q.2.2.1.length with ⟨hv, -⟩ | ⟨i, hi, -, hv, -⟩
  · have hv : lnRow q.2.2.1 x = -1 := hv
    simp only [hv, if_true]
    repeat (first | (refine J_step rfl rfl ?_) | (refine J_getf rfl rfl rfl (by assumption) rfl ?_))
    refine J_if (y := 0) rfl (fun hq => absurd hq (show ¬ (0 : Int32) ≤ -1 by decide)) (fun _ => ?_)
    repeat (first | (refine J_step rfl rfl ?_) | (refine J_getf rfl rfl rfl (by assumption) rfl ?_))
    refine J_callV rfl rfl rfl rfl rfl (by assumption) rfl rfl rfl rfl (m_thrT (d := 0) (MdP.rf H)) (Nat.zero_le _) (Nat.zero_le _) (fun E h9 q => by cases q.1) (fun v9 h1 q => ?_)
    obtain ⟨q1, H1⟩ := q
    cases q1
    clear e0 e1
    have e0 := H1.1.1
    have e1 := H1.1.2.1
    refine J_if (y := 0) rfl (fun hq => absurd hq (show ¬ (1 : Int32) = 0 by decide)) (fun _ => ?_)
    repeat (first | (refine J_step rfl rfl ?_) | (refine J_getf rfl rfl rfl (by assumption) rfl ?_))
    exact J_iret rfl rfl rfl rfl ⟨rfl, H1⟩
  · have hv : lnRow q.2.2.1 x = nI i := hv
    have hi20 : i ≤ 20 := by omega
    simp only [hv, if_neg (nI_neg1 hi20), nI_clamp (show i < 2 ^ 31 by omega)]
    repeat (first | (refine J_step rfl rfl ?_) | (refine J_getf rfl rfl rfl (by assumption) rfl ?_))
    refine J_if (y := 0) rfl (fun _ => ?_) (fun hq => absurd (nI_pos' (by omega)) hq)
    repeat (first | (refine J_step rfl rfl ?_) | (refine J_getf rfl rfl rfl (by assumption) rfl ?_))
    refine J_callV rfl rfl rfl rfl rfl (by assumption) rfl rfl rfl rfl (m_thrF (d := 0) (MdP.rf H)) (Nat.zero_le _) (Nat.zero_le _) (fun E h9 q => by cases q.1) (fun v9 h1 q => ?_)
    obtain ⟨q1, H1⟩ := q
    cases q1
    clear e0 e1
    have e0 := H1.1.1
    have e1 := H1.1.2.1
    refine J_if (y := 0) rfl (fun _ => ?_) (fun hq => absurd rfl hq)
    repeat (first | (refine J_step rfl rfl ?_) | (refine J_getf rfl rfl rfl (by assumption) rfl ?_))
    refine J_cV rfl rfl rfl rfl rfl (by assumption) rfl rfl rfl rfl rfl rfl (m_of (d := 0) (w := w) H1.1 S hi hw) ?_
    exact J_iret rfl rfl rfl rfl ⟨rfl, H1⟩
set_option maxRecDepth 100000 in
set_option maxHeartbeats 2000000 in
theorem m_weight {h : AHp} {v : Nat → Int32} {A : Nat → Nat → Int32} {q : LQ} {x : Int32} (H : MdAt h v A) (S : SI (A 0) q) : JM mi_X6_weight 3 0 0 [.ref 121, .int x] h (fun r h' => r = .inl (some (.int (if lnRow q.2.2.1 x = -1 then 0 else (rAt q.2.2.1 (lnRow q.2.2.1 x).toNatClampNeg).2.1))) ∧ MdP h (fset v 1 (if lnRow q.2.2.1 x = -1 then 1 else 0)) A h') := by
  have e0 := H.1
  have e1 := H.2.1
  have hl := S.2.2.2.2
  refine JM_of gd_X6_weight rfl (by decide +kernel) (Nat.le_of_ble_eq_true rfl) (oj_cats rfl) (by decide) ?_
  repeat (first | (refine J_step rfl rfl ?_) | (refine J_getf rfl rfl rfl (by assumption) rfl ?_))
  refine J_callV rfl rfl rfl rfl rfl e0 rfl rfl rfl rfl (m_ofPicker (w := 1) H S (by decide)) (Nat.zero_le _) (Nat.zero_le _) (fun E h9 q => by cases q.1) (fun v9 h1 q => ?_)
  obtain ⟨q1, H1⟩ := q
  cases q1
  exact J_iret rfl rfl rfl rfl ⟨rfl, H1⟩
set_option maxRecDepth 100000 in
set_option maxHeartbeats 2000000 in
theorem m_destination {h : AHp} {v : Nat → Int32} {A : Nat → Nat → Int32} {q : LQ} {x : Int32} (H : MdAt h v A) (S : SI (A 0) q) : JM mi_X6_destination 3 0 0 [.ref 121, .int x] h (fun r h' => r = .inl (some (.int (if lnRow q.2.2.1 x = -1 then 0 else (rAt q.2.2.1 (lnRow q.2.2.1 x).toNatClampNeg).2.2.2.1))) ∧ MdP h (fset v 1 (if lnRow q.2.2.1 x = -1 then 1 else 0)) A h') := by
  have e0 := H.1
  have e1 := H.2.1
  have hl := S.2.2.2.2
  refine JM_of gd_X6_destination rfl (by decide +kernel) (Nat.le_of_ble_eq_true rfl) (oj_cats rfl) (by decide) ?_
  repeat (first | (refine J_step rfl rfl ?_) | (refine J_getf rfl rfl rfl (by assumption) rfl ?_))
  refine J_callV rfl rfl rfl rfl rfl e0 rfl rfl rfl rfl (m_ofPicker (w := 3) H S (by decide)) (Nat.zero_le _) (Nat.zero_le _) (fun E h9 q => by cases q.1) (fun v9 h1 q => ?_)
  obtain ⟨q1, H1⟩ := q
  cases q1
  exact J_iret rfl rfl rfl rfl ⟨rfl, H1⟩
set_option maxRecDepth 100000 in
set_option maxHeartbeats 2000000 in
theorem m_cabinOf {h : AHp} {v : Nat → Int32} {A : Nat → Nat → Int32} {q : LQ} {x : Int32} (H : MdAt h v A) (S : SI (A 0) q) : JM mi_X6_cabinOf 2 0 0 [.ref 121, .int x] h (fun r h' => r = .inl (some (.int (if lnRow q.2.2.1 x = -1 ∨ (rAt q.2.2.1 (lnRow q.2.2.1 x).toNatClampNeg).2.2.2.2.2.1 = -1 then 0 else (rAt q.2.2.1 (lnRow q.2.2.1 x).toNatClampNeg).2.2.2.2.2.1))) ∧ MdP h (fset v 1 (if lnRow q.2.2.1 x = -1 ∨ (rAt q.2.2.1 (lnRow q.2.2.1 x).toNatClampNeg).2.2.2.2.2.1 = -1 then 1 else 0)) A h') := by
  have e0 := H.1
  have e1 := H.2.1
  have hl := S.2.2.2.2
  refine JM_of gd_X6_cabinOf rfl (by decide +kernel) (Nat.le_of_ble_eq_true rfl) (oj_cats rfl) (by decide) ?_
  repeat (first | (refine J_step rfl rfl ?_) | (refine J_getf rfl rfl rfl (by assumption) rfl ?_))
  refine J_cV rfl rfl rfl rfl rfl (by assumption) rfl rfl rfl rfl rfl rfl (m_at H S) ?_
  rcases fstI_cases (fun j => (rAt q.2.2.1 j).1 == x) q.2.2.1.length with ⟨hv, -⟩ | ⟨i, hi, -, hv, -⟩
  · have hv : lnRow q.2.2.1 x = -1 := hv
    simp only [if_pos (show lnRow q.2.2.1 x = -1 ∨ _ from Or.inl hv)]
    rw [hv]
    repeat (first | (refine J_step rfl rfl ?_) | (refine J_getf rfl rfl rfl (by assumption) rfl ?_))
    refine J_if (y := 0) rfl (fun _ => ?_) (fun hq => absurd (show (-1 : Int32) < 0 by decide) hq)
    repeat (first | (refine J_step rfl rfl ?_) | (refine J_getf rfl rfl rfl (by assumption) rfl ?_))
    refine J_callV rfl rfl rfl rfl rfl (by assumption) rfl rfl rfl rfl (m_thrT (d := 0) (MdP.rf H)) (Nat.zero_le _) (Nat.zero_le _) (fun E h9 q => by cases q.1) (fun v9 h1 q => ?_)
    obtain ⟨q1, H1⟩ := q
    cases q1
    clear e0 e1
    have e0 := H1.1.1
    have e1 := H1.1.2.1
    refine J_if (y := 0) rfl (fun hq => absurd hq (show ¬ (1 : Int32) = 0 by decide)) (fun _ => ?_)
    repeat (first | (refine J_step rfl rfl ?_) | (refine J_getf rfl rfl rfl (by assumption) rfl ?_))
    exact J_iret rfl rfl rfl rfl ⟨rfl, H1⟩
  · have hv : lnRow q.2.2.1 x = nI i := hv
    rw [hv, nI_clamp (by omega)]
    repeat (first | (refine J_step rfl rfl ?_) | (refine J_getf rfl rfl rfl (by assumption) rfl ?_))
    refine J_if (y := 0) rfl (fun hq => absurd hq (nI_pos (by omega))) (fun _ => ?_)
    repeat (first | (refine J_step rfl rfl ?_) | (refine J_getf rfl rfl rfl (by assumption) rfl ?_))
    refine J_cV rfl rfl rfl rfl rfl (by assumption) rfl rfl rfl rfl rfl rfl (m_of (d := 0) (w := 4) H S hi (by decide)) ?_
    refine J_if (y := 0) rfl (fun hq => ?_) (fun hq => ?_)
    · have hq : ¬ (rAt q.2.2.1 i).2.2.2.2.2.1 = -1 := fun z => hq (by show (rAt q.2.2.1 i).2.2.2.2.2.1 + 1 = 0; rw [z]; rfl)
      simp only [if_neg (show ¬ (nI i = -1 ∨ (rAt q.2.2.1 i).2.2.2.2.2.1 = -1) from fun z => z.elim (nI_neg1 (by omega)) hq)]
      repeat (first | (refine J_step rfl rfl ?_) | (refine J_getf rfl rfl rfl (by assumption) rfl ?_))
      refine J_callV rfl rfl rfl rfl rfl (by assumption) rfl rfl rfl rfl (m_thrF (d := 0) (MdP.rf H)) (Nat.zero_le _) (Nat.zero_le _) (fun E h9 q => by cases q.1) (fun v9 h1 q => ?_)
      obtain ⟨q1, H1⟩ := q
      cases q1
      clear e0 e1
      have e0 := H1.1.1
      have e1 := H1.1.2.1
      refine J_if (y := 0) rfl (fun _ => ?_) (fun hq => absurd rfl hq)
      repeat (first | (refine J_step rfl rfl ?_) | (refine J_getf rfl rfl rfl (by assumption) rfl ?_))
      refine J_cV rfl rfl rfl rfl rfl (by assumption) rfl rfl rfl rfl rfl rfl (m_of (d := 0) (w := 4) H1.1 S hi (by decide)) ?_
      repeat (first | (refine J_step rfl rfl ?_) | (refine J_getf rfl rfl rfl (by assumption) rfl ?_))
      refine J_iret rfl rfl rfl rfl ⟨ri ?_, H1⟩
      show (rAt q.2.2.1 i).2.2.2.2.2.1 + 1 - 1 = _
      simp
    · have hq : (rAt q.2.2.1 i).2.2.2.2.2.1 = -1 := add1_inj.mp ((show (rAt q.2.2.1 i).2.2.2.2.2.1 + 1 = 0 from Classical.not_not.mp hq).trans (by decide))
      simp only [if_pos (show nI i = -1 ∨ (rAt q.2.2.1 i).2.2.2.2.2.1 = -1 from Or.inr hq)]
      repeat (first | (refine J_step rfl rfl ?_) | (refine J_getf rfl rfl rfl (by assumption) rfl ?_))
      refine J_callV rfl rfl rfl rfl rfl (by assumption) rfl rfl rfl rfl (m_thrT (d := 0) (MdP.rf H)) (Nat.zero_le _) (Nat.zero_le _) (fun E h9 q => by cases q.1) (fun v9 h1 q => ?_)
      obtain ⟨q1, H1⟩ := q
      cases q1
      clear e0 e1
      have e0 := H1.1.1
      have e1 := H1.1.2.1
      refine J_if (y := 0) rfl (fun hq => absurd hq (show ¬ (1 : Int32) = 0 by decide)) (fun _ => ?_)
      repeat (first | (refine J_step rfl rfl ?_) | (refine J_getf rfl rfl rfl (by assumption) rfl ?_))
      exact J_iret rfl rfl rfl rfl ⟨rfl, H1⟩
set_option maxRecDepth 100000 in
set_option maxHeartbeats 2000000 in
theorem m_waitingStations {h : AHp} {v : Nat → Int32} {A : Nat → Nat → Int32} {q : LQ} (H : MdAt h v A) (S : SI (A 0) q) : JM mi_X6_waitingStations 3 0 0 [.ref 121] h (fun r h' => r = .inl (some (.int (nI (sWs q.2.2.1 7)))) ∧ MdP h (fset v 1 (0)) A h') := by
  have e0 := H.1
  have e1 := H.2.1
  have hl := S.2.2.2.2
  refine JM_of gd_X6_waitingStations rfl (by decide +kernel) (Nat.le_of_ble_eq_true rfl) (oj_cats rfl) (by decide) ?_
  repeat (first | (refine J_step rfl rfl ?_) | (refine J_getf rfl rfl rfl (by assumption) rfl ?_))
  refine J_putf rfl rfl rfl e0 rfl rfl (fun _ => rfl) rfl rfl ?_
  have H1 := H.fld (v' := fset v 1 0)
  refine J_heap (h2 := oj_up h 121 (rO (fset v 1 0))) rfl ?_
  generalize oj_up h 121 (rO (fset v 1 0)) = h1 at H1 ⊢
  clear e0 e1
  have e0 := H1.1.1
  have e1 := H1.1.2.1
  have loop : ∀ m j, m + j = 7 → J mi_X6_waitingStations 3 0 0 (fun r h' => r = .inl (some (.int (nI (sWs q.2.2.1 7)))) ∧ MdP h (fset v 1 0) A h') 0 0 9 [some (.ref 121), some (.int (nI (sWs q.2.2.1 j))), some (.int (nI j))] [] h1 := by
    intro m
    induction m with
    | zero =>
      intro j hj
      obtain rfl : j = 7 := by omega
      repeat (first | (refine J_step rfl rfl ?_) | (refine J_getf rfl rfl rfl (by assumption) rfl ?_))
      refine J_ic rfl (fun hq => ?_) (fun hq => absurd (oj_ccT (by decide)) hq)
      repeat (first | (refine J_step rfl rfl ?_) | (refine J_getf rfl rfl rfl (by assumption) rfl ?_))
      exact J_iret rfl rfl rfl rfl ⟨rfl, H1⟩
    | succ m ih =>
      intro j hj
      have hle := crWtg_le (l := q.2.2.1) (s := nI j)
      repeat (first | (refine J_step rfl rfl ?_) | (refine J_getf rfl rfl rfl (by assumption) rfl ?_))
      refine J_ic rfl (fun hq => absurd (show nI 7 ≤ nI j from hq) (nI_ge (by omega) (by omega))) (fun hq => ?_)
      repeat (first | (refine J_step rfl rfl ?_) | (refine J_getf rfl rfl rfl (by assumption) rfl ?_))
      refine J_cV rfl rfl rfl rfl rfl (by assumption) rfl rfl rfl rfl rfl rfl (m_many H1.1 S) ?_
      have hs := ih (j + 1) (by omega)
      have hw : sWs q.2.2.1 (j + 1) = sWs q.2.2.1 j + (if 0 < crWtg q.2.2.1 (nI j) then 1 else 0) := rfl
      rw [nI_succ, hw] at hs
      refine J_if (y := 0) rfl (fun hq => ?_) (fun hq => ?_)
      · have hz : ¬ 0 < crWtg q.2.2.1 (nI j) := fun z => absurd (show nI (crWtg q.2.2.1 (nI j)) ≤ 0 from hq) (nI_nle z (by omega))
        rw [if_neg hz, Nat.add_zero] at hs
        iterate 5 (first | (refine J_step rfl rfl ?_) | (refine J_getf rfl rfl rfl (by assumption) rfl ?_))
        rw [Int32.add_zero]
        exact hs
      · have hz : 0 < crWtg q.2.2.1 (nI j) := Nat.pos_of_ne_zero fun z => hq (by rw [z]; exact (show nI 0 ≤ 0 by decide))
        rw [if_pos hz, nI_succ] at hs
        iterate 6 (first | (refine J_step rfl rfl ?_) | (refine J_getf rfl rfl rfl (by assumption) rfl ?_))
        exact hs
  iterate 4 (first | (refine J_step rfl rfl ?_) | (refine J_getf rfl rfl rfl (by assumption) rfl ?_))
  exact loop 7 0 rfl
theorem sBz_eq (l : List Row) : ∀ n, (sBz l (n + 1)).2 = crWtg l (nI (sBz l (n + 1)).1)
  | 0 => by
    have hw : sBz l (0 + 1) = if 0 < crWtg l (nI 0) then (0, crWtg l (nI 0)) else (0, 0) := rfl
    rw [hw]
    split
    · rfl
    · rename_i e
      show 0 = crWtg l (nI 0)
      omega
  | n + 1 => by
    have hw : sBz l (n + 1 + 1) = if (sBz l (n + 1)).2 < crWtg l (nI (n + 1)) then (n + 1, crWtg l (nI (n + 1))) else sBz l (n + 1) := rfl
    rw [hw]
    split
    · rfl
    · exact sBz_eq l n
theorem sBz_1 (l : List Row) : (sBz l 1).1 = 0 := by
  have hw : sBz l 1 = if 0 < crWtg l (nI 0) then (0, crWtg l (nI 0)) else (0, 0) := rfl
  rw [hw]
  split <;> rfl
set_option maxRecDepth 100000 in
set_option maxHeartbeats 2000000 in
theorem m_busiestStation {h : AHp} {v : Nat → Int32} {A : Nat → Nat → Int32} {q : LQ} (H : MdAt h v A) (S : SI (A 0) q) : JM mi_X6_busiestStation 3 0 0 [.ref 121] h (fun r h' => r = .inl (some (.int (if (sBz q.2.2.1 7).2 = 0 then 0 else nI (sBz q.2.2.1 7).1))) ∧ MdP h (fset v 1 (if (sBz q.2.2.1 7).2 = 0 then 1 else 0)) A h') := by
  have e0 := H.1
  have e1 := H.2.1
  have hl := S.2.2.2.2
  refine JM_of gd_X6_busiestStation rfl (by decide +kernel) (Nat.le_of_ble_eq_true rfl) (oj_cats rfl) (by decide) ?_
  have loop : ∀ m j, m + j = 6 → J mi_X6_busiestStation 3 0 0 (fun r h' => r = .inl (some (.int (if (sBz q.2.2.1 7).2 = 0 then 0 else nI (sBz q.2.2.1 7).1))) ∧ MdP h (fset v 1 (if (sBz q.2.2.1 7).2 = 0 then 1 else 0)) A h') 0 0 4 [some (.ref 121), some (.int (nI (sBz q.2.2.1 (j + 1)).1)), some (.int (nI (j + 1)))] [] h := by
    intro m
    induction m with
    | zero =>
      intro j hj
      obtain rfl : j = 6 := by omega
      have hle := sBz_le (l := q.2.2.1) 7
      repeat (first | (refine J_step rfl rfl ?_) | (refine J_getf rfl rfl rfl (by assumption) rfl ?_))
      refine J_ic rfl (fun hq => ?_) (fun hq => absurd (oj_ccT (by decide)) hq)
      repeat (first | (refine J_step rfl rfl ?_) | (refine J_getf rfl rfl rfl (by assumption) rfl ?_))
      refine J_cV rfl rfl rfl rfl rfl (by assumption) rfl rfl rfl rfl rfl rfl (m_many H S) ?_
      rw [← sBz_eq q.2.2.1 6]
      by_cases hz : (sBz q.2.2.1 7).2 = 0
      · simp only [hz, if_true]
        refine J_if (y := 0) rfl (fun hq => absurd rfl hq) (fun _ => ?_)
        repeat (first | (refine J_step rfl rfl ?_) | (refine J_getf rfl rfl rfl (by assumption) rfl ?_))
        refine J_callV rfl rfl rfl rfl rfl (by assumption) rfl rfl rfl rfl (m_thrT (d := 0) (MdP.rf H)) (Nat.zero_le _) (Nat.zero_le _) (fun E h9 q => by cases q.1) (fun v9 h1 q => ?_)
        obtain ⟨q1, H1⟩ := q
        cases q1
        clear e0 e1
        have e0 := H1.1.1
        have e1 := H1.1.2.1
        refine J_if (y := 0) rfl (fun hq => absurd hq (show ¬ (1 : Int32) = 0 by decide)) (fun _ => ?_)
        repeat (first | (refine J_step rfl rfl ?_) | (refine J_getf rfl rfl rfl (by assumption) rfl ?_))
        exact J_iret rfl rfl rfl rfl ⟨rfl, H1⟩
      · simp only [if_neg hz]
        refine J_if (y := 0) rfl (fun _ => ?_) (fun hq => absurd (nI_ne0 (n := (sBz q.2.2.1 (6 + 1)).2) (Nat.pos_of_ne_zero hz) (by show (sBz q.2.2.1 7).2 < _; omega)) hq)
        repeat (first | (refine J_step rfl rfl ?_) | (refine J_getf rfl rfl rfl (by assumption) rfl ?_))
        refine J_callV rfl rfl rfl rfl rfl (by assumption) rfl rfl rfl rfl (m_thrF (d := 0) (MdP.rf H)) (Nat.zero_le _) (Nat.zero_le _) (fun E h9 q => by cases q.1) (fun v9 h1 q => ?_)
        obtain ⟨q1, H1⟩ := q
        cases q1
        clear e0 e1
        have e0 := H1.1.1
        have e1 := H1.1.2.1
        refine J_if (y := 0) rfl (fun _ => ?_) (fun hq => absurd rfl hq)
        repeat (first | (refine J_step rfl rfl ?_) | (refine J_getf rfl rfl rfl (by assumption) rfl ?_))
        exact J_iret rfl rfl rfl rfl ⟨rfl, H1⟩
    | succ m ih =>
      intro j hj
      have hle := crWtg_le (l := q.2.2.1) (s := nI (j + 1))
      have hle2 := sBz_le (l := q.2.2.1) (j + 1)
      repeat (first | (refine J_step rfl rfl ?_) | (refine J_getf rfl rfl rfl (by assumption) rfl ?_))
      refine J_ic rfl (fun hq => absurd (show nI 7 ≤ nI (j + 1) from hq) (nI_ge (by omega) (by omega))) (fun hq => ?_)
      repeat (first | (refine J_step rfl rfl ?_) | (refine J_getf rfl rfl rfl (by assumption) rfl ?_))
      refine J_cV rfl rfl rfl rfl rfl (by assumption) rfl rfl rfl rfl rfl rfl (m_many H S) ?_
      repeat (first | (refine J_step rfl rfl ?_) | (refine J_getf rfl rfl rfl (by assumption) rfl ?_))
      refine J_cV rfl rfl rfl rfl rfl (by assumption) rfl rfl rfl rfl rfl rfl (m_many H S) ?_
      rw [← sBz_eq q.2.2.1 j]
      have hs := ih (j + 1) (by omega)
      have hw : sBz q.2.2.1 (j + 1 + 1) = if (sBz q.2.2.1 (j + 1)).2 < crWtg q.2.2.1 (nI (j + 1)) then (j + 1, crWtg q.2.2.1 (nI (j + 1))) else sBz q.2.2.1 (j + 1) := rfl
      rw [hw, nI_succ (j + 1)] at hs
      refine J_ic rfl (fun hq => ?_) (fun hq => ?_)
      · have hz : ¬ (sBz q.2.2.1 (j + 1)).2 < crWtg q.2.2.1 (nI (j + 1)) := fun z => absurd (show nI (crWtg q.2.2.1 (nI (j + 1))) ≤ nI (sBz q.2.2.1 (j + 1)).2 from hq) (nI_ge z (by omega))
        rw [if_neg hz] at hs
        iterate 4 (first | (refine J_step rfl rfl ?_) | (refine J_getf rfl rfl rfl (by assumption) rfl ?_))
        exact hs
      · have hz : (sBz q.2.2.1 (j + 1)).2 < crWtg q.2.2.1 (nI (j + 1)) := by
          rcases Nat.lt_or_ge (sBz q.2.2.1 (j + 1)).2 (crWtg q.2.2.1 (nI (j + 1))) with z | z
          · exact z
          · exact absurd (nI_le z (by omega)) hq
        rw [if_pos hz] at hs
        iterate 5 (first | (refine J_step rfl rfl ?_) | (refine J_getf rfl rfl rfl (by assumption) rfl ?_))
        exact hs
  iterate 4 (first | (refine J_step rfl rfl ?_) | (refine J_getf rfl rfl rfl (by assumption) rfl ?_))
  have hs := loop 6 0 rfl
  rw [sBz_1] at hs
  exact hs
