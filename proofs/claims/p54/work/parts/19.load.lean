def crAh (up : Bool) (s : Int32) (r : Row) : Bool := if up then decide (s < r.2.2.2.1) else decide (r.2.2.2.1 < s)
/-- who boards: the rows and the next boarding number behind it; i inside, cap seats -/
def crLd (cab s cap : Int32) (up : Bool) : Nat → Int32 → List Row → List Row × Int32
  | _, nb, [] => ([], nb)
  | i, nb, r :: rs => if decide (nI i < cap) && (crW s r && crAh up s r)
      then ((r.1, r.2.1, r.2.2.1, r.2.2.2.1, r.2.2.2.2.1, cab, nb) :: (crLd cab s cap up (i + 1) (nb + 1) rs).1, (crLd cab s cap up (i + 1) (nb + 1) rs).2)
      else (r :: (crLd cab s cap up i nb rs).1, (crLd cab s cap up i nb rs).2)
theorem crLd_full {cab s cap : Int32} {up : Bool} {i : Nat} {nb : Int32} (h : ¬ nI i < cap) (l : List Row) : crLd cab s cap up i nb l = (l, nb) := by
  induction l with
  | nil => rfl
  | cons r rs ih => rw [crLd, if_neg (by simp [h]), ih]
theorem crLd_len (cab s cap : Int32) (up : Bool) (l : List Row) : ∀ (i : Nat) (nb : Int32), (crLd cab s cap up i nb l).1.length = l.length := by
  induction l with
  | nil => intro i nb; rfl
  | cons r rs ih =>
    intro i nb
    rw [crLd]
    split
    · simp only [List.length_cons, ih]
    · simp only [List.length_cons, ih]
theorem rowsAt_app {R : Nat → Nat → Int32} {l m : List Row} (h1 : RowsAt R l) (h2 : ∀ j r, m[j]? = some r → ∀ w, w < 7 → R w (l.length + j) = rowV r w) : RowsAt R (l ++ m) := rowsAt_iff.mpr fun j r hj w hw => by
  by_cases q : j < l.length
  · rw [List.getElem?_append_left q] at hj
    exact rowsAt_iff.mp h1 j r hj w hw
  · rw [List.getElem?_append_right (by omega)] at hj
    have := h2 _ r hj w hw
    rwa [show l.length + (j - l.length) = j by omega] at this
set_option maxRecDepth 100000 in
set_option maxHeartbeats 4000000 in
set_option maxRecDepth 100000 in
set_option maxHeartbeats 2000000 in
theorem c_load {h : AHp} {a : Nat} {l : List Row} {nb cab s cap : Int32} {up : Bool} (hC : CrAt h a l nb) : JM mi_X0_load 1 0 0 [.ref a, .int cab, .int s, .int (bI up), .int cap] h (fun r h' => r = .inl none ∧ crIs h a (crLd cab s cap up (crRid l cab) nb l).1 (crLd cab s cap up (crRid l cab) nb l).2 h') := by
  have hC0 := hC
  have hlen : l.length ≤ 20 := by obtain ⟨R, hC, -⟩ := hC; exact hC.2.2.2.2.2.2.2.2
  refine JM_of gd_X0_load rfl (by decide +kernel) (Nat.le_of_ble_eq_true rfl) (oj_cats rfl) (by decide) ?_
  have loop : ∀ (m : List Row) (p : List Row) (i : Nat) (b : Int32) (z : Option Value) (R : Nat → Nat → Int32), (p ++ m).length = l.length → i ≤ 40 - m.length → RowsAt R (p ++ m) → (p ++ (crLd cab s cap up i b m).1 = (crLd cab s cap up (crRid l cab) nb l).1 ∧ (crLd cab s cap up i b m).2 = (crLd cab s cap up (crRid l cab) nb l).2) →
      J mi_X0_load 1 0 0 (fun r h' => r = .inl none ∧ crIs h a (crLd cab s cap up (crRid l cab) nb l).1 (crLd cab s cap up (crRid l cab) nb l).2 h') 0 0 10 [some (.ref a), some (.int cab), some (.int s), some (.int (bI up)), some (.int cap), some (.int (nI i)), some (.int (nI p.length)), z] [] (crPut h a R l.length b) := by
    intro m
    induction m with
    | nil =>
      intro p i b z R hpm hi hR hfin
      rw [List.append_nil] at hpm hR
      iterate 3 (first | (refine J_step rfl rfl ?_) | (refine J_getf rfl rfl rfl crPut_0 rfl ?_))
      rw [hpm]
      refine J_ic rfl (fun hq => ?_) (fun hq => absurd (Int32.le_refl _) hq)
      refine J_vret rfl rfl rfl rfl ⟨rfl, ?_⟩
      obtain ⟨f1, f2⟩ := hfin
      rw [crLd] at f1 f2
      rw [List.append_nil] at f1
      rw [← f1, ← f2]
      exact ⟨R, by rw [hpm], hR, by omega⟩
    | cons r m ih =>
      intro p i b z R hpm hi hR hfin
      have hlt : p.length < l.length := by rw [← hpm, List.length_append, List.length_cons]; omega
      have hm1 : m.length + 1 ≤ 20 := by rw [List.length_append, List.length_cons] at hpm; omega
      have hrow : (p ++ r :: m)[p.length]? = some r := by rw [List.getElem?_append_right (Nat.le_refl _), Nat.sub_self]; rfl
      have hr := rowsAt_iff.mp hR p.length r hrow
      have hCr : CrAt (crPut h a R l.length b) a (p ++ r :: m) b := ⟨R, by rw [hpm]; exact crPut_raw (by omega), hR⟩
      have hrat : rAt (p ++ r :: m) p.length = r := by unfold rAt; rw [List.getD_eq_getElem?_getD, hrow]; rfl
      have hpl : nI p.length + 1 = nI (p ++ [r]).length := by rw [List.length_append, ← nI_succ]; rfl
      iterate 3 (first | (refine J_step rfl rfl ?_) | (refine J_getf rfl rfl rfl crPut_0 rfl ?_))
      refine J_ic rfl (fun hq => absurd hq (nI_ge (by omega) (by omega))) (fun hq => ?_)
      iterate 2 (refine J_step rfl rfl ?_)
      refine J_ic rfl (fun hq2 => ?_) (fun hq2 => ?_)
      · simp only [oj_cc] at hq2
        refine J_vret rfl rfl rfl rfl ⟨rfl, ?_⟩
        obtain ⟨f1, f2⟩ := hfin
        rw [crLd_full (Int32.not_lt.mpr hq2)] at f1 f2
        rw [← f1, ← f2]
        exact ⟨R, by rw [hpm], hR, by show (p ++ r :: m).length ≤ 20; rw [hpm]; exact hlen⟩
      · simp only [oj_cc, Int32.not_le] at hq2
        have tail : ∀ t : Bool, t = crAh up s r → J mi_X0_load 1 0 0 (fun r h' => r = .inl none ∧ crIs h a (crLd cab s cap up (crRid l cab) nb l).1 (crLd cab s cap up (crRid l cab) nb l).2 h') 0 0 67 [some (.ref a), some (.int cab), some (.int s), some (.int (bI up)), some (.int cap), some (.int (nI i)), some (.int (nI p.length)), some (.int (bI t))] [] (crPut h a R l.length b) := by
          intro t ht
          iterate 3 (refine J_step rfl rfl ?_)
          refine J_cV rfl rfl rfl rfl rfl crPut_0 rfl rfl rfl rfl rfl rfl (c_waitsAt (d := 0) hCr (by rw [hpm]; exact hlt)) ?_
          rw [hrat]
          have skip : (crW s r && crAh up s r) = false → J mi_X0_load 1 0 0 (fun r h' => r = .inl none ∧ crIs h a (crLd cab s cap up (crRid l cab) nb l).1 (crLd cab s cap up (crRid l cab) nb l).2 h') 0 0 114 [some (.ref a), some (.int cab), some (.int s), some (.int (bI up)), some (.int cap), some (.int (nI i)), some (.int (nI p.length)), some (.int (bI t))] [] (crPut h a R l.length b) := by
            intro hno
            obtain ⟨f1, f2⟩ := hfin
            rw [crLd, if_neg (by simp [hno])] at f1 f2
            have hs := ih (p ++ [r]) i b (some (.int (bI t))) R (by rw [List.append_assoc]; exact hpm) (by rw [List.length_cons] at hi; omega) (by rw [List.append_assoc]; exact hR) ⟨by rw [List.append_assoc]; exact f1, f2⟩
            rw [← hpl] at hs
            iterate 2 (first | (refine J_step rfl rfl ?_) | (refine J_getf rfl rfl rfl (by assumption) rfl ?_))
            exact hs
          refine J_if (y := 0) rfl (fun hq3 => ?_) (fun hq3 => ?_)
          · have hb : crW s r = false := by cases hb : crW s r <;> simp_all [oj_cz, bI]
            exact skip (by rw [hb]; rfl)
          · have hb : crW s r = true := by cases hb : crW s r <;> simp_all [oj_cz, bI]
            iterate 1 (refine J_step rfl rfl ?_)
            refine J_if (y := 0) rfl (fun hq4 => ?_) (fun hq4 => ?_)
            · have ht0 : t = false := by cases t <;> simp_all [oj_cz, bI]
              exact skip (by rw [← ht, ht0, Bool.and_false])
            · have ht0 : t = true := by cases t <;> simp_all [oj_cz, bI]
              obtain ⟨f1, f2⟩ := hfin
              rw [crLd, if_pos (by simp [hq2, hb, ← ht, ht0])] at f1 f2
              iterate 4 (first | (refine J_step rfl rfl ?_) | (refine J_getf rfl rfl rfl crPut_0 rfl ?_))
              refine J_iast rfl (crPut_k (k := 5) (by omega)) (vp_in_nI (by omega) (by omega)) ?_
              rw [nI_clamp (by omega)]
              refine J_heap (crPut_col (k := 5) (by omega)).symm ?_
              iterate 5 (first | (refine J_step rfl rfl ?_) | (refine J_getf rfl rfl rfl crPut_0 rfl ?_))
              refine J_iast rfl (crPut_k (k := 6) (by omega)) (vp_in_nI (by omega) (by omega)) ?_
              rw [nI_clamp (by omega)]
              refine J_heap (crPut_col (k := 6) (by omega)).symm ?_
              iterate 5 (first | (refine J_step rfl rfl ?_) | (refine J_getf rfl rfl rfl crPut_0 rfl ?_))
              refine J_putf rfl rfl rfl crPut_0 rfl rfl (fun _ => rfl) rfl rfl ?_
              have hs := ih (p ++ [(r.1, r.2.1, r.2.2.1, r.2.2.2.1, r.2.2.2.2.1, cab, b)]) (i + 1) (b + 1) (some (.int (bI t))) (fun w j => if j = p.length then rowV (r.1, r.2.1, r.2.2.1, r.2.2.2.1, r.2.2.2.2.1, cab, b) w else R w j)
                (by rw [List.append_assoc]; simpa using hpm) (by rw [List.length_cons] at hi; omega) ?_ ⟨by rw [List.append_assoc]; exact f1, f2⟩
              · rw [show (p ++ [(r.1, r.2.1, r.2.2.1, r.2.2.2.1, r.2.2.2.2.1, cab, b)]).length = (p ++ [r]).length by simp, ← hpl, nI_succ] at hs
                refine J_heap (h2 := crPut h a (fun w j => if j = p.length then rowV (r.1, r.2.1, r.2.2.1, r.2.2.2.1, r.2.2.2.2.1, cab, b) w else R w j) l.length (b + 1)) ?_ ?_
                · rw [← crPut_cnt (c := l.length) (nb := b)]
                  congr 1
                  refine crPut_congr fun w hw => ?_
                  funext j
                  by_cases e : j = p.length
                  · subst e
                    rw [if_pos rfl]
                    match w, hw with
                    | 0, _ => exact (hr 0 (by omega)).symm
                    | 1, _ => exact (hr 1 (by omega)).symm
                    | 2, _ => exact (hr 2 (by omega)).symm
                    | 3, _ => exact (hr 3 (by omega)).symm
                    | 4, _ => exact (hr 4 (by omega)).symm
                    | 5, _ => simp [upd, rowV]
                    | 6, _ => simp [upd, rowV]
                  · rw [if_neg e]
                    match w, hw with
                    | 0, _ => rfl
                    | 1, _ => rfl
                    | 2, _ => rfl
                    | 3, _ => rfl
                    | 4, _ => rfl
                    | 5, _ => simp [upd, e]
                    | 6, _ => simp [upd, e]
                · iterate 3 (first | (refine J_step rfl rfl ?_) | (refine J_getf rfl rfl rfl (by assumption) rfl ?_))
                  exact hs
              · rw [List.append_assoc]
                refine rowsAt_iff.mpr fun j r' hj w hw => ?_
                by_cases e : j = p.length
                · subst e
                  rw [List.getElem?_append_right (Nat.le_refl _), Nat.sub_self] at hj
                  cases hj
                  rw [if_pos rfl]
                · rw [if_neg e]
                  refine rowsAt_iff.mp hR j r' ?_ w hw
                  by_cases q : j < p.length
                  · rw [List.getElem?_append_left q] at hj ⊢; exact hj
                  · rw [List.getElem?_append_right (by omega)] at hj ⊢
                    obtain ⟨x, hx⟩ : ∃ x, j - p.length = x + 1 := ⟨j - p.length - 1, by omega⟩
                    rw [hx] at hj ⊢
                    exact hj
        iterate 1 (refine J_step rfl rfl ?_)
        refine J_if (y := 0) rfl (fun hq3 => ?_) (fun hq3 => ?_)
        · have hu : up = false := by cases up <;> simp_all [oj_cz, bI]
          iterate 3 (first | (refine J_step rfl rfl ?_) | (refine J_getf rfl rfl rfl crPut_0 rfl ?_))
          refine J_iald rfl (crPut_k (k := 3) (by omega)) (vp_in_nI (by omega) (by omega)) ?_
          rw [nI_clamp (by omega), hr 3 (by omega)]
          iterate 1 (refine J_step rfl rfl ?_)
          refine J_ic rfl (fun hq4 => ?_) (fun hq4 => ?_)
          · iterate 2 (first | (refine J_step rfl rfl ?_) | (refine J_getf rfl rfl rfl (by assumption) rfl ?_))
            exact tail false (by simp only [oj_cc, rowV] at hq4; simp [crAh, hu, hq4])
          · iterate 3 (first | (refine J_step rfl rfl ?_) | (refine J_getf rfl rfl rfl (by assumption) rfl ?_))
            exact tail true (by simp only [oj_cc, rowV, Int32.not_le] at hq4; simp [crAh, hu, hq4])
        · have hu : up = true := by cases up <;> simp_all [oj_cz, bI]
          iterate 3 (first | (refine J_step rfl rfl ?_) | (refine J_getf rfl rfl rfl crPut_0 rfl ?_))
          refine J_iald rfl (crPut_k (k := 3) (by omega)) (vp_in_nI (by omega) (by omega)) ?_
          rw [nI_clamp (by omega), hr 3 (by omega)]
          iterate 1 (refine J_step rfl rfl ?_)
          refine J_ic rfl (fun hq4 => ?_) (fun hq4 => ?_)
          · iterate 3 (first | (refine J_step rfl rfl ?_) | (refine J_getf rfl rfl rfl (by assumption) rfl ?_))
            exact tail false (by simp only [oj_cc, rowV] at hq4; simp [crAh, hu, hq4])
          · iterate 3 (first | (refine J_step rfl rfl ?_) | (refine J_getf rfl rfl rfl (by assumption) rfl ?_))
            exact tail true (by simp only [oj_cc, rowV, Int32.not_le] at hq4; simp [crAh, hu, hq4])
  obtain ⟨R, hC, hR⟩ := hC
  refine J_heap (crPut_self hC) ?_
  iterate 2 (refine J_step rfl rfl ?_)
  refine J_cV rfl rfl rfl rfl rfl crPut_0 rfl rfl rfl rfl rfl rfl (c_countRiders (d := 0) ⟨R, crPut_raw hlen, hR⟩) ?_
  iterate 3 (first | (refine J_step rfl rfl ?_) | (refine J_getf rfl rfl rfl (by assumption) rfl ?_))
  refine loop l [] (crRid l cab) nb none R rfl ?_ hR ⟨rfl, rfl⟩
  have : crRid l cab ≤ l.length := List.countP_le_length
  omega
