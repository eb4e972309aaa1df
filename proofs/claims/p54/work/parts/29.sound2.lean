theorem lg_nn {x : Int64} (h : 0 ≤ x) : ¬ lg_cmp x 0 < 0 := by
  unfold lg_cmp
  split
  · decide
  · split
    · decide
    · rename_i h1 h2
      exact absurd (Int64.le_antisymm (Int64.not_lt.mp h1) h) (fun z => h2 z)
def SoundV (F sl : Nat → Int32) (E Jn : Int64) : Prop := (∀ i, i < 6 → 0 ≤ sl i ∧ sl i ≤ 9) ∧ (∃ b : Bool, F 3 = bI b ∧ if b then 50 < F 2 else 0 ≤ F 2 ∧ F 2 < 100) ∧ 1 ≤ F 1 ∧ F 1 ≤ 6 ∧ 0 ≤ F 0 ∧ 0 ≤ F 9 ∧ 0 ≤ E ∧ 0 ≤ Jn
theorem i32_nlt {x y : Int32} (h : x ≤ y) : ¬ y < x := Int32.not_lt.mpr h
set_option maxRecDepth 100000 in
set_option maxHeartbeats 2000000 in
theorem c_hasSoundValues {d : Nat} {h : AHp} {a : Nat} {F sl : Nat → Int32} {l : List Row} {E Jn : Int64} (hL : LnAt h a F sl l E Jn) (hs : SoundV F sl E Jn) : JM mi_X2_hasSoundValues d 0 0 [.ref a] h (oj_is (.inl (some (.int (bI true)))) h) := by
  obtain ⟨e0, e1, -⟩ := hL
  obtain ⟨hsl, ⟨b, hb, hh⟩, hc1, hc2, ht, hm, hE, hJ⟩ := hs
  refine JM_of gd_X2_hasSoundValues rfl (by decide +kernel) (Nat.le_of_ble_eq_true rfl) (oj_cats rfl) (by decide) ?_
  have loop : ∀ m j, m + j = 6 → J mi_X2_hasSoundValues d 0 0 (oj_is (.inl (some (.int (bI true)))) h) 0 0 2 [some (.ref a), some (.int (nI j))] [] h := by
    intro m
    induction m with
    | zero =>
      intro j hj
      obtain rfl : j = 6 := by omega
      repeat (first | (refine J_step rfl rfl ?_) | (refine J_getf rfl rfl rfl (by assumption) rfl ?_))
      refine J_ic rfl (fun hq => ?_) (fun hq => absurd (oj_ccT (by decide)) hq)
      have fin : J mi_X2_hasSoundValues d 0 0 (oj_is (.inl (some (.int (bI true)))) h) 0 0 81 [some (.ref a), some (.int (nI 6))] [.int 1] h := by
        repeat (first | (refine J_step rfl rfl ?_) | (refine J_getf rfl rfl rfl (by assumption) rfl ?_))
        refine J_if (y := 0) rfl (fun hq => absurd hq (show ¬ (1 : Int32) = 0 by decide)) (fun hq => ?_)
        repeat (first | (refine J_step rfl rfl ?_) | (refine J_getf rfl rfl rfl (by assumption) rfl ?_))
        refine J_ic rfl (fun hq => absurd hq (i32_nlt hc1)) (fun hq => ?_)
        repeat (first | (refine J_step rfl rfl ?_) | (refine J_getf rfl rfl rfl (by assumption) rfl ?_))
        refine J_ic rfl (fun hq => absurd hq (i32_nlt hc2)) (fun hq => ?_)
        repeat (first | (refine J_step rfl rfl ?_) | (refine J_getf rfl rfl rfl (by assumption) rfl ?_))
        refine J_if (y := 0) rfl (fun hq => absurd hq (i32_nlt ht)) (fun hq => ?_)
        repeat (first | (refine J_step rfl rfl ?_) | (refine J_getf rfl rfl rfl (by assumption) rfl ?_))
        refine J_if (y := 0) rfl (fun hq => absurd hq (i32_nlt hm)) (fun hq => ?_)
        repeat (first | (refine J_step rfl rfl ?_) | (refine J_getf rfl rfl rfl (by assumption) rfl ?_))
        refine J_if (y := 0) rfl (fun hq => absurd hq (lg_nn hE)) (fun hq => ?_)
        repeat (first | (refine J_step rfl rfl ?_) | (refine J_getf rfl rfl rfl (by assumption) rfl ?_))
        refine J_if (y := 0) rfl (fun hq => absurd hq (lg_nn hJ)) (fun hq => ?_)
        repeat (first | (refine J_step rfl rfl ?_) | (refine J_getf rfl rfl rfl (by assumption) rfl ?_))
        exact J_zret rfl rfl rfl rfl true rfl ⟨rfl, rfl⟩
      repeat (first | (refine J_step rfl rfl ?_) | (refine J_getf rfl rfl rfl (by assumption) rfl ?_))
      rw [hb]
      cases b with
      | true =>
        rw [if_pos rfl] at hh
        refine J_if (y := 0) rfl (fun hq => absurd hq (show ¬ bI true = 0 by decide)) (fun hq => ?_)
        repeat (first | (refine J_step rfl rfl ?_) | (refine J_getf rfl rfl rfl (by assumption) rfl ?_))
        refine J_ic rfl (fun hq => absurd hh (Int32.not_lt.mpr hq)) (fun hq => ?_)
        iterate 2 (refine J_step rfl rfl ?_)
        exact fin
      | false =>
        rw [if_neg (by decide)] at hh
        refine J_if (y := 0) rfl (fun hq => ?_) (fun hq => absurd rfl hq)
        repeat (first | (refine J_step rfl rfl ?_) | (refine J_getf rfl rfl rfl (by assumption) rfl ?_))
        refine J_if (y := 0) rfl (fun hq => absurd hq (i32_nlt hh.1)) (fun hq => ?_)
        repeat (first | (refine J_step rfl rfl ?_) | (refine J_getf rfl rfl rfl (by assumption) rfl ?_))
        refine J_ic rfl (fun hq => absurd hh.2 (Int32.not_lt.mpr hq)) (fun hq => ?_)
        iterate 2 (refine J_step rfl rfl ?_)
        exact fin
    | succ m ih =>
      intro j hj
      have hv := hsl j (by omega)
      repeat (first | (refine J_step rfl rfl ?_) | (refine J_getf rfl rfl rfl (by assumption) rfl ?_))
      refine J_ic rfl (fun hq => absurd (show nI 6 ≤ nI j from hq) (nI_ge (by omega) (by omega))) (fun hq => ?_)
      repeat (first | (refine J_step rfl rfl ?_) | (refine J_getf rfl rfl rfl (by assumption) rfl ?_))
      refine J_iald rfl e1 (vp_in_nI (by omega) (by omega)) ?_
      rw [nI_clamp (by omega)]
      refine J_if (y := 0) rfl (fun hq => absurd hq (i32_nlt hv.1)) (fun hq => ?_)
      repeat (first | (refine J_step rfl rfl ?_) | (refine J_getf rfl rfl rfl (by assumption) rfl ?_))
      refine J_iald rfl e1 (vp_in_nI (by omega) (by omega)) ?_
      rw [nI_clamp (by omega)]
      repeat (first | (refine J_step rfl rfl ?_) | (refine J_getf rfl rfl rfl (by assumption) rfl ?_))
      refine J_ic rfl (fun hq => ?_) (fun hq => absurd hv.2 hq)
      have hs := ih (j + 1) (by omega)
      rw [nI_succ] at hs
      iterate 2 (first | (refine J_step rfl rfl ?_) | (refine J_getf rfl rfl rfl (by assumption) rfl ?_))
      exact hs
  iterate 2 (first | (refine J_step rfl rfl ?_) | (refine J_getf rfl rfl rfl (by assumption) rfl ?_))
  exact loop 6 0 rfl
def SoundC (F : Nat → Int32) (l : List Row) : Prop := 0 ≤ F 4 ∧ F 4 ≤ 24 ∧ gU F ∧ (F 4 = 0 → uB F = true) ∧ (F 4 = 24 → uB F = false) ∧ nI (crRid l 0) ≤ F 1 ∧ nI (crRid l 1) ≤ F 1
theorem nI_inj20 {i : Nat} (h : i ≤ 24) {x : Int32} (hx : x = nI i) : x.toInt = i := by rw [hx, nI_toInt (by omega)]
theorem uFM : ∀ p, p ≤ 24 → ∀ u : Bool, (p = 0 → u = true) → (p = 24 → u = false) → ∀ s, s < 7 → uFm (nI p) u (nI s * 4) = nI (uMv (nI s * 4) 48 (nI p) u) := by decide +kernel
theorem sc_units {F : Nat → Int32} {l : List Row} (hs : SoundC F l) {c s : Nat} (hc : c < 2) (hss : s < 7) : uFm (sPl F (nI c)) (sUp (uB F) (nI c)) (nI s * 4) = nI (uMv (nI s * 4) 48 (sPl F (nI c)) (sUp (uB F) (nI c))) := by
  obtain ⟨h0, h1, hu, hz, ht, -⟩ := hs
  have e : F 4 = nI (F 4).toNatClampNeg := (i32_clamp h0).symm
  have hp : (F 4).toNatClampNeg ≤ 24 := by
    have := Int32.le_iff_toInt_le.mp h1
    have : (F 4).toInt ≤ 24 := by simpa using this
    unfold Int32.toNatClampNeg
    omega
  generalize (F 4).toNatClampNeg = p at e hp
  match c, hc with
  | 0, _ =>
    have e1 : sPl F (nI 0) = nI p := e
    have e2 : sUp (uB F) (nI 0) = uB F := rfl
    rw [e1, e2]
    exact uFM p hp _ (fun z => hz (by rw [e, z]; rfl)) (fun z => ht (by rw [e, z]; rfl)) s hss
  | 1, _ =>
    have e1 : sPl F (nI 1) = nI (24 - p) := by
      show 24 - F 4 = _
      rw [e]
      have : ∀ p, p ≤ 24 → 24 - nI p = nI (24 - p) := by decide +kernel
      exact this p hp
    have e2 : sUp (uB F) (nI 1) = !uB F := rfl
    rw [e1, e2]
    exact uFM (24 - p) (by omega) _ (fun z => by rw [ht (by rw [e, show p = 24 by omega]; rfl)]; rfl) (fun z => by rw [hz (by rw [e, show p = 0 by omega]; rfl)]; rfl) s hss
set_option maxRecDepth 100000 in
set_option maxHeartbeats 2000000 in
theorem c_hasSoundCabins {h : AHp} {a : Nat} {F sl : Nat → Int32} {l : List Row} {E Jn : Int64} (hL : LnAt h a F sl l E Jn) (hs : SoundC F l) : JM mi_X2_hasSoundCabins 2 0 0 [.ref a] h (oj_is (.inl (some (.int (bI true)))) h) := by
  have hU := @sc_units F l hs
  obtain ⟨h0, h1, hu, hz, ht, r0, r1⟩ := hs
  obtain ⟨e0, e1, hC⟩ := id hL
  have hC' := hC
  obtain ⟨R, ⟨f0, -⟩, -⟩ := hC'
  have hF5 : F 5 = bI (uB F) := hu
  refine JM_of gd_X2_hasSoundCabins rfl (by decide +kernel) (Nat.le_of_ble_eq_true rfl) (oj_cats rfl) (by decide) ?_
  have inner : ∀ c, c < 2 → ∀ m j, m + j = 7 → J mi_X2_hasSoundCabins 2 0 0 (oj_is (.inl (some (.int (bI true)))) h) 0 0 103 [some (.ref a), some (.int (nI c)), some (.int (nI 7))] [] h → J mi_X2_hasSoundCabins 2 0 0 (oj_is (.inl (some (.int (bI true)))) h) 0 0 74 [some (.ref a), some (.int (nI c)), some (.int (nI j))] [] h := by
    intro c hc m
    induction m with
    | zero =>
      intro j hj kk
      obtain rfl : j = 7 := by omega
      repeat (first | (refine J_step rfl rfl ?_) | (refine J_getf rfl rfl rfl (by assumption) rfl ?_))
      refine J_ic rfl (fun hq => ?_) (fun hq => absurd (oj_ccT (by decide)) hq)
      exact kk
    | succ m ih =>
      intro j hj kk
      repeat (first | (refine J_step rfl rfl ?_) | (refine J_getf rfl rfl rfl (by assumption) rfl ?_))
      refine J_ic rfl (fun hq => absurd (show nI 7 ≤ nI j from hq) (nI_ge (by omega) (by omega))) (fun hq => ?_)
      repeat (first | (refine J_step rfl rfl ?_) | (refine J_getf rfl rfl rfl (by assumption) rfl ?_))
      refine J_cV rfl rfl rfl rfl rfl (by assumption) rfl rfl rfl rfl rfl rfl (c_unitsByFormula hL hu) ?_
      repeat (first | (refine J_step rfl rfl ?_) | (refine J_getf rfl rfl rfl (by assumption) rfl ?_))
      refine J_cV rfl rfl rfl rfl rfl (by assumption) rfl rfl rfl rfl rfl rfl (c_unitsByMoving hL hu) ?_
      refine J_ic rfl (fun hq => ?_) (fun hq => absurd (hU hc (by omega)) hq)
      have hs := ih (j + 1) (by omega) kk
      rw [nI_succ] at hs
      iterate 2 (first | (refine J_step rfl rfl ?_) | (refine J_getf rfl rfl rfl (by assumption) rfl ?_))
      exact hs
  have loop : ∀ m j, m + j = 2 → J mi_X2_hasSoundCabins 2 0 0 (oj_is (.inl (some (.int (bI true)))) h) 0 0 50 [some (.ref a), some (.int (nI j)), none] [] h := by
    intro m
    induction m with
    | zero =>
      intro j hj
      obtain rfl : j = 2 := by omega
      repeat (first | (refine J_step rfl rfl ?_) | (refine J_getf rfl rfl rfl (by assumption) rfl ?_))
      refine J_ic rfl (fun hq => ?_) (fun hq => absurd (oj_ccT (by decide)) hq)
      repeat (first | (refine J_step rfl rfl ?_) | (refine J_getf rfl rfl rfl (by assumption) rfl ?_))
      exact J_zret rfl rfl rfl rfl true rfl ⟨rfl, rfl⟩
    | succ m ih =>
      intro j hj
      have hr : nI (crRid l (nI j)) ≤ F 1 := by
        have hj2 : j < 2 := by omega
        match j, hj2 with
        | 0, _ => exact r0
        | 1, _ => exact r1
      repeat (first | (refine J_step rfl rfl ?_) | (refine J_getf rfl rfl rfl (by assumption) rfl ?_))
      refine J_ic rfl (fun hq => absurd (show nI 2 ≤ nI j from hq) (nI_ge (by omega) (by omega))) (fun hq => ?_)
      repeat (first | (refine J_step rfl rfl ?_) | (refine J_getf rfl rfl rfl (by assumption) rfl ?_))
      refine J_cV rfl rfl rfl rfl rfl (by assumption) rfl rfl rfl rfl rfl rfl (c_countRiders (d := 1) hC) ?_
      repeat (first | (refine J_step rfl rfl ?_) | (refine J_getf rfl rfl rfl (by assumption) rfl ?_))
      refine J_ic rfl (fun hq => ?_) (fun hq => absurd hr hq)
      iterate 2 (first | (refine J_step rfl rfl ?_) | (refine J_getf rfl rfl rfl (by assumption) rfl ?_))
      refine inner j (by omega) 7 0 rfl ?_
      have hs := ih (j + 1) (by omega)
      rw [nI_succ] at hs
      iterate 2 (first | (refine J_step rfl rfl ?_) | (refine J_getf rfl rfl rfl (by assumption) rfl ?_))
      exact J_fewer (ls' := [some (.ref a), some (.int (nI j + 1)), none]) rfl (fun i v hi => by
        match i, hi with
        | 0, hi => exact hi
        | 1, hi => exact hi
        | 2, hi => cases hi
        | n + 3, hi => cases hi) hs
  have go : J mi_X2_hasSoundCabins 2 0 0 (oj_is (.inl (some (.int (bI true)))) h) 0 0 48 [some (.ref a), none, none] [] h := by
    iterate 2 (first | (refine J_step rfl rfl ?_) | (refine J_getf rfl rfl rfl (by assumption) rfl ?_))
    exact loop 2 0 rfl
  repeat (first | (refine J_step rfl rfl ?_) | (refine J_getf rfl rfl rfl (by assumption) rfl ?_))
  refine J_if (y := 0) rfl (fun hq => absurd hq (i32_nlt h0)) (fun hq => ?_)
  repeat (first | (refine J_step rfl rfl ?_) | (refine J_getf rfl rfl rfl (by assumption) rfl ?_))
  refine J_ic rfl (fun hq => absurd hq (i32_nlt h1)) (fun hq => ?_)
  repeat (first | (refine J_step rfl rfl ?_) | (refine J_getf rfl rfl rfl (by assumption) rfl ?_))
  have tail : J mi_X2_hasSoundCabins 2 0 0 (oj_is (.inl (some (.int (bI true)))) h) 0 0 30 [some (.ref a), none, none] [] h := by
    repeat (first | (refine J_step rfl rfl ?_) | (refine J_getf rfl rfl rfl (by assumption) rfl ?_))
    refine J_ic rfl (fun hq => ?_) (fun hq => ?_)
    · exact go
    · repeat (first | (refine J_step rfl rfl ?_) | (refine J_getf rfl rfl rfl (by assumption) rfl ?_))
      rw [hF5]
      refine J_if (y := 0) rfl (fun hq => ?_) (fun hq2 => ?_)
      · exact go
      · exact absurd (by rw [ht (by simpa [oj_cc] using hq)]; rfl) hq2
  refine J_if (y := 0) rfl (fun hq => ?_) (fun hq => ?_)
  · exact tail
  · repeat (first | (refine J_step rfl rfl ?_) | (refine J_getf rfl rfl rfl (by assumption) rfl ?_))
    rw [hF5]
    refine J_if (y := 0) rfl (fun hq2 => ?_) (fun hq2 => ?_)
    · exact absurd hq2 (by rw [hz (by simpa [oj_cz] using hq)]; exact (show ¬ bI true = 0 by decide))
    · exact tail
