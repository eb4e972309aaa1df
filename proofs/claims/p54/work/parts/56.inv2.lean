theorem ah_cases : ∀ p, p ≤ 24 → ∀ u : Bool, (p = 0 → u = true) → (p = 24 → u = false) → ((if u then nI p / 4 else (nI p - 1) / 4) = nI (if u then p / 4 else (p - 1) / 4)) ∧ (if u then p / 4 else (p - 1) / 4) < 6 := by decide +kernel
theorem pl_24 : ∀ p, p ≤ 24 → 24 - nI p = nI (24 - p) := by decide +kernel
theorem ah_nI {F : Nat → Int32} {p : Nat} {u : Bool} {x : Int32} (h4 : F 4 = nI p) (hp : p ≤ 24) (h0 : p = 0 → u = true) (h1 : p = 24 → u = false) (hx : x = 0 ∨ x = 1) : ∃ g, g < 6 ∧ sAhead F u x = nI g := by
  rcases hx with e | e
  · subst e
    have := ah_cases p hp u h0 h1
    have e2 : sAhead F u 0 = if u then nI p / 4 else (nI p - 1) / 4 := by
      show (if u then F 4 / 4 else (F 4 - 1) / 4) = _
      rw [h4]
    exact ⟨_, this.2, e2.trans this.1⟩
  · subst e
    have := ah_cases (24 - p) (by omega) (!u) (fun z => by rw [h1 (by omega)]; rfl) (fun z => by rw [h0 (by omega)]; rfl)
    have e2 : sAhead F u 1 = if (!u) then nI (24 - p) / 4 else (nI (24 - p) - 1) / 4 := by
      show (if (!u) then (24 - F 4) / 4 else (24 - F 4 - 1) / 4) = _
      rw [h4, pl_24 p hp]
    exact ⟨_, this.2, e2.trans this.1⟩
theorem diff_nI {a b M : Nat} (ha : a ≤ M) (hb : b ≤ M) : ∃ m, m ≤ M ∧ (nI a - nI b = nI m ∨ (0 < m ∧ nI a - nI b = -nI m)) := by
  rcases Nat.le_total b a with h | h
  · exact ⟨a - b, by omega, Or.inl (nI_sub h)⟩
  · by_cases e : a = b
    · subst e
      exact ⟨0, by omega, Or.inl (by rw [nI_sub (Nat.le_refl _), Nat.sub_self])⟩
    · refine ⟨b - a, by omega, Or.inr ⟨by omega, ?_⟩⟩
      rw [← nI_sub h]
      simp
theorem neg_diff {x : Int32} {M : Nat} (H : ∃ m, m ≤ M ∧ (x = nI m ∨ (0 < m ∧ x = -nI m))) : ∃ m, m ≤ M ∧ (-x = nI m ∨ (0 < m ∧ -x = -nI m)) := by
  obtain ⟨m, hm, h | ⟨h0, h⟩⟩ := H
  · by_cases e : m = 0
    · subst e
      exact ⟨0, hm, Or.inl (by rw [h]; decide)⟩
    · exact ⟨m, hm, Or.inr ⟨by omega, by rw [h]⟩⟩
  · exact ⟨m, hm, Or.inl (by rw [h, Int32.neg_neg])⟩
/-- the values of a line -/
def LV (q : LQ) (t c ht p cm ar gn mt nb en jo : Nat) (b u : Bool) : Prop := (q.2.1 0 = nI t ∧ q.2.1 1 = nI c ∧ q.2.1 2 = nI ht ∧ q.2.1 3 = bI b ∧ q.2.1 4 = nI p ∧ q.2.1 5 = bI u) ∧ (q.2.1 6 = nI cm ∧ q.2.1 7 = nI ar ∧ q.2.1 8 = nI gn ∧ q.2.1 9 = nI mt) ∧ q.2.1 10 = nI en ∧ q.2.1 11 = nI jo ∧ q.2.1 12 = nI nb ∧ q.2.2.2.1 = lN en ∧ q.2.2.2.2 = lN jo
/-- their bounds -/
def LB (l : List Row) (t c ht p cm ar gn mt nb en jo : Nat) (b u : Bool) (T κ : Nat) : Prop := (t ≤ T ∧ T ≤ 123000 ∧ cm ≤ κ ∧ κ ≤ 600) ∧ (1 ≤ c ∧ c ≤ 6) ∧ ((b = true → 50 < ht ∧ ht ≤ 150) ∧ (b = false → ht < 100)) ∧ (p ≤ 24 ∧ (p = 0 → u = true) ∧ (p = 24 → u = false)) ∧ cm = l.length + ar + gn ∧ mt ≤ t ∧ en ≤ 100 * t ∧ jo ≤ ar * 123000 ∧ nb + cW l ≤ cm ∧ crRid l 0 ≤ c ∧ crRid l 1 ≤ c ∧ l.length ≤ 20
def LR (sl : Nat → Int32) (l : List Row) (cm t nb : Nat) : Prop := (∀ g, g < 6 → ∃ k, k ≤ 9 ∧ sl g = nI k) ∧ (∀ r ∈ l, RowOk cm t nb r) ∧ l.Pairwise PW
def LI (q : LQ) (T κ : Nat) : Prop := ∃ (t c ht p cm ar gn mt nb en jo : Nat) (b u : Bool), LV q t c ht p cm ar gn mt nb en jo b u ∧ LB q.2.2.1 t c ht p cm ar gn mt nb en jo b u T κ ∧ LR q.1 q.2.2.1 cm t nb
theorem LI.gU {q : LQ} {T κ : Nat} (H : LI q T κ) : gU q.2.1 := by
  obtain ⟨t, c, ht, p, cm, ar, gn, mt, nb, en, jo, b, u, ⟨⟨v0, v1, v2, v3, v4, v5⟩, -⟩, -⟩ := H
  exact gU_iff.mpr ⟨u, v5⟩
theorem LI.gB {q : LQ} {T κ : Nat} (H : LI q T κ) : gB q.2.1 := by
  obtain ⟨t, c, ht, p, cm, ar, gn, mt, nb, en, jo, b, u, ⟨⟨v0, v1, v2, v3, v4, v5⟩, -⟩, -⟩ := H
  exact ⟨b, v3⟩
theorem uB_of {F : Nat → Int32} {u : Bool} (h : F 5 = bI u) : uB F = u := by unfold uB; rw [h]; cases u <;> rfl
theorem LI.mono {q : LQ} {T κ T' κ' : Nat} (H : LI q T κ) (h1 : T ≤ T') (h2 : T' ≤ 123000) (h3 : κ ≤ κ') (h4 : κ' ≤ 600) : LI q T' κ' := by
  obtain ⟨t, c, ht, p, cm, ar, gn, mt, nb, en, jo, b, u, hV, ⟨⟨a1, a2, a3, a4⟩, hB⟩, hR⟩ := H
  exact ⟨t, c, ht, p, cm, ar, gn, mt, nb, en, jo, b, u, hV, ⟨⟨by omega, h2, by omega, h4⟩, hB⟩, hR⟩
theorem imb_nI {sl F : Nat → Int32} {l : List Row} {p c cm t nb : Nat} {u : Bool} (h4 : F 4 = nI p) (hp : p ≤ 24) (h0 : p = 0 → u = true) (h1 : p = 24 → u = false) (hR : LR sl l cm t nb) (hc : c ≤ 6) (r0 : crRid l 0 ≤ c) (r1 : crRid l 1 ≤ c) : ∃ m, m ≤ 8280 ∧ (sImb F u sl l = nI m ∨ (0 < m ∧ sImb F u sl l = -nI m)) := by
  obtain ⟨hs, hr, -⟩ := hR
  obtain ⟨g0, l0, e0⟩ := ah_nI h4 hp h0 h1 (Or.inl rfl)
  obtain ⟨g1, l1, e1⟩ := ah_nI h4 hp h0 h1 (Or.inr rfl)
  obtain ⟨k0, b0, s0⟩ := hs g0 l0
  obtain ⟨k1, b1, s1⟩ := hs g1 l1
  obtain ⟨w0, f0, w0b⟩ := full_nI (x := 0) hr
  obtain ⟨w1, f1, w1b⟩ := full_nI (x := 1) hr
  have m0 : w0 * k0 ≤ 920 * 9 := Nat.mul_le_mul (by omega) b0
  have m1 : w1 * k1 ≤ 920 * 9 := Nat.mul_le_mul (by omega) b1
  have hd := diff_nI (M := 8280) (a := w0 * k0) (b := w1 * k1) (by omega) (by omega)
  unfold sImb
  rw [e0, e1, sSl_nI l0, sSl_nI l1, s0, s1, f0, f1, nI_mul, nI_mul]
  cases u
  · exact neg_diff hd
  · exact hd
theorem d100_ : ∀ a, a ≤ 82 → ∀ b, b < 100 → nI (100 * a + b) / 100 = nI ((100 * a + b) / 100) := by decide +kernel
theorem d100 (m : Nat) (hm : m ≤ 8280) : nI m / 100 = nI (m / 100) := by
  have := d100_ (m / 100) (by omega) (m % 100) (by omega)
  rw [show 100 * (m / 100) + m % 100 = m by omega] at this
  exact this
theorem d200_ : ∀ a, a ≤ 82 → ∀ b, b < 100 → nI (100 * a + b) / 200 = nI ((100 * a + b) / 200) := by decide +kernel
theorem d200 (m : Nat) (hm : m ≤ 8280) : nI m / 200 = nI (m / 200) := by
  have := d200_ (m / 100) (by omega) (m % 100) (by omega)
  rw [show 100 * (m / 100) + m % 100 = m by omega] at this
  exact this
theorem ngt_ : ∀ a, a ≤ 82 → ∀ b, b < 100 → 0 < (100 * a + b) → ¬ 0 ≤ -nI (100 * a + b) := by decide +kernel
theorem ngt (m : Nat) (hm : m ≤ 8280) : 0 < m → ¬ 0 ≤ -nI m := by
  have := ngt_ (m / 100) (by omega) (m % 100) (by omega)
  rw [show 100 * (m / 100) + m % 100 = m by omega] at this
  exact this
theorem ht_1 : ∀ ht, ht ≤ 150 → (if 0 < nI ht - 1 then nI ht - 1 else 0) = nI (ht - 1) := by decide +kernel
theorem ht_5 : ∀ ht, ht ≤ 150 → (if 0 < nI ht - 5 then nI ht - 5 else 0) = nI (ht - 5) ∧ (nI (ht - 5) ≤ 50 ↔ ht - 5 ≤ 50) := by decide +kernel
theorem p_up : ∀ p, p ≤ 24 → ∀ u : Bool, (p = 0 → u = true) → (p = 24 → u = false) → nI p + (if u then 1 else -1) = nI (if u then p + 1 else p - 1) := by decide +kernel
theorem p_12 : ∀ p, p ≤ 24 → (nI p = 12 ↔ p = 12) := by decide +kernel
theorem p_st : ∀ p, p ≤ 24 → (nI p - nI p / 4 * 4 == 0) = (p % 4 == 0) := by decide +kernel
theorem p_en : ∀ p, p ≤ 24 → (nI p == 0 || nI p == 24) = (p == 0 || p == 24) := by decide +kernel
theorem lN_toI64 {m : Nat} (h : m < 2 ^ 31) : (nI m).toInt64 = lN m := nI_l h
/-- behind the step of an unblocked minute: the direction may still want turning -/
def LM (q : LQ) (T κ : Nat) : Prop := ∃ (t c ht p cm ar gn mt nb en jo : Nat) (b u : Bool), LV q t c ht p cm ar gn mt nb en jo b u ∧ LB q.2.2.1 t c ht 1 cm ar gn mt nb en jo b u T κ ∧ LR q.1 q.2.2.1 cm t nb ∧ p ≤ 24 ∧ (p = 0 → u = false) ∧ (p = 24 → u = true)
theorem LM_of {q : LQ} {T κ : Nat} (H : LI q T κ) (hb : q.2.1 3 = 0) (hT : T + 1 ≤ 123000) : LM (q.1, sp_mv q.1 (fset q.2.1 0 (q.2.1 0 + 1)) q.2.2.1, q.2.2.1, mvE q.2.2.2.1 (sp_x q.1 (fset q.2.1 0 (q.2.1 0 + 1)) q.2.2.1), q.2.2.2.2) (T + 1) κ := by
  obtain ⟨t, c, ht, p, cm, ar, gn, mt, nb, en, jo, b, u, ⟨⟨v0, v1, v2, v3, v4, v5⟩, ⟨v6, v7, v8, v9⟩, v10, v11, v12, vE, vJ⟩, ⟨⟨a1, a2, a3, a4⟩, hc, ⟨hb1, hb2⟩, ⟨hp, hp0, hp24⟩, hcm, hmt, hen, hjo, hnb, r0, r1, h20⟩, hR⟩ := H
  obtain ⟨sl, F, l, E, Jn⟩ := q
  have hbf : b = false := by
    cases b with
    | false => rfl
    | true => exact absurd (v3.symm.trans hb) (by decide)
  have hht := hb2 hbf
  have hu : uB (fset F 0 (F 0 + 1)) = u := uB_of v5
  obtain ⟨m, hm, hx⟩ := imb_nI (F := fset F 0 (F 0 + 1)) (u := u) v4 hp hp0 hp24 hR (by omega) r0 r1
  have hx' : sp_x sl (fset F 0 (F 0 + 1)) l = sImb (fset F 0 (F 0 + 1)) u sl l := by unfold sp_x; rw [hu]
  have hp' : nI p + (if u then 1 else -1) = nI (if u then p + 1 else p - 1) := p_up p hp u hp0 hp24
  have hp2 : (if u then p + 1 else p - 1) ≤ 24 ∧ ((if u then p + 1 else p - 1) = 0 → u = false) ∧ ((if u then p + 1 else p - 1) = 24 → u = true) := by
    cases u with
    | true => refine ⟨?_, fun z => ?_, fun _ => rfl⟩
              · show p + 1 ≤ 24
                have : ¬ p = 24 := fun z => absurd (hp24 z) (by decide)
                omega
              · have z : p + 1 = 0 := z
                omega
    | false => refine ⟨?_, fun _ => rfl, fun z => ?_⟩
               · show p - 1 ≤ 24
                 omega
               · have z : p - 1 = 24 := z
                 omega
  generalize hP : (if u then p + 1 else p - 1) = p2 at hp' hp2
  -- the step and the meeting
  have hM : ∃ mt2, mt2 ≤ mt + 1 ∧ mvM (mvP (fset F 0 (F 0 + 1)) u) 9 = nI mt2 := by
    have e4 : mvP (fset F 0 (F 0 + 1)) u 4 = nI p2 := by
      show F 4 + (if u then 1 else -1) = nI p2
      rw [show F 4 = nI p from v4]
      exact hp'
    unfold mvM
    by_cases z : mvP (fset F 0 (F 0 + 1)) u 4 = 12
    · rw [if_pos z]
      refine ⟨mt + 1, Nat.le_refl _, ?_⟩
      show F 9 + 1 = nI (mt + 1)
      rw [show F 9 = nI mt from v9, nI_succ]
    · rw [if_neg z]
      exact ⟨mt, by omega, v9⟩
  obtain ⟨mt2, hmt2, e9⟩ := hM
  have eF : ∀ i, i ≠ 9 → i ≠ 4 → i ≠ 0 → mvM (mvP (fset F 0 (F 0 + 1)) u) i = F i := fun i z1 z2 z3 => by
    rw [mvM_ne z1, mvP, fset_ne z2, fset_ne z3]
  have e4 : mvM (mvP (fset F 0 (F 0 + 1)) u) 4 = nI p2 := by
    rw [mvM_ne (by decide)]
    show F 4 + (if u then 1 else -1) = nI p2
    rw [show F 4 = nI p from v4]
    exact hp'
  have e0 : mvM (mvP (fset F 0 (F 0 + 1)) u) 0 = nI (t + 1) := by
    rw [mvM_ne (by decide)]
    show F 0 + 1 = nI (t + 1)
    rw [show F 0 = nI t from v0, nI_succ]
  show LM (sl, mvB (mvM (mvP (fset F 0 (F 0 + 1)) (uB (fset F 0 (F 0 + 1))))) (sp_x sl (fset F 0 (F 0 + 1)) l), l, mvE E (sp_x sl (fset F 0 (F 0 + 1)) l), Jn) (T + 1) κ
  rw [hu, hx']
  generalize sImb (fset F 0 (F 0 + 1)) u sl l = x at hx
  generalize mvM (mvP (fset F 0 (F 0 + 1)) u) = G at e0 e4 e9 eF
  have g1 := (eF 1 (by decide) (by decide) (by decide)).trans v1
  have g2 := (eF 2 (by decide) (by decide) (by decide)).trans v2
  have g3 := (eF 3 (by decide) (by decide) (by decide)).trans v3
  have g5 := (eF 5 (by decide) (by decide) (by decide)).trans v5
  have g6 := (eF 6 (by decide) (by decide) (by decide)).trans v6
  have g7 := (eF 7 (by decide) (by decide) (by decide)).trans v7
  have g8 := (eF 8 (by decide) (by decide) (by decide)).trans v8
  have g10 := (eF 10 (by decide) (by decide) (by decide)).trans v10
  have g11 := (eF 11 (by decide) (by decide) (by decide)).trans v11
  have g12 := (eF 12 (by decide) (by decide) (by decide)).trans v12
  have hR2 : LR sl l cm (t + 1) nb := ⟨hR.1, fun r hr => (hR.2.1 r hr).mono (Nat.le_refl _) (by omega) (Nat.le_refl _), hR.2.2⟩
  have hB : ∀ ht2 en2 (b2 : Bool), ((b2 = true → 50 < ht2 ∧ ht2 ≤ 150) ∧ (b2 = false → ht2 < 100)) → en2 ≤ en + 100 → LB l (t + 1) c ht2 1 cm ar gn mt2 nb en2 jo b2 u (T + 1) κ := fun ht2 en2 b2 z1 z2 => ⟨⟨by omega, hT, a3, a4⟩, hc, z1, ⟨by omega, fun z => by omega, fun z => by omega⟩, hcm, by omega, by omega, hjo, hnb, r0, r1, h20⟩
  rcases hx with hx | ⟨hm0, hx⟩
  · have hpos : 0 ≤ x := by rw [hx]; exact nI_pos' (by omega)
    refine ⟨t + 1, c, ht - 1, p2, cm, ar, gn, mt2, nb, en + m / 100, jo, b, u, ⟨⟨?_, ?_, ?_, ?_, ?_, ?_⟩, ⟨?_, ?_, ?_, ?_⟩, ?_, ?_, ?_, ?_, vJ⟩, hB _ _ _ ⟨fun z => absurd (hbf.symm.trans z) (by decide), fun _ => by omega⟩ (by omega), hR2, hp2⟩
    all_goals (first | (show mvB G x _ = _; rw [mvB, if_pos hpos]) | skip)
    · exact e0
    · exact g1
    · show (if 0 < G 2 - 1 then G 2 - 1 else 0) = _
      rw [g2]
      exact ht_1 ht (by omega)
    · exact g3
    · exact e4
    · exact g5
    · exact g6
    · exact g7
    · exact g8
    · exact e9
    · show G 10 + x / 100 = _
      rw [g10, hx, d100 m hm, nI_add]
    · exact g11
    · exact g12
    · show mvE E x = _
      rw [mvE, if_pos hpos, show E = lN en from vE, hx, d100 m hm, lN_toI64 (by omega), lN_add]
  · have hneg : ¬ 0 ≤ x := by rw [hx]; exact ngt m hm hm0
    have hxx : -x / 200 = nI (m / 200) := by rw [hx, Int32.neg_neg]; exact d200 m hm
    have hE : mvE E x = lN en := by rw [mvE, if_neg hneg]; exact vE
    by_cases z : 100 ≤ G 2 + -x / 200
    · have z2 : 100 ≤ ht + m / 200 := by
        rw [g2, hxx, nI_add] at z
        exact (nI_leI (a := 100) (by omega) (by omega)).mp z
      refine ⟨t + 1, c, ht + m / 200, p2, cm, ar, gn, mt2, nb, en, jo, true, u, ⟨⟨?_, ?_, ?_, ?_, ?_, ?_⟩, ⟨?_, ?_, ?_, ?_⟩, ?_, ?_, ?_, hE, vJ⟩, hB _ _ _ ⟨fun _ => by omega, fun z => by cases z⟩ (by omega), hR2, hp2⟩
      all_goals (first | (show mvB G x _ = _; rw [mvB, if_neg hneg, if_pos z]) | skip)
      · exact e0
      · exact g1
      · show G 2 + -x / 200 = _
        rw [g2, hxx, nI_add]
      · rfl
      · exact e4
      · exact g5
      · exact g6
      · exact g7
      · exact g8
      · exact e9
      · exact g10
      · exact g11
      · exact g12
    · have z2 : ht + m / 200 < 100 := by
        rcases Nat.lt_or_ge (ht + m / 200) 100 with w | w
        · exact w
        · exact absurd (by rw [g2, hxx, nI_add]; exact nI_le (a := 100) w (by omega)) z
      refine ⟨t + 1, c, ht + m / 200, p2, cm, ar, gn, mt2, nb, en, jo, b, u, ⟨⟨?_, ?_, ?_, ?_, ?_, ?_⟩, ⟨?_, ?_, ?_, ?_⟩, ?_, ?_, ?_, hE, vJ⟩, hB _ _ _ ⟨fun z => absurd (hbf.symm.trans z) (by decide), fun _ => z2⟩ (by omega), hR2, hp2⟩
      all_goals (first | (show mvB G x _ = _; rw [mvB, if_neg hneg, if_neg z]) | skip)
      · exact e0
      · exact g1
      · show G 2 + -x / 200 = _
        rw [g2, hxx, nI_add]
      · exact g3
      · exact e4
      · exact g5
      · exact g6
      · exact g7
      · exact g8
      · exact e9
      · exact g10
      · exact g11
      · exact g12
