set_option maxRecDepth 100000 in
set_option maxHeartbeats 2000000 in
theorem m_waits {h h1 : AHp} {v : Nat → Int32} {A : Nat → Nat → Int32} {q : LQ} {x y z : Int32} {T κ : Nat} (H : MdP h v A h1) (S : SI (A 0) q) (hI : LI q T κ) (hT : T + 240 ≤ 123000) : JM mi_X6_waits 5 0 0 [.ref 121, .int x] h1 (DP h v A q 5 x y z) := by
  have e0 := H.1.1
  have e1 := H.1.2.1
  refine JM_of gd_X6_waits rfl (by decide +kernel) (Nat.le_of_ble_eq_true rfl) (oj_cats rfl) (by decide) ?_
  repeat (first | (refine J_step rfl rfl ?_) | (refine J_getf rfl rfl rfl (by assumption) rfl ?_))
  refine J_cS rfl rfl rfl rfl rfl rfl rfl rfl rfl rfl rfl (m_isIn (d := 0)) ?_
  by_cases hx : 1 ≤ x ∧ x ≤ 240
  · have hc : sFault q.2.1 q.2.2.1 5 x y z = 0 := by show fWai x = 0; rw [fWai, if_neg (fun t => not_in.mpr t hx)]
    rw [decide_eq_true hx]
    refine J_if (y := 0) rfl (fun _ => ?_) (fun hq => absurd (show ¬ bI true = 0 by decide) hq)
    repeat (first | (refine J_step rfl rfl ?_) | (refine J_getf rfl rfl rfl (by assumption) rfl ?_))
    refine J_callV rfl rfl rfl rfl rfl (by assumption) rfl rfl rfl rfl (m_thrF (d := 0) H) (Nat.zero_le _) (Nat.zero_le _) (fun E h9 q => by cases q.1) (fun v9 h3 q => ?_)
    obtain ⟨q1, H3⟩ := q
    cases q1
    have g0 := H3.1.1
    have g1 := H3.1.2.1
    refine J_if (y := 0) rfl (fun _ => ?_) (fun hq => absurd rfl hq)
    obtain ⟨nx, ex, hx1, hx2⟩ := i32_nat (a := 1) (b := 240) hx.1 hx.2 (by omega) (by omega)
    obtain ⟨sl, s⟩ := q
    have loop : ∀ m j (s' : MS) (f : Nat → Int32) h4, m + j = nx → LI (sl, s') (T + j) κ → SI f (sl, s') → MdP h (fset v 1 0) (aset A 0 f) h4 → sp_pass sl m s' = sp_pass sl nx s → J mi_X6_waits 5 0 0 (DP h v A (sl, s) 5 x y z) 0 0 36 [some (.ref 121), some (.int x), some (.int (s.1 7)), some (.int (nI j))] [] h4 := by
      intro m
      induction m with
      | zero =>
        intro j s' f h4 hj hI S K hs
        obtain rfl : j = nx := by omega
        have k0 := K.1.1
        have k1 := K.1.2.1
        rw [aset_at] at k1
        have hs : s' = sp_pass sl j s := hs
        rw [ex]
        repeat (first | (refine J_step rfl rfl ?_) | (refine J_getf rfl rfl rfl (by assumption) rfl ?_))
        refine J_ic rfl (fun _ => ?_) (fun hq => absurd (Int32.le_refl _) hq)
        repeat (first | (refine J_step rfl rfl ?_) | (refine J_getf rfl rfl rfl (by assumption) rfl ?_))
        refine J_rs (w := s'.1 7) 7 rfl k1 rfl (by decide) (by decide) (S.1 7 (by decide)) ?_
        repeat (first | (refine J_step rfl rfl ?_) | (refine J_getf rfl rfl rfl (by assumption) rfl ?_))
        rw [← ex]
        refine J_iret rfl rfl rfl rfl (DP_ok hc ?_ rfl K ?_)
        · show s'.1 7 - s.1 7 = (sp_pass sl x.toNatClampNeg s).1 7 - s.1 7
          rw [ex, nI_clamp (by omega), hs]
        · show SI f (sl, sp_pass sl x.toNatClampNeg s)
          rw [ex, nI_clamp (by omega), ← hs]
          exact S
      | succ m ih =>
        intro j s' f h4 hj hI S K hs
        have k0 := K.1.1
        rw [ex]
        repeat (first | (refine J_step rfl rfl ?_) | (refine J_getf rfl rfl rfl (by assumption) rfl ?_))
        refine J_ic rfl (fun hq => absurd hq (nI_ge (by omega) (by omega))) (fun _ => ?_)
        repeat (first | (refine J_step rfl rfl ?_) | (refine J_getf rfl rfl rfl (by assumption) rfl ?_))
        refine J_callV rfl rfl rfl rfl rfl k0 rfl rfl rfl rfl (m_minute K (by rw [aset_at]; exact S) hI) (Nat.zero_le _) (Nat.zero_le _) (fun E h9 q => by cases q.1) (fun v9 h5 q => ?_)
        obtain ⟨q1, f5, K5, S5⟩ := q
        cases q1
        rw [aset_aset] at K5
        have hI2 := LI_min hI (by omega)
        have hn := ih (j + 1) (sp_min sl s') f5 h5 (by omega) hI2 S5 K5 hs
        rw [nI_succ] at hn
        rw [← ex]
        iterate 2 (first | (refine J_step rfl rfl ?_) | (refine J_getf rfl rfl rfl (by assumption) rfl ?_))
        exact hn
    repeat (first | (refine J_step rfl rfl ?_) | (refine J_getf rfl rfl rfl (by assumption) rfl ?_))
    refine J_rs (w := s.1 7) 7 rfl g1 rfl (by decide) (by decide) (S.1 7 (by decide)) ?_
    iterate 3 (first | (refine J_step rfl rfl ?_) | (refine J_getf rfl rfl rfl (by assumption) rfl ?_))
    exact loop nx 0 s (A 0) h3 rfl hI S (by rw [aset_self]; exact H3) rfl
  · have hc : sFault q.2.1 q.2.2.1 5 x y z = 2 := by show fWai x = 2; rw [fWai, if_pos (not_in.mp hx)]
    rw [decide_eq_false hx]
    refine J_if (y := 0) rfl (fun hq => absurd rfl hq) (fun _ => ?_)
    repeat (first | (refine J_step rfl rfl ?_) | (refine J_getf rfl rfl rfl (by assumption) rfl ?_))
    refine J_callV rfl rfl rfl rfl rfl (by assumption) rfl rfl rfl rfl (m_thrT (d := 0) H) (Nat.zero_le _) (Nat.zero_le _) (fun E h9 q => by cases q.1) (fun v9 h3 q => ?_)
    obtain ⟨q1, H3⟩ := q
    cases q1
    refine J_if (y := 0) rfl (fun hq => absurd hq (show ¬ (1 : Int32) = 0 by decide)) (fun _ => ?_)
    repeat (first | (refine J_step rfl rfl ?_) | (refine J_getf rfl rfl rfl (by assumption) rfl ?_))
    exact J_iret rfl rfl rfl rfl (DP_no S (by rw [hc]; decide) (by rw [hc]; rfl) H3)
/-! what can be undone -/
def PS (f : Nat → Int32) (hs : List LQ) : Prop := ∀ i q, hs[i]? = some q → SI (fun x => f (160 * (hs.length - 1 - i) + x)) q
theorem PS_push {f w : Nat → Int32} {q0 : LQ} {hs : List LQ} (H : PS f hs) (h8 : hs.length < 8) (S : SI w q0) : PS (cpy w 0 f (160 * hs.length) 160) ((q0 :: hs).take 8) := by
  rw [List.take_of_length_le (by rw [List.length_cons]; omega)]
  intro i q hi
  cases i with
  | zero =>
    have e : q0 = q := by simpa using hi
    subst e
    refine SI_cong (fun x hx => ?_) S
    rw [List.length_cons, show hs.length + 1 - 1 - 0 = hs.length by omega, cpy_at hx, Nat.zero_add]
  | succ i =>
    rw [List.getElem?_cons_succ] at hi
    have hlt := (List.getElem?_eq_some_iff.mp hi).1
    refine SI_cong (fun x hx => ?_) (H i q hi)
    rw [List.length_cons, show hs.length + 1 - 1 - (i + 1) = hs.length - 1 - i by omega]
    refine cpy_ne (Or.inl ?_)
    have : 160 * (hs.length - 1 - i) + 160 ≤ 160 * hs.length := by omega
    omega
theorem PS_shift {f w : Nat → Int32} {q0 : LQ} {hs : List LQ} (H : PS f hs) (h8 : hs.length = 8) (S : SI w q0) : PS (cpy w 0 (fun x => if x < 1120 then f (x + 160) else f x) 1120 160) ((q0 :: hs).take 8) := by
  have hlen : ((q0 :: hs).take 8).length = 8 := by rw [List.length_take, List.length_cons]; omega
  intro i q hi
  have hi8 : i < 8 := by have := (List.getElem?_eq_some_iff.mp hi).1; omega
  rw [hlen]
  rw [List.getElem?_take, if_pos hi8] at hi
  cases i with
  | zero =>
    have e : q0 = q := by simpa using hi
    subst e
    refine SI_cong (fun x hx => ?_) S
    rw [show 160 * (8 - 1 - 0) = 1120 by omega, cpy_at hx, Nat.zero_add]
  | succ i =>
    rw [List.getElem?_cons_succ] at hi
    refine SI_cong (fun x hx => ?_) (H i q hi)
    rw [cpy_ne (Or.inl (by omega)), h8]
    rw [if_pos (by omega), show 160 * (8 - 1 - (i + 1)) + x + 160 = 160 * (8 - 1 - i) + x by omega]
theorem i160 (k : Nat) : 160 * nI k = nI (160 * k) := by
  show nI 160 * nI k = _
  rw [nI_mul]
set_option maxRecDepth 100000 in
set_option maxHeartbeats 2000000 in
theorem m_ends {h h1 : AHp} {v : Nat → Int32} {A : Nat → Nat → Int32} {q0 : LQ} {hs : List LQ} {told : Int32} (H : MdP h v A h1) (h1v : v 1 = 0) (h0v : v 0 = nI hs.length) (h8 : hs.length ≤ 8) (hP : PS (A 3) hs) (S : SI (A 1) q0) : JM mi_X6_ends 1 0 0 [.ref 121, .int told] h1 (fun r h' => r = .inl (some (.int told)) ∧ ∃ f' : Nat → Int32, MdP h (fset v 0 (nI ((q0 :: hs).take 8).length)) (aset A 3 f') h' ∧ PS f' ((q0 :: hs).take 8)) := by
  have e0 := H.1.1
  have e1 := H.1.2.1
  -- the push itself
  have push : ∀ (n : Nat) (g : Nat → Int32) h2 z, n < 8 → MdP h (fset v 0 (nI n)) (aset A 3 g) h2 → ((q0 :: hs).take 8).length = n + 1 → PS (cpy (A 1) 0 g (160 * n) 160) ((q0 :: hs).take 8) → J mi_X6_ends 1 0 0 (fun r h' => r = .inl (some (.int told)) ∧ ∃ f' : Nat → Int32, MdP h (fset v 0 (nI ((q0 :: hs).take 8).length)) (aset A 3 f') h' ∧ PS f' ((q0 :: hs).take 8)) 0 0 65 [some (.ref 121), some (.int told), z] [] h2 := by
    intro n g h2 z hn H2 hl hP2
    have g0 := H2.1.1
    have g2 : h2 123 = .inl (0, 160, .inl (A 1)) := by have := H2.1.2.2.1; rw [aset_ne (by decide)] at this; exact this
    have g4 : h2 125 = .inl (0, 1280, .inl g) := by have := H2.1.2.2.2.2.1; rw [aset_at] at this; exact this
    have gv : fset v 0 (nI n) 0 = nI n := rfl
    repeat (first | (refine J_step rfl rfl ?_) | (refine J_getf rfl rfl rfl (by assumption) rfl ?_))
    rw [gv, i160]
    refine J_cS rfl rfl rfl rfl rfl rfl rfl rfl rfl rfl rfl (m_copies (d := 0) (p := 0) (r := 160 * n) g2 g4 (by decide) (by omega) (by decide) (by decide) (Or.inl (by decide))) ?_
    have H3 := H2.trans (H2.1.arr (i := 3) (by decide) (f := cpy (A 1) 0 g (160 * n) 160))
    rw [aset_aset] at H3
    refine J_heap (h2 := oj_up h2 (122 + 3) (.inl (0, aN 3, .inl (cpy (A 1) 0 g (160 * n) 160)))) rfl ?_
    generalize oj_up h2 (122 + 3) (.inl (0, aN 3, .inl (cpy (A 1) 0 g (160 * n) 160))) = h3 at H3 ⊢
    clear g0
    have g0 := H3.1.1
    repeat (first | (refine J_step rfl rfl ?_) | (refine J_getf rfl rfl rfl (by assumption) rfl ?_))
    rw [gv]
    refine J_putf rfl rfl rfl g0 rfl rfl (fun _ => rfl) rfl rfl ?_
    have H4 := H3.trans (H3.1.fld (v' := fset v 0 (nI n + 1)))
    repeat (first | (refine J_step rfl rfl ?_) | (refine J_getf rfl rfl rfl (by assumption) rfl ?_))
    refine J_iret rfl rfl rfl rfl ⟨rfl, _, ?_, hP2⟩
    rw [hl, nI_succ]
    exact H4
  refine JM_of gd_X6_ends rfl (by decide +kernel) (Nat.le_of_ble_eq_true rfl) (oj_cats rfl) (by decide) ?_
  repeat (first | (refine J_step rfl rfl ?_) | (refine J_getf rfl rfl rfl (by assumption) rfl ?_))
  rw [h1v]
  refine J_if (y := 0) rfl (fun _ => ?_) (fun hq => absurd rfl hq)
  repeat (first | (refine J_step rfl rfl ?_) | (refine J_getf rfl rfl rfl (by assumption) rfl ?_))
  rw [h0v]
  have hv0 : fset v 0 (nI hs.length) = v := by rw [← h0v]; exact fset_self v 0
  by_cases hl : hs.length = 8
  · refine J_ic rfl (fun hq => absurd (show nI hs.length = 8 by rw [hl]; rfl) hq) (fun _ => ?_)
    have loop : ∀ m j h2, m + j = 8 → 1 ≤ j → MdP h v (aset A 3 (fun x => if x < 160 * (j - 1) then A 3 (x + 160) else A 3 x)) h2 → J mi_X6_ends 1 0 0 (fun r h' => r = .inl (some (.int told)) ∧ ∃ f' : Nat → Int32, MdP h (fset v 0 (nI ((q0 :: hs).take 8).length)) (aset A 3 f') h' ∧ PS f' ((q0 :: hs).take 8)) 0 0 20 [some (.ref 121), some (.int told), some (.int (nI j))] [] h2 := by
      intro m
      induction m with
      | zero =>
        intro j h2 hj hj1 H2
        obtain rfl : j = 8 := by omega
        have g0 := H2.1.1
        repeat (first | (refine J_step rfl rfl ?_) | (refine J_getf rfl rfl rfl (by assumption) rfl ?_))
        refine J_ic rfl (fun _ => ?_) (fun hq => absurd (oj_ccT (by decide)) hq)
        repeat (first | (refine J_step rfl rfl ?_) | (refine J_getf rfl rfl rfl (by assumption) rfl ?_))
        rw [h0v]
        refine J_putf rfl rfl rfl g0 rfl rfl (fun _ => rfl) rfl rfl ?_
        have e7 : nI hs.length - 1 = nI 7 := by rw [hl]; rfl
        have H3 := H2.trans (H2.1.fld (v' := fset v 0 (nI hs.length - 1)))
        rw [e7] at H3 ⊢
        refine push 7 (fun x => if x < 1120 then A 3 (x + 160) else A 3 x) _ _ (by decide) H3 (by rw [List.length_take, List.length_cons]; omega) (PS_shift hP hl S)
      | succ m ih =>
        intro j h2 hj hj1 H2
        have g0 := H2.1.1
        have g4 : h2 125 = .inl (0, 1280, .inl (fun x => if x < 160 * (j - 1) then A 3 (x + 160) else A 3 x)) := by have := H2.1.2.2.2.2.1; rw [aset_at] at this; exact this
        repeat (first | (refine J_step rfl rfl ?_) | (refine J_getf rfl rfl rfl (by assumption) rfl ?_))
        refine J_ic rfl (fun hq => absurd (show nI 8 ≤ nI j from hq) (nI_ge (by omega) (by omega))) (fun _ => ?_)
        repeat (first | (refine J_step rfl rfl ?_) | (refine J_getf rfl rfl rfl (by assumption) rfl ?_))
        rw [show nI j - 1 = nI (j - 1) from nI_sub (b := 1) hj1, i160, i160]
        refine J_cS rfl rfl rfl rfl rfl rfl rfl rfl rfl rfl rfl (m_copies (d := 0) (p := 160 * j) (r := 160 * (j - 1)) g4 g4 (by omega) (by omega) (by decide) (by decide) (Or.inr (Or.inr (by omega)))) ?_
        have H3 := H2.trans (H2.1.arr (i := 3) (by decide) (f := cpy (fun x => if x < 160 * (j - 1) then A 3 (x + 160) else A 3 x) (160 * j) (fun x => if x < 160 * (j - 1) then A 3 (x + 160) else A 3 x) (160 * (j - 1)) 160))
        rw [aset_aset] at H3
        have he : cpy (fun x => if x < 160 * (j - 1) then A 3 (x + 160) else A 3 x) (160 * j) (fun x => if x < 160 * (j - 1) then A 3 (x + 160) else A 3 x) (160 * (j - 1)) 160 = (fun x => if x < 160 * (j + 1 - 1) then A 3 (x + 160) else A 3 x) := by
          funext x
          unfold cpy
          dsimp only
          by_cases z : 160 * (j - 1) ≤ x ∧ x < 160 * (j - 1) + 160
          · rw [if_pos z, if_neg (by omega), if_pos (by omega), show 160 * j + (x - 160 * (j - 1)) = x + 160 by omega]
          · rw [if_neg z]
            by_cases z2 : x < 160 * (j - 1)
            · rw [if_pos z2, if_pos (by omega)]
            · rw [if_neg z2, if_neg (by omega)]
        have hn := ih (j + 1) _ (by omega) (by omega) (by rw [← he]; exact H3)
        rw [nI_succ] at hn
        iterate 2 (first | (refine J_step rfl rfl ?_) | (refine J_getf rfl rfl rfl (by assumption) rfl ?_))
        exact hn
    iterate 2 (first | (refine J_step rfl rfl ?_) | (refine J_getf rfl rfl rfl (by assumption) rfl ?_))
    refine loop 7 1 h1 rfl (Nat.le_refl _) ?_
    have he : (fun x => if x < 160 * (1 - 1) then A 3 (x + 160) else A 3 x) = A 3 := by
      funext x
      rw [if_neg (by omega)]
    rw [he, aset_self]
    exact H
  · refine J_ic rfl (fun _ => ?_) (fun hq => absurd ((nI_eq (b := 8) (by omega) (by decide)).mp (show nI hs.length = nI 8 from Classical.not_not.mp hq)) hl)
    refine push hs.length (A 3) h1 _ (by omega) ?_ ?_ (PS_push hP (by omega) S)
    · rw [aset_self, hv0]
      exact H
    · rw [List.length_take, List.length_cons]
      omega
set_option maxRecDepth 100000 in
set_option maxHeartbeats 2000000 in
theorem m_endsT {h h1 : AHp} {v : Nat → Int32} {A : Nat → Nat → Int32} {told : Int32} (H : MdP h v A h1) (h1v : ¬ v 1 = 0) : JM mi_X6_ends 1 0 0 [.ref 121, .int told] h1 (oj_is (.inl (some (.int 0))) h1) := by
  have e0 := H.1.1
  refine JM_of gd_X6_ends rfl (by decide +kernel) (Nat.le_of_ble_eq_true rfl) (oj_cats rfl) (by decide) ?_
  repeat (first | (refine J_step rfl rfl ?_) | (refine J_getf rfl rfl rfl (by assumption) rfl ?_))
  refine J_if (y := 0) rfl (fun hq => absurd hq h1v) (fun _ => ?_)
  repeat (first | (refine J_step rfl rfl ?_) | (refine J_getf rfl rfl rfl (by assumption) rfl ?_))
  exact J_iret rfl rfl rfl rfl ⟨rfl, rfl⟩
