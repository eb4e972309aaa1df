def cpy (f : Nat → Int32) (p : Nat) (g : Nat → Int32) (r n : Nat) : Nat → Int32 := fun i => if r ≤ i ∧ i < r + n then f (p + (i - r)) else g i
theorem cpy_0 {f g : Nat → Int32} {p r : Nat} : cpy f p g r 0 = g := by
  funext i
  unfold cpy
  rw [if_neg (by omega)]
theorem cpy_succ {f g : Nat → Int32} {p r n : Nat} : upd (cpy f p g r n) (r + n) (f (p + n)) = cpy f p g r (n + 1) := by
  funext i
  unfold upd cpy
  by_cases e : i = r + n
  · rw [if_pos e, if_pos (by omega), show i - r = n by omega]
  · rw [if_neg e]
    by_cases q : r ≤ i ∧ i < r + n
    · rw [if_pos q, if_pos (by omega)]
    · rw [if_neg q, if_neg (by omega)]
theorem cpy_at {f g : Nat → Int32} {p r n i : Nat} (h : i < n) : cpy f p g r n (r + i) = f (p + i) := by
  unfold cpy
  rw [if_pos (by omega), show r + i - r = i by omega]
theorem cpy_ne {f g : Nat → Int32} {p r n i : Nat} (h : i < r ∨ r + n ≤ i) : cpy f p g r n i = g i := by
  unfold cpy
  rw [if_neg (by omega)]
theorem oj_up_up {h : AHp} {a : Nat} {x y : AC} : oj_up (oj_up h a x) a y = oj_up h a y := by
  funext j
  unfold oj_up
  by_cases e : j = a
  · rw [if_pos e, if_pos e]
  · rw [if_neg e, if_neg e, if_neg e]
theorem oj_up_id {h : AHp} {a : Nat} {x : AC} (e : h a = x) : oj_up h a x = h := by
  funext j
  unfold oj_up
  by_cases q : j = a
  · rw [if_pos q, q, e]
  · rw [if_neg q]
set_option maxRecDepth 100000 in
set_option maxHeartbeats 2000000 in
theorem m_copies {d : Nat} {h : AHp} {a b N1 N2 p r : Nat} {f g : Nat → Int32} (ha : h a = .inl (0, N1, .inl f)) (hb : h b = .inl (0, N2, .inl g)) (h1 : p + 160 ≤ N1) (h2 : r + 160 ≤ N2) (hN1 : N1 ≤ 2000) (hN2 : N2 ≤ 2000) (hab : a ≠ b ∨ p + 160 ≤ r ∨ r + 160 ≤ p) : JM mi_X6_copies d 0 0 [.ref a, .int (nI p), .ref b, .int (nI r)] h (oj_is (.inl none) (oj_up h b (.inl (0, N2, .inl (cpy f p g r 160))))) := by
  refine JM_of gd_X6_copies rfl (by decide +kernel) (Nat.le_of_ble_eq_true rfl) (oj_cats rfl) (by decide) ?_
  have loop : ∀ m j, m + j = 160 → J mi_X6_copies d 0 0 (oj_is (.inl none) (oj_up h b (.inl (0, N2, .inl (cpy f p g r 160))))) 0 0 3 [some (.ref a), some (.int (nI p)), some (.ref b), some (.int (nI r)), some (.int (nI j))] [] (oj_up h b (.inl (0, N2, .inl (cpy f p g r j)))) := by
    intro m
    induction m with
    | zero =>
      intro j hj
      obtain rfl : j = 160 := by omega
      repeat (first | (refine J_step rfl rfl ?_) | (refine J_getf rfl rfl rfl (by assumption) rfl ?_))
      refine J_ic rfl (fun _ => ?_) (fun hq => absurd (oj_ccT (by decide)) hq)
      exact J_vret rfl rfl rfl rfl ⟨rfl, rfl⟩
    | succ m ih =>
      intro j hj
      have hs := ih (j + 1) (by omega)
      rw [nI_succ] at hs
      have hbj : oj_up h b (.inl (0, N2, .inl (cpy f p g r j))) b = .inl (0, N2, .inl (cpy f p g r j)) := if_pos rfl
      repeat (first | (refine J_step rfl rfl ?_) | (refine J_getf rfl rfl rfl (by assumption) rfl ?_))
      refine J_ic rfl (fun hq => absurd (show nI 160 ≤ nI j from hq) (nI_ge (by omega) (by omega))) (fun _ => ?_)
      repeat (first | (refine J_step rfl rfl ?_) | (refine J_getf rfl rfl rfl (by assumption) rfl ?_))
      rw [nI_add, nI_add]
      have haj : ∃ f', oj_up h b (.inl (0, N2, .inl (cpy f p g r j))) a = .inl (0, N1, .inl f') ∧ f' (p + j) = f (p + j) := by
        by_cases e : a = b
        · subst e
          have e2 : (AC : Type) = (AC : Type) := rfl
          have e3 := ha.symm.trans hb
          have hN : N1 = N2 := by injection e3 with e3; injection e3 with e3 e4; injection e4
          have hf : f = g := by injection e3 with e3; injection e3 with e3 e4; injection e4 with e4 e5; injection e5
          subst hN
          subst hf
          exact ⟨_, if_pos rfl, cpy_ne (by omega)⟩
        · exact ⟨f, (if_neg e).trans ha, rfl⟩
      obtain ⟨f', ha', hf'⟩ := haj
      refine J_rs (p + j) rfl ha' rfl (by omega) (by omega) hf' ?_
      refine J_ws (r + j) rfl hbj rfl (by omega) (by omega) ?_
      rw [cpy_succ, oj_up_up]
      iterate 2 (first | (refine J_step rfl rfl ?_) | (refine J_getf rfl rfl rfl (by assumption) rfl ?_))
      exact hs
  iterate 2 (first | (refine J_step rfl rfl ?_) | (refine J_getf rfl rfl rfl (by assumption) rfl ?_))
  have hs := loop 160 0 rfl
  rw [cpy_0, oj_up_id hb] at hs
  exact hs
theorem aset_at {A : Nat → Nat → Int32} {i : Nat} {f : Nat → Int32} : aset A i f i = f := if_pos rfl
theorem aset_ne {A : Nat → Nat → Int32} {i j : Nat} {f : Nat → Int32} (h : j ≠ i) : aset A i f j = A j := if_neg h
theorem aset_aset {A : Nat → Nat → Int32} {i : Nat} {f g : Nat → Int32} : aset (aset A i f) i g = aset A i g := by
  funext j
  unfold aset
  by_cases e : j = i
  · rw [if_pos e, if_pos e]
  · rw [if_neg e, if_neg e, if_neg e]
theorem aset_self {A : Nat → Nat → Int32} {i : Nat} : aset A i (A i) = A := by
  funext j
  unfold aset
  by_cases e : j = i
  · rw [if_pos e, e]
  · rw [if_neg e]
theorem SI_cong {f g : Nat → Int32} {q : LQ} (h : ∀ i, i < 160 → g i = f i) (S : SI f q) : SI g q := by
  obtain ⟨s1, s2, s3, s4, s5⟩ := S
  exact ⟨fun i hi => (h i (by omega)).trans (s1 i hi), (h 13 (by omega)).trans s2, fun i hi => (h _ (by omega)).trans (s3 i hi), fun j hj w hw => (h _ (by omega)).trans (s4 j hj w hw), s5⟩
set_option maxRecDepth 100000 in
set_option maxHeartbeats 2000000 in
theorem m_keeps {h h1 : AHp} {v : Nat → Int32} {A : Nat → Nat → Int32} (H : MdP h v A h1) : JM mi_X6_keeps 1 0 0 [.ref 121] h1 (fun r h' => r = .inl none ∧ MdP h (fset v 1 0) (aset A 1 (cpy (A 0) 0 (A 1) 0 160)) h') := by
  have e0 := H.1.1
  refine JM_of gd_X6_keeps rfl (by decide +kernel) (Nat.le_of_ble_eq_true rfl) (oj_cats rfl) (by decide) ?_
  repeat (first | (refine J_step rfl rfl ?_) | (refine J_getf rfl rfl rfl (by assumption) rfl ?_))
  refine J_cS rfl rfl rfl rfl rfl rfl rfl rfl rfl rfl rfl (m_copies (d := 0) (p := 0) (r := 0) H.1.2.1 H.1.2.2.1 (by decide) (by decide) (by decide) (by decide) (Or.inl (by decide))) ?_
  have H2 := H.trans (H.1.arr (i := 1) (by decide) (f := cpy (A 0) 0 (A 1) 0 160))
  refine J_heap (h2 := oj_up h1 (122 + 1) (.inl (0, aN 1, .inl (cpy (A 0) 0 (A 1) 0 160)))) rfl ?_
  generalize oj_up h1 (122 + 1) (.inl (0, aN 1, .inl (cpy (A 0) 0 (A 1) 0 160))) = h2 at H2 ⊢
  have g0 := H2.1.1
  clear e0
  repeat (first | (refine J_step rfl rfl ?_) | (refine J_getf rfl rfl rfl (by assumption) rfl ?_))
  refine J_putf rfl rfl rfl g0 rfl rfl (fun _ => rfl) rfl rfl ?_
  repeat (first | (refine J_step rfl rfl ?_) | (refine J_getf rfl rfl rfl (by assumption) rfl ?_))
  exact J_vret rfl rfl rfl rfl ⟨rfl, H2.trans (H2.1.fld (v' := fset v 1 0))⟩
set_option maxRecDepth 100000 in
set_option maxHeartbeats 2000000 in
theorem m_sets {d : Nat} {h h1 : AHp} {v : Nat → Int32} {A : Nat → Nat → Int32} {j w : Nat} {x : Int32} (H : MdP h v A h1) (hj : j < 20) (hw : w < 7) : JM mi_X6_sets d 0 0 [.ref 121, .int (nI j), .int (nI w), .int x] h1 (fun r h' => r = .inl none ∧ MdP h v (aset A 0 (upd (A 0) (20 + 7 * j + w) x)) h') := by
  have e0 := H.1.1
  have e1 := H.1.2.1
  refine JM_of gd_X6_sets rfl (by decide +kernel) (Nat.le_of_ble_eq_true rfl) (oj_cats rfl) (by decide) ?_
  repeat (first | (refine J_step rfl rfl ?_) | (refine J_getf rfl rfl rfl (by assumption) rfl ?_))
  refine J_ws (20 + 7 * j + w) rfl e1 (ix_row j w) (by omega) (by decide) ?_
  exact J_vret rfl rfl rfl rfl ⟨rfl, H.trans (H.1.arr (i := 0) (by decide) (f := upd (A 0) (20 + 7 * j + w) x))⟩
/-- a cell of s written: the world behind it -/
theorem MdP.s {h h1 : AHp} {v : Nat → Int32} {A : Nat → Nat → Int32} (H : MdP h v A h1) (f : Nat → Int32) : MdP h v (aset A 0 f) (oj_up h1 122 (.inl (0, 160, .inl f))) := H.trans (H.1.arr (i := 0) (by decide))
theorem upd_at {f : Nat → Int32} {k : Nat} {x : Int32} : upd f k x k = x := if_pos rfl
theorem upd_ne {f : Nat → Int32} {k i : Nat} {x : Int32} (h : i ≠ k) : upd f k x i = f i := if_neg h
/-- what goes leaves -/
def goF (f : Nat → Int32) (n at_ : Nat) : Nat → Int32 := fun i => if i = 13 then nI (n - 1) else if 20 + 7 * at_ ≤ i ∧ i < 20 + 7 * (n - 1) then f (i + 7) else if 20 + 7 * (n - 1) ≤ i ∧ i < 20 + 7 * (n - 1) + 7 then 0 else f i
theorem rAt_erase {l : List Row} {i j : Nat} (hj : j < (l.eraseIdx i).length) : rAt (l.eraseIdx i) j = if j < i then rAt l j else rAt l (j + 1) := by
  have := List.getElem?_eraseIdx (l := l) (i := i) (j := j)
  unfold rAt
  rw [List.getD_eq_getElem?_getD, this, List.getD_eq_getElem?_getD, List.getD_eq_getElem?_getD]
  split <;> rfl
theorem SI_go {f : Nat → Int32} {sl F : Nat → Int32} {l : List Row} {E Jn : Int64} {i : Nat} (S : SI f (sl, F, l, E, Jn)) (hi : i < l.length) : SI (goF f l.length i) (sl, F, l.eraseIdx i, E, Jn) := by
  obtain ⟨s1, s2, s3, s4, s5⟩ := S
  have hlen : (l.eraseIdx i).length = l.length - 1 := by rw [List.length_eraseIdx, if_pos hi]
  have s5 : l.length ≤ 20 := s5
  refine ⟨fun k hk => ?_, ?_, fun g hg => ?_, fun j hj w hw => ?_, ?_⟩
  · unfold goF
    rw [if_neg (by omega), if_neg (by omega), if_neg (by omega)]
    exact s1 k hk
  · show goF f l.length i 13 = nI (l.eraseIdx i).length
    rw [hlen]
    exact if_pos rfl
  · unfold goF
    rw [if_neg (by omega), if_neg (by omega), if_neg (by omega)]
    exact s3 g hg
  · have hj : j < (l.eraseIdx i).length := hj
    show goF f l.length i (20 + 7 * j + w) = mRow (rAt (l.eraseIdx i) j) w
    rw [rAt_erase hj]
    rw [hlen] at hj
    unfold goF
    rw [if_neg (by omega)]
    by_cases e : j < i
    · rw [if_pos e, if_neg (by omega), if_neg (by omega)]
      exact s4 j (by show j < l.length; omega) w hw
    · rw [if_neg e, if_pos (by omega)]
      have := s4 (j + 1) (by show j + 1 < l.length; omega) w hw
      rw [show 20 + 7 * j + w + 7 = 20 + 7 * (j + 1) + w by omega]
      exact this
  · show (l.eraseIdx i).length ≤ 20
    omega
theorem nI_sub1 {n : Nat} (h : 0 < n) : nI n - 1 = nI (n - 1) := by
  obtain ⟨m, rfl⟩ : ∃ m, n = m + 1 := ⟨n - 1, by omega⟩
  exact nI_pred m
set_option maxRecDepth 100000 in
set_option maxHeartbeats 2000000 in
theorem m_goes {h h1 : AHp} {v : Nat → Int32} {A : Nat → Nat → Int32} {n i : Nat} (H : MdP h v A h1) (hn : A 0 13 = nI n) (hi : i < n) (h20 : n ≤ 20) : JM mi_X6_goes 1 0 0 [.ref 121, .int (nI i)] h1 (fun r h' => r = .inl none ∧ MdP h v (aset A 0 (goF (A 0) n i)) h') := by
  have loop2 : ∀ m j h2, m + j = 7 → MdP h v (aset A 0 (fun x => if x = 13 then nI (n - 1) else if 20 + 7 * i ≤ x ∧ x < 20 + 7 * (n - 1) then A 0 (x + 7) else if 20 + 7 * (n - 1) ≤ x ∧ x < 20 + 7 * (n - 1) + j then 0 else A 0 x)) h2 → J mi_X6_goes 1 0 0 (fun r h' => r = .inl none ∧ MdP h v (aset A 0 (goF (A 0) n i)) h') 0 0 61 [some (.ref 121), some (.int (nI i)), some (.int (nI j))] [] h2 := by
    intro m
    induction m with
    | zero =>
      intro j h2 hj H2
      obtain rfl : j = 7 := by omega
      repeat (first | (refine J_step rfl rfl ?_) | (refine J_getf rfl rfl rfl (by assumption) rfl ?_))
      refine J_ic rfl (fun _ => ?_) (fun hq => absurd (oj_ccT (by decide)) hq)
      exact J_vret rfl rfl rfl rfl ⟨rfl, H2⟩
    | succ m ih =>
      intro j h2 hj H2
      have g0 := H2.1.1
      have g1 := H2.1.2.1
      repeat (first | (refine J_step rfl rfl ?_) | (refine J_getf rfl rfl rfl (by assumption) rfl ?_))
      refine J_ic rfl (fun hq => absurd (show nI 7 ≤ nI j from hq) (nI_ge (by omega) (by omega))) (fun _ => ?_)
      repeat (first | (refine J_step rfl rfl ?_) | (refine J_getf rfl rfl rfl (by assumption) rfl ?_))
      refine J_rs (w := nI (n - 1)) 13 rfl g1 rfl (by decide) (by decide) rfl ?_
      repeat (first | (refine J_step rfl rfl ?_) | (refine J_getf rfl rfl rfl (by assumption) rfl ?_))
      refine J_callV rfl rfl rfl rfl rfl g0 rfl rfl rfl rfl (m_sets (d := 0) (j := n - 1) (w := j) H2 (by omega) (by omega)) (Nat.zero_le _) (Nat.zero_le _) (fun E h9 q => by cases q.1) (fun v9 h3 q => ?_)
      obtain ⟨q1, H3⟩ := q
      cases q1
      have hs := ih (j + 1) h3 (by omega) (by
        rw [aset_aset, aset_at] at H3
        have he : upd (fun x => if x = 13 then nI (n - 1) else if 20 + 7 * i ≤ x ∧ x < 20 + 7 * (n - 1) then A 0 (x + 7) else if 20 + 7 * (n - 1) ≤ x ∧ x < 20 + 7 * (n - 1) + j then 0 else A 0 x) (20 + 7 * (n - 1) + j) 0 = (fun x => if x = 13 then nI (n - 1) else if 20 + 7 * i ≤ x ∧ x < 20 + 7 * (n - 1) then A 0 (x + 7) else if 20 + 7 * (n - 1) ≤ x ∧ x < 20 + 7 * (n - 1) + (j + 1) then 0 else A 0 x) := by
          funext x
          unfold upd
          by_cases e : x = 20 + 7 * (n - 1) + j
          · rw [if_pos e, if_neg (by omega), if_neg (by omega), if_pos (by omega)]
          · rw [if_neg e]
            dsimp only
            by_cases e1 : x = 13
            · rw [if_pos e1, if_pos e1]
            · rw [if_neg e1, if_neg e1]
              by_cases e2 : 20 + 7 * i ≤ x ∧ x < 20 + 7 * (n - 1)
              · rw [if_pos e2, if_pos e2]
              · rw [if_neg e2, if_neg e2]
                by_cases e3 : 20 + 7 * (n - 1) ≤ x ∧ x < 20 + 7 * (n - 1) + j
                · rw [if_pos e3, if_pos (by omega)]
                · rw [if_neg e3, if_neg (by omega)]
        rw [← he]
        exact H3)
      rw [nI_succ] at hs
      iterate 2 (first | (refine J_step rfl rfl ?_) | (refine J_getf rfl rfl rfl (by assumption) rfl ?_))
      exact hs
  have loop1 : ∀ m k h2, m + k = 20 + 7 * (n - 1) → 20 + 7 * i ≤ k → MdP h v (aset A 0 (fun x => if 20 + 7 * i ≤ x ∧ x < k then A 0 (x + 7) else A 0 x)) h2 → J mi_X6_goes 1 0 0 (fun r h' => r = .inl none ∧ MdP h v (aset A 0 (goF (A 0) n i)) h') 0 0 8 [some (.ref 121), some (.int (nI i)), some (.int (nI k))] [] h2 := by
    intro m
    induction m with
    | zero =>
      intro k h2 hk hik H2
      obtain rfl : k = 20 + 7 * (n - 1) := by omega
      have g0 := H2.1.1
      have g1 := H2.1.2.1
      have hv13 : (aset A 0 (fun x => if 20 + 7 * i ≤ x ∧ x < 20 + 7 * (n - 1) then A 0 (x + 7) else A 0 x)) 0 13 = nI n := by
        rw [aset_at]
        show (if 20 + 7 * i ≤ 13 ∧ 13 < 20 + 7 * (n - 1) then A 0 (13 + 7) else A 0 13) = nI n
        rw [if_neg (by omega), hn]
      repeat (first | (refine J_step rfl rfl ?_) | (refine J_getf rfl rfl rfl (by assumption) rfl ?_))
      refine J_rs 13 rfl g1 rfl (by decide) (by decide) hv13 ?_
      repeat (first | (refine J_step rfl rfl ?_) | (refine J_getf rfl rfl rfl (by assumption) rfl ?_))
      rw [nI_sub1 (by omega)]
      have hx : 20 + 7 * nI (n - 1) = nI (20 + 7 * (n - 1)) := by
        show nI 20 + nI 7 * nI (n - 1) = _
        rw [nI_mul, nI_add]
      refine J_ic rfl (fun _ => ?_) (fun hq => absurd (show 20 + 7 * nI (n - 1) ≤ nI (20 + 7 * (n - 1)) by rw [hx]; exact Int32.le_refl _) hq)
      repeat (first | (refine J_step rfl rfl ?_) | (refine J_getf rfl rfl rfl (by assumption) rfl ?_))
      refine J_rs 13 rfl g1 rfl (by decide) (by decide) hv13 ?_
      repeat (first | (refine J_step rfl rfl ?_) | (refine J_getf rfl rfl rfl (by assumption) rfl ?_))
      rw [nI_sub1 (by omega)]
      refine J_ws 13 rfl g1 rfl (by decide) (by decide) ?_
      have H3 := H2.s (upd ((aset A 0 (fun x => if 20 + 7 * i ≤ x ∧ x < 20 + 7 * (n - 1) then A 0 (x + 7) else A 0 x)) 0) 13 (nI (n - 1)))
      iterate 2 (first | (refine J_step rfl rfl ?_) | (refine J_getf rfl rfl rfl (by assumption) rfl ?_))
      refine loop2 7 0 _ rfl ?_
      rw [aset_aset, aset_at] at H3
      have he : upd (fun x => if 20 + 7 * i ≤ x ∧ x < 20 + 7 * (n - 1) then A 0 (x + 7) else A 0 x) 13 (nI (n - 1)) = (fun x => if x = 13 then nI (n - 1) else if 20 + 7 * i ≤ x ∧ x < 20 + 7 * (n - 1) then A 0 (x + 7) else if 20 + 7 * (n - 1) ≤ x ∧ x < 20 + 7 * (n - 1) + 0 then 0 else A 0 x) := by
        funext x
        unfold upd
        by_cases e : x = 13
        · rw [if_pos e, if_pos e]
        · rw [if_neg e, if_neg e]
          dsimp only
          by_cases e2 : 20 + 7 * i ≤ x ∧ x < 20 + 7 * (n - 1)
          · rw [if_pos e2, if_pos e2]
          · rw [if_neg e2, if_neg e2, if_neg (by omega)]
      rw [← he]
      exact H3
    | succ m ih =>
      intro k h2 hk hik H2
      have g0 := H2.1.1
      have g1 := H2.1.2.1
      have hv13 : (aset A 0 (fun x => if 20 + 7 * i ≤ x ∧ x < k then A 0 (x + 7) else A 0 x)) 0 13 = nI n := by
        rw [aset_at]
        show (if 20 + 7 * i ≤ 13 ∧ 13 < k then A 0 (13 + 7) else A 0 13) = nI n
        rw [if_neg (by omega), hn]
      have hvk : (aset A 0 (fun x => if 20 + 7 * i ≤ x ∧ x < k then A 0 (x + 7) else A 0 x)) 0 (k + 7) = A 0 (k + 7) := by
        rw [aset_at]
        show (if 20 + 7 * i ≤ k + 7 ∧ k + 7 < k then A 0 (k + 7 + 7) else A 0 (k + 7)) = _
        rw [if_neg (by omega)]
      repeat (first | (refine J_step rfl rfl ?_) | (refine J_getf rfl rfl rfl (by assumption) rfl ?_))
      refine J_rs 13 rfl g1 rfl (by decide) (by decide) hv13 ?_
      repeat (first | (refine J_step rfl rfl ?_) | (refine J_getf rfl rfl rfl (by assumption) rfl ?_))
      rw [nI_sub1 (by omega)]
      have hx : 20 + 7 * nI (n - 1) = nI (20 + 7 * (n - 1)) := by
        show nI 20 + nI 7 * nI (n - 1) = _
        rw [nI_mul, nI_add]
      refine J_ic rfl (fun hq => absurd (show nI (20 + 7 * (n - 1)) ≤ nI k by rw [← hx]; exact hq) (nI_ge (by omega) (by omega))) (fun _ => ?_)
      repeat (first | (refine J_step rfl rfl ?_) | (refine J_getf rfl rfl rfl (by assumption) rfl ?_))
      refine J_rs (k + 7) rfl g1 (nI_add k 7) (by omega) (by decide) hvk ?_
      refine J_ws k rfl g1 rfl (by omega) (by decide) ?_
      have H3 := H2.s (upd ((aset A 0 (fun x => if 20 + 7 * i ≤ x ∧ x < k then A 0 (x + 7) else A 0 x)) 0) k (A 0 (k + 7)))
      have hs := ih (k + 1) _ (by omega) (by omega) (by
        rw [aset_aset, aset_at] at H3
        have he : upd (fun x => if 20 + 7 * i ≤ x ∧ x < k then A 0 (x + 7) else A 0 x) k (A 0 (k + 7)) = (fun x => if 20 + 7 * i ≤ x ∧ x < k + 1 then A 0 (x + 7) else A 0 x) := by
          funext x
          unfold upd
          by_cases e : x = k
          · rw [if_pos e, if_pos (by omega), e]
          · rw [if_neg e]
            dsimp only
            by_cases e2 : 20 + 7 * i ≤ x ∧ x < k
            · rw [if_pos e2, if_pos (by omega)]
            · rw [if_neg e2, if_neg (by omega)]
        rw [← he]
        exact H3)
      rw [nI_succ, ← aset_at (A := A) (i := 0) (f := (fun x => if 20 + 7 * i ≤ x ∧ x < k then A 0 (x + 7) else A 0 x))] at hs
      iterate 2 (first | (refine J_step rfl rfl ?_) | (refine J_getf rfl rfl rfl (by assumption) rfl ?_))
      exact hs
  refine JM_of gd_X6_goes rfl (by decide +kernel) (Nat.le_of_ble_eq_true rfl) (oj_cats rfl) (by decide) ?_
  iterate 5 (first | (refine J_step rfl rfl ?_) | (refine J_getf rfl rfl rfl (by assumption) rfl ?_))
  have hx : 20 + 7 * nI i = nI (20 + 7 * i) := by
    show nI 20 + nI 7 * nI i = _
    rw [nI_mul, nI_add]
  rw [hx]
  iterate 1 (first | (refine J_step rfl rfl ?_) | (refine J_getf rfl rfl rfl (by assumption) rfl ?_))
  refine loop1 (20 + 7 * (n - 1) - (20 + 7 * i)) (20 + 7 * i) h1 (by omega) (Nat.le_refl _) ?_
  have he : (fun x => if 20 + 7 * i ≤ x ∧ x < 20 + 7 * i then A 0 (x + 7) else A 0 x) = A 0 := by
    funext x
    rw [if_neg (by omega)]
  rw [he, aset_self]
  exact H
