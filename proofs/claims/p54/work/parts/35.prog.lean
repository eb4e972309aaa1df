/-- the program buffer at P: its text, its four columns, position and number of commands -/
def PgAt (h : AHp) (P : Nat) (w : List Int32) (T : Nat → Nat → Int32) (p m : Nat) : Prop :=
  h P = .inr (4, [.ref (P + 1), .ref (P + 2), .ref (P + 3), .ref (P + 4), .ref (P + 5), .int (nI w.length), .int (nI p), .int (nI m)]) ∧ (∃ f : Nat → Int32, h (P + 1) = .inl (1, 60, .inl f) ∧ ∀ j x, w[j]? = some x → f j = x) ∧ h (P + 2) = .inl (0, 16, .inl (T 0)) ∧ h (P + 3) = .inl (0, 16, .inl (T 1)) ∧ h (P + 4) = .inl (0, 16, .inl (T 2)) ∧ h (P + 5) = .inl (0, 16, .inl (T 3)) ∧ w.length ≤ 60
def PgP (h : AHp) (P : Nat) (w : List Int32) (T : Nat → Nat → Int32) (p m : Nat) (h' : AHp) : Prop := PgAt h' P w T p m ∧ ∀ x, x < P ∨ P + 5 < x → h' x = h x
theorem PgP.trans {h h1 h2 : AHp} {P : Nat} {w w2 : List Int32} {T T2 : Nat → Nat → Int32} {p m p2 m2 : Nat} (H : PgP h P w T p m h1) (H2 : PgP h1 P w2 T2 p2 m2 h2) : PgP h P w2 T2 p2 m2 h2 := ⟨H2.1, fun x z => (H2.2 x z).trans (H.2 x z)⟩
theorem PgP.rf {h : AHp} {P : Nat} {w : List Int32} {T : Nat → Nat → Int32} {p m : Nat} (H : PgAt h P w T p m) : PgP h P w T p m h := ⟨H, fun _ _ => rfl⟩
theorem PgAt.fld {h : AHp} {P : Nat} {w w' : List Int32} {T : Nat → Nat → Int32} {p m p' m' : Nat} (H : PgAt h P w T p m) (hw : ∀ (j : Nat) (x : Int32), w'[j]? = some x → w[j]? = some x) (hl : w'.length ≤ 60) : PgP h P w' T p' m' (oj_up h P (.inr (4, [.ref (P + 1), .ref (P + 2), .ref (P + 3), .ref (P + 4), .ref (P + 5), .int (nI w'.length), .int (nI p'), .int (nI m')]))) := by
  obtain ⟨e0, ⟨f, e1, hf⟩, e2, e3, e4, e5, -⟩ := H
  exact ⟨⟨if_pos rfl, ⟨f, (if_neg (by omega)).trans e1, fun j x hx => hf j x (hw j x hx)⟩, (if_neg (by omega)).trans e2, (if_neg (by omega)).trans e3, (if_neg (by omega)).trans e4, (if_neg (by omega)).trans e5, hl⟩, fun x hx => if_neg (by omega)⟩
def tset (T : Nat → Nat → Int32) (i m : Nat) (v : Int32) : Nat → Nat → Int32 := fun a => if a = i then upd (T a) m v else T a
theorem PgAt.col {h : AHp} {P i : Nat} {w : List Int32} {T : Nat → Nat → Int32} {p m j : Nat} {v : Int32} (H : PgAt h P w T p m) (hi : i < 4) : PgP h P w (tset T i j v) p m (oj_up h (P + 2 + i) (.inl (0, 16, .inl (upd (T i) j v)))) := by
  obtain ⟨e0, ⟨f, e1, hf⟩, e2, e3, e4, e5, hl⟩ := H
  have ht : ∀ a, a < 4 → h (P + 2 + a) = .inl (0, 16, .inl (T a)) → oj_up h (P + 2 + i) (.inl (0, 16, .inl (upd (T i) j v))) (P + 2 + a) = .inl (0, 16, .inl (tset T i j v a)) := by
    intro a ha hh
    unfold oj_up tset
    by_cases z : a = i
    · rw [if_pos (by rw [z]), if_pos z, z]
    · rw [if_neg (by omega), if_neg z, hh]
  exact ⟨⟨(if_neg (by omega)).trans e0, ⟨f, (if_neg (by omega)).trans e1, hf⟩, ht 0 (by omega) e2, ht 1 (by omega) e3, ht 2 (by omega) e4, ht 3 (by omega) e5, hl⟩, fun x hx => if_neg (by omega)⟩
def sg (w : List Int32) (p : Nat) : Int32 := w.getD p 0
theorem sg_at {w : List Int32} {p : Nat} (h : p < w.length) : w[p]? = some (sg w p) := by unfold sg; rw [List.getD_eq_getElem?_getD, List.getElem?_eq_getElem h]; rfl
theorem sg_end {w : List Int32} {p : Nat} (h : w.length ≤ p) : sg w p = 0 := by unfold sg; rw [List.getD_eq_getElem?_getD, List.getElem?_eq_none h]; rfl
theorem sg_lt {w : List Int32} {p : Nat} (h : ¬ sg w p = 0) : p < w.length := by
  rcases Nat.lt_or_ge p w.length with q | q
  · exact q
  · exact absurd (sg_end q) h
/-- every sign is a char -/
def wOk (w : List Int32) : Prop := ∀ p, narrow .char (.int (sg w p)) = .int (sg w p)
set_option maxRecDepth 100000 in
set_option maxHeartbeats 2000000 in
theorem c_signAt {d : Nat} {h : AHp} {P p p0 m : Nat} {w : List Int32} {T : Nat → Nat → Int32} (H : PgAt h P w T p0 m) (hw : wOk w) (hp : p ≤ 60) : JM mi_X4_signAt d 0 0 [.ref P, .int (nI p)] h (oj_is (.inl (some (.int (sg w p)))) h) := by
  obtain ⟨e0, ⟨f, e1, hf⟩, -, -, -, -, hl⟩ := H
  refine JM_of gd_X4_signAt rfl (by decide +kernel) (Nat.le_of_ble_eq_true rfl) (oj_cats rfl) (by decide) ?_
  repeat (first | (refine J_step rfl rfl ?_) | (refine J_getf rfl rfl rfl (by assumption) rfl ?_))
  refine J_if (y := 0) rfl (fun hq => absurd hq (nI_pos (by omega))) (fun hq => ?_)
  repeat (first | (refine J_step rfl rfl ?_) | (refine J_getf rfl rfl rfl (by assumption) rfl ?_))
  refine J_ic rfl (fun hq => ?_) (fun hq => ?_)
  · have hge : w.length ≤ p := by
      rcases Nat.lt_or_ge p w.length with z | z
      · exact absurd hq (nI_ge z (by omega))
      · exact z
    repeat (first | (refine J_step rfl rfl ?_) | (refine J_getf rfl rfl rfl (by assumption) rfl ?_))
    rw [← sg_end hge]
    exact J_cret rfl rfl rfl rfl (hw p) ⟨rfl, rfl⟩
  · have hlt : p < w.length := by
      rcases Nat.lt_or_ge p w.length with z | z
      · exact z
      · exact absurd (nI_le z (by omega)) hq
    repeat (first | (refine J_step rfl rfl ?_) | (refine J_getf rfl rfl rfl (by assumption) rfl ?_))
    refine J_cald rfl e1 (vp_in_nI (by omega) (by omega)) ?_
    rw [nI_clamp (by omega), hf p _ (sg_at hlt)]
    repeat (first | (refine J_step rfl rfl ?_) | (refine J_getf rfl rfl rfl (by assumption) rfl ?_))
    exact J_cret rfl rfl rfl rfl (hw p) ⟨rfl, rfl⟩
set_option maxRecDepth 100000 in
set_option maxHeartbeats 2000000 in
theorem c_isDigit {d : Nat} {h : AHp} {v : Int32} : JM mi_X4_isDigit d 0 0 [.int v] h (oj_is (.inl (some (.int (bI (decide (48 ≤ v ∧ v ≤ 57)))))) h) := by
  refine JM_of gd_X4_isDigit rfl (by decide +kernel) (Nat.le_of_ble_eq_true rfl) (oj_cats rfl) (by decide) ?_
  repeat' (first | (refine J_step rfl rfl ?_) | (refine J_getf rfl rfl rfl (by assumption) rfl ?_) | (refine J_if (y := 0) rfl (fun _ => ?_) (fun _ => ?_)) | (refine J_ic rfl (fun _ => ?_) (fun _ => ?_)))
  all_goals (refine J_zret rfl rfl rfl rfl (decide (48 ≤ v ∧ v ≤ 57)) ?_ ⟨rfl, rfl⟩)
  all_goals simp_all [oj_cz, oj_cc, ne_bI0, ltn, -Int32.not_le, -Int32.not_lt, -ne_eq, bI]
def rdS (w : List Int32) : List Int32 → Nat → Bool × Nat
  | [], p => (true, p)
  | c :: cs, p => if sg w p = c then rdS w cs (p + 1) else (false, p)
/-- the signs of text constant q -/
def wd (q : Nat) : List Int32 := (List.range (oj_len.getD q 0)).map (sCh q)
theorem wd_nz : ∀ q, q < 32 → ∀ c ∈ wd q, ¬ c = 0 := by decide +kernel
theorem rdS_le {w : List Int32} : ∀ (cs : List Int32) (p : Nat), (∀ c ∈ cs, ¬ c = 0) → p ≤ w.length → (rdS w cs p).2 ≤ w.length
  | [], p, _, h => h
  | c :: cs, p, hc, h => by
    unfold rdS
    split
    · rename_i e
      exact rdS_le cs (p + 1) (fun c hc' => hc c (List.mem_cons_of_mem _ hc')) (sg_lt (by rw [e]; exact hc c List.mem_cons_self))
    · exact h
theorem rdS_ge {w : List Int32} : ∀ (cs : List Int32) (p : Nat), p ≤ (rdS w cs p).2
  | [], p => Nat.le_refl _
  | c :: cs, p => by
    unfold rdS
    split
    · exact Nat.le_trans (Nat.le_succ p) (rdS_ge cs (p + 1))
    · exact Nat.le_refl _
theorem wd_len (q : Nat) : (wd q).length = oj_len.getD q 0 := by unfold wd; rw [List.length_map, List.length_range]
theorem wd_at {q j : Nat} (h : j < oj_len.getD q 0) : (wd q).drop j = sCh q j :: (wd q).drop (j + 1) := by
  have h2 : j < (wd q).length := by rw [wd_len]; exact h
  rw [List.drop_eq_getElem_cons h2]
  have h3 : (wd q)[j]? = some (sCh q j) := by unfold wd; rw [List.getElem?_map, List.getElem?_range h]; rfl
  rw [(List.getElem?_eq_some_iff.mp h3).2]
set_option maxRecDepth 100000 in
set_option maxHeartbeats 2000000 in
theorem c_readWord {h h1 : AHp} {P p m q : Nat} {w : List Int32} {T : Nat → Nat → Int32} (H : PgP h P w T p m h1) (hw : wOk w) (hp : p ≤ w.length) (hq : q < 32) : JM mi_X4_readWord 4 0 0 [.ref P, .ref (oj_sa q)] h1 (fun r h' => r = .inl (some (.int (bI (rdS w (wd q) p).1))) ∧ PgP h P w T (rdS w (wd q) p).2 m h') := by
  have hw60 := H.1.2.2.2.2.2.2
  have hlq := (sc_all q hq).1
  refine JM_of gd_X4_readWord rfl (by decide +kernel) (Nat.le_of_ble_eq_true rfl) (oj_cats rfl) (by decide) ?_
  have loop : ∀ n j p h1, n + j = oj_len.getD q 0 → p ≤ w.length → PgP h P w T p m h1 → ∀ r, rdS w ((wd q).drop j) p = r → J mi_X4_readWord 4 0 0 (fun r' h' => r' = .inl (some (.int (bI r.1))) ∧ PgP h P w T r.2 m h') 0 0 2 [some (.ref P), some (.ref (oj_sa q)), some (.int (nI j))] [] h1 := by
    intro n
    induction n with
    | zero =>
      intro j p h1 hn hp H r hr
      obtain rfl : j = oj_len.getD q 0 := by omega
      rw [← wd_len, List.drop_length] at hr
      repeat (first | (refine J_step rfl rfl ?_) | (refine J_getf rfl rfl rfl (by assumption) rfl ?_))
      refine J_slenT hq rfl (by decide +kernel) rfl rfl rfl rfl ?_
      refine J_ic rfl (fun _ => ?_) (fun hz => absurd (Int32.le_refl _) hz)
      repeat (first | (refine J_step rfl rfl ?_) | (refine J_getf rfl rfl rfl (by assumption) rfl ?_))
      rw [← hr]
      exact J_zret rfl rfl rfl rfl true rfl ⟨rfl, H⟩
    | succ n ih =>
      intro j p h1 hn hp H r hr
      have hj : j < oj_len.getD q 0 := by omega
      have e0 := H.1.1
      rw [wd_at hj, rdS] at hr
      repeat (first | (refine J_step rfl rfl ?_) | (refine J_getf rfl rfl rfl (by assumption) rfl ?_))
      refine J_slenT hq rfl (by decide +kernel) rfl rfl rfl rfl ?_
      refine J_ic rfl (fun hz => absurd hz (nI_ge hj (by omega))) (fun _ => ?_)
      repeat (first | (refine J_step rfl rfl ?_) | (refine J_getf rfl rfl rfl (by assumption) rfl ?_))
      refine J_cV rfl rfl rfl rfl rfl (by assumption) rfl rfl rfl rfl rfl rfl (c_signAt (d := 3) H.1 hw (by omega)) ?_
      repeat (first | (refine J_step rfl rfl ?_) | (refine J_getf rfl rfl rfl (by assumption) rfl ?_))
      refine J_schrT hq hj rfl (by decide +kernel) rfl rfl rfl rfl ?_
      refine J_ic rfl (fun hz => ?_) (fun hz => ?_)
      · rw [if_pos (show sg w p = sCh q j from hz)] at hr
        have hlt : p < w.length := sg_lt (by rw [show sg w p = sCh q j from hz]; exact wd_nz q hq _ (List.mem_of_mem_drop (i := j) (by rw [wd_at hj]; exact List.mem_cons_self)))
        repeat (first | (refine J_step rfl rfl ?_) | (refine J_getf rfl rfl rfl (by assumption) rfl ?_))
        refine J_putf rfl rfl rfl e0 rfl rfl (fun _ => rfl) rfl rfl ?_
        have H2 := H.trans (H.1.fld (w' := w) (p' := p + 1) (m' := m) (fun _ _ z => z) hw60)
        rw [nI_succ] at H2
        have hs := ih (j + 1) (p + 1) _ (by omega) (by omega) H2 r hr
        rw [nI_succ] at hs
        iterate 2 (first | (refine J_step rfl rfl ?_) | (refine J_getf rfl rfl rfl (by assumption) rfl ?_))
        exact hs
      · rw [if_neg (show ¬ sg w p = sCh q j from hz)] at hr
        repeat (first | (refine J_step rfl rfl ?_) | (refine J_getf rfl rfl rfl (by assumption) rfl ?_))
        rw [← hr]
        exact J_zret rfl rfl rfl rfl false rfl ⟨rfl, H⟩
  iterate 2 (first | (refine J_step rfl rfl ?_) | (refine J_getf rfl rfl rfl (by assumption) rfl ?_))
  exact loop _ 0 p h1 rfl hp H _ rfl
