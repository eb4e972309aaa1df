theorem gW_P {w : List Int32} {q p : Nat} {k : Nat → RC} (X : RC → Prop) (hf : X (false, (rdS w (wd q) p).2, 0, 0, 0, 0)) (hk : (rdS w (wd q) p).1 = true → X (k (rdS w (wd q) p).2)) : X (gW w q p k) := by
  unfold gW
  split
  · rename_i e; exact hk e
  · exact hf
theorem gD_P {w : List Int32} {n p : Nat} {k : Int32 → Nat → RC} (X : RC → Prop) (hf : X (false, (rdD w n 0 0 p).2.2, 0, 0, 0, 0)) (hk : X (k (rdD w n 0 0 p).1 (rdD w n 0 0 p).2.2)) : X (gD w n p k) := by
  unfold gD
  split
  · exact hk
  · exact hf
theorem rdS_ok {w : List Int32} : ∀ (cs : List Int32) (p : Nat), (rdS w cs p).1 = true → (rdS w cs p).2 = p + cs.length
  | [], p, _ => rfl
  | c :: cs, p, h => by
    unfold rdS at h ⊢
    split
    · rename_i e
      rw [if_pos e] at h
      rw [rdS_ok cs (p + 1) h, List.length_cons]
      omega
    · rename_i e
      rw [if_neg e] at h
      cases h
theorem wd_lens : (wd 14).length = 7 ∧ (wd 17).length = 7 ∧ (wd 18).length = 6 ∧ (wd 20).length = 4 ∧ (wd 21).length = 9 ∧ (wd 22).length = 4 := by decide +kernel
/-- a command that is read takes four signs at least, and no sign behind the text -/
theorem rdC_adv {w : List Int32} {p : Nat} (hp : p ≤ w.length) : p ≤ (rdC w p).2.1 ∧ (rdC w p).2.1 ≤ w.length ∧ (rdC w p).2.2.1 ≤ 5 ∧ ((rdC w p).1 = true → p + 4 ≤ (rdC w p).2.1) := by
  have X : ∀ a : Nat, ∀ R : RC, (p + a ≤ R.2.1 ∧ R.2.1 ≤ w.length ∧ R.2.2.1 ≤ 5) → (4 ≤ a) → p ≤ R.2.1 ∧ R.2.1 ≤ w.length ∧ R.2.2.1 ≤ 5 ∧ (R.1 = true → p + 4 ≤ R.2.1) := fun a R h h4 => ⟨by omega, h.2.1, h.2.2, fun _ => by omega⟩
  have F : ∀ q, q < 32 → p ≤ ((false, (rdS w (wd q) p).2, 0, 0, 0, 0) : RC).2.1 ∧ ((false, (rdS w (wd q) p).2, 0, 0, 0, 0) : RC).2.1 ≤ w.length ∧ ((false, (rdS w (wd q) p).2, 0, 0, 0, 0) : RC).2.2.1 ≤ 5 ∧ (((false, (rdS w (wd q) p).2, 0, 0, 0, 0) : RC).1 = true → p + 4 ≤ ((false, (rdS w (wd q) p).2, 0, 0, 0, 0) : RC).2.1) := fun q hq => ⟨rdS_ge _ _, rdS_le _ _ (wd_nz q hq) hp, Nat.zero_le _, fun z => by cases z⟩
  have A : ∀ q, q < 32 → ∀ p' : Nat, ∀ k : Nat → RC, p' ≤ w.length → (∀ p'', p' ≤ p'' → p'' ≤ w.length → p' ≤ (k p'').2.1 ∧ (k p'').2.1 ≤ w.length ∧ (k p'').2.2.1 ≤ 5) → p' ≤ (gW w q p' k).2.1 ∧ (gW w q p' k).2.1 ≤ w.length ∧ (gW w q p' k).2.2.1 ≤ 5 := by
    intro q hq p' k hp' hk
    exact gW_P (fun R => p' ≤ R.2.1 ∧ R.2.1 ≤ w.length ∧ R.2.2.1 ≤ 5) ⟨rdS_ge _ _, rdS_le _ _ (wd_nz q hq) hp', Nat.zero_le _⟩ (fun _ => hk _ (rdS_ge _ _) (rdS_le _ _ (wd_nz q hq) hp'))
  have B : ∀ (n p' : Nat) (k : Int32 → Nat → RC), p' ≤ w.length → (∀ x p'', p' ≤ p'' → p'' ≤ w.length → p' ≤ (k x p'').2.1 ∧ (k x p'').2.1 ≤ w.length ∧ (k x p'').2.2.1 ≤ 5) → p' ≤ (gD w n p' k).2.1 ∧ (gD w n p' k).2.1 ≤ w.length ∧ (gD w n p' k).2.2.1 ≤ 5 := by
    intro n p' k hp' hk
    exact gD_P (fun R => p' ≤ R.2.1 ∧ R.2.1 ≤ w.length ∧ R.2.2.1 ≤ 5) ⟨(rdD_ge _ _ _ _).1, rdD_le _ _ _ _ hp', Nat.zero_le _⟩ (hk _ _ (rdD_ge _ _ _ _).1 (rdD_le _ _ _ _ hp'))
  have W0 : ∀ q, q < 32 → ∀ a, (wd q).length = a → 4 ≤ a → ∀ k : Nat → RC, (∀ p'', p'' ≤ w.length → p'' ≤ (k p'').2.1 ∧ (k p'').2.1 ≤ w.length ∧ (k p'').2.2.1 ≤ 5) → p ≤ (gW w q p k).2.1 ∧ (gW w q p k).2.1 ≤ w.length ∧ (gW w q p k).2.2.1 ≤ 5 ∧ ((gW w q p k).1 = true → p + 4 ≤ (gW w q p k).2.1) := by
    intro q hq a ha h4 k hk
    refine gW_P (fun R => p ≤ R.2.1 ∧ R.2.1 ≤ w.length ∧ R.2.2.1 ≤ 5 ∧ (R.1 = true → p + 4 ≤ R.2.1)) (F q hq) (fun e => ?_)
    have e2 := rdS_ok _ _ e
    have := hk _ (rdS_le _ _ (wd_nz q hq) hp)
    exact X a _ ⟨by rw [← ha, ← e2]; exact this.1, this.2⟩ h4
  have up : ∀ {a b c : Nat} {R : RC}, a ≤ b → (b ≤ R.2.1 ∧ R.2.1 ≤ c ∧ R.2.2.1 ≤ 5) → (a ≤ R.2.1 ∧ R.2.1 ≤ c ∧ R.2.2.1 ≤ 5) := fun h z => ⟨Nat.le_trans h z.1, z.2⟩
  obtain ⟨l0, l1, l2, l3, l4, l5⟩ := wd_lens
  unfold rdC
  split
  · exact W0 14 (by omega) 7 l0 (by omega) _ fun p1 h1 => B _ _ _ h1 fun x p2 g2 h2 => up g2 (A 15 (by omega) _ _ h2 fun p3 g3 h3 => up g3 (B _ _ _ h3 fun y p4 g4 h4 => up g4 (A 16 (by omega) _ _ h4 fun p5 g5 h5 => up g5 (B _ _ _ h5 fun z p6 g6 h6 => ⟨g6, h6, Nat.zero_le _⟩))))
  · split
    · exact W0 17 (by omega) 7 l1 (by omega) _ fun p1 h1 => B _ _ _ h1 fun x p2 g2 h2 => ⟨g2, h2, Nat.le_of_ble_eq_true rfl⟩
    · split
      · exact W0 18 (by omega) 6 l2 (by omega) _ fun p1 h1 => B _ _ _ h1 fun x p2 g2 h2 => up g2 (A 19 (by omega) _ _ h2 fun p3 g3 h3 => up g3 (B _ _ _ h3 fun y p4 g4 h4 => ⟨g4, h4, Nat.le_of_ble_eq_true rfl⟩))
      · split
        · exact W0 20 (by omega) 4 l3 (by omega) _ fun p1 h1 => ⟨Nat.le_refl _, h1, Nat.le_of_ble_eq_true rfl⟩
        · split
          · exact W0 21 (by omega) 9 l4 (by omega) _ fun p1 h1 => B _ _ _ h1 fun x p2 g2 h2 => ⟨g2, h2, Nat.le_of_ble_eq_true rfl⟩
          · split
            · refine W0 22 (by omega) 4 l5 (by omega) _ fun p1 h1 => ?_
              by_cases e : sg w p1 = 32
              · rw [if_pos e]
                have hlt := sg_lt (w := w) (p := p1) (by rw [e]; decide)
                exact up (Nat.le_succ p1) (B _ _ _ (by omega) fun x p2 g2 h2 => ⟨g2, h2, Nat.le_of_ble_eq_true rfl⟩)
              · rw [if_neg e]
                exact ⟨Nat.le_refl _, h1, Nat.le_of_ble_eq_true rfl⟩
            · exact ⟨Nat.le_refl _, hp, Nat.zero_le _, fun z => by cases z⟩
abbrev CMD : Type := Nat × Int32 × Int32 × Int32
/-- the commands cs stand in the columns T -/
def CmAt (T : Nat → Nat → Int32) (cs : List CMD) : Prop := ∀ j c, cs[j]? = some c → T 0 j = nI c.1 ∧ nc c.1 (T 1 j) (T 2 j) (T 3 j) = nc c.1 c.2.1 c.2.2.1 c.2.2.2 ∧ c.1 ≤ 5
theorem cm_ext {T T' : Nat → Nat → Int32} {cs : List CMD} {c : CMD} {m : Nat} (hm : m = cs.length) (hC : CmAt T cs) (hT : ∀ i j, j ≠ m → T' i j = T i j) (hk : T' 0 m = nI c.1 ∧ nc c.1 (T' 1 m) (T' 2 m) (T' 3 m) = nc c.1 c.2.1 c.2.2.1 c.2.2.2) (h5 : c.1 ≤ 5) : CmAt T' (cs ++ [c]) := by
  intro j c' hj
  by_cases z : j = m
  · subst z
    rw [hm, List.getElem?_append_right (Nat.le_refl _)] at hj
    have : c = c' := by simpa using hj
    subst this
    exact ⟨hk.1, hk.2, h5⟩
  · have hlt : j < cs.length := by
      have := (List.getElem?_eq_some_iff.mp hj).1
      rw [List.length_append] at this
      have : j < cs.length + 1 := this
      omega
    rw [List.getElem?_append_left hlt] at hj
    have := hC j c' hj
    rw [hT 0 j z, hT 1 j z, hT 2 j z, hT 3 j z]
    exact this
def cadd (R : RC) (cs : List CMD) : List CMD := if R.1 = true then cs ++ [R.2.2] else cs
def rdL (w : List Int32) : Nat → Bool → Nat → List CMD → Bool × Nat × List CMD
  | 0, ok, p, cs => (ok, p, cs)
  | n + 1, ok, p, cs => if ok = true ∧ p < w.length then (if sg w p = 59 then rdL w n (rdC w (p + 1)).1 (rdC w (p + 1)).2.1 (cadd (rdC w (p + 1)) cs) else (false, p, cs)) else (ok, p, cs)
/-- the whole text, read -/
def rdP (w : List Int32) : Bool × Nat × List CMD := rdL w 60 (rdC w 0).1 (rdC w 0).2.1 (cadd (rdC w 0) [])
set_option maxRecDepth 100000 in
set_option maxHeartbeats 2000000 in
theorem c_readCommand {h h1 : AHp} {P p m : Nat} {w : List Int32} {T : Nat → Nat → Int32} (H : PgP h P w T p m h1) (hw : wOk w) (hp : p ≤ w.length) (hm : m < 16) : JM mi_X4_readCommand 7 0 0 [.ref P] h1 (fun r h' => r = .inl (some (.int (bI (rdC w p).1))) ∧ ∃ T' : Nat → Nat → Int32, (∀ i j, j ≠ m → T' i j = T i j) ∧ ((rdC w p).1 = true → T' 0 m = nI (rdC w p).2.2.1 ∧ nc (rdC w p).2.2.1 (T' 1 m) (T' 2 m) (T' 3 m) = nc (rdC w p).2.2.1 (rdC w p).2.2.2.1 (rdC w p).2.2.2.2.1 (rdC w p).2.2.2.2.2) ∧ PgP h P w T' (rdC w p).2.1 (if (rdC w p).1 = true then m + 1 else m) h') := by
  have hw60 := H.1.2.2.2.2.2.2
  have e0 := H.1.1
  refine JM_of gd_X4_readCommand rfl (by decide +kernel) (Nat.le_of_ble_eq_true rfl) (oj_cats rfl) (by decide) ?_
  repeat (first | (refine J_step rfl rfl ?_) | (refine J_getf rfl rfl rfl (by assumption) rfl ?_))
  refine J_ic rfl (fun _ => ?_) (fun hz => absurd (show nI m < nI 16 from nI_lt hm (by decide)) hz)
  repeat (first | (refine J_step rfl rfl ?_) | (refine J_getf rfl rfl rfl (by assumption) rfl ?_))
  refine J_callV rfl rfl rfl rfl rfl e0 rfl rfl rfl rfl (c_readForm H hw hp hm) (Nat.le_refl _) (Nat.le_refl _) (fun E h9 q => by cases q.1) (fun v h9 q => ?_)
  obtain ⟨q1, T', hT, hok, H2⟩ := q
  cases q1
  generalize rdC w p = R at *
  have g0 := H2.1.1
  repeat (first | (refine J_step rfl rfl ?_) | (refine J_getf rfl rfl rfl (by assumption) rfl ?_))
  refine J_if (y := 0) rfl (fun hz => ?_) (fun hz => ?_)
  · repeat (first | (refine J_step rfl rfl ?_) | (refine J_getf rfl rfl rfl (by assumption) rfl ?_))
    exact J_zret rfl rfl rfl rfl R.1 rfl ⟨rfl, T', hT, hok, by rw [if_neg (by rw [bI_f hz]; decide)]; exact H2⟩
  · repeat (first | (refine J_step rfl rfl ?_) | (refine J_getf rfl rfl rfl (by assumption) rfl ?_))
    refine J_putf rfl rfl rfl g0 rfl rfl (fun _ => rfl) rfl rfl ?_
    have H3 := H2.trans (H2.1.fld (w' := w) (p' := R.2.1) (m' := m + 1) (fun _ _ z => z) hw60)
    rw [nI_succ] at H3
    repeat (first | (refine J_step rfl rfl ?_) | (refine J_getf rfl rfl rfl (by assumption) rfl ?_))
    exact J_zret rfl rfl rfl rfl R.1 rfl ⟨rfl, T', hT, hok, by rw [if_pos (bI_t hz)]; exact H3⟩
theorem wd_semi : wd 23 = [59] := by decide +kernel
set_option maxRecDepth 100000 in
set_option maxHeartbeats 2000000 in
theorem c_parse {h h1 : AHp} {P p0 m0 : Nat} {w : List Int32} {T0 : Nat → Nat → Int32} (H : PgP h P w T0 p0 m0 h1) (hw : wOk w) : JM mi_X4_parse 8 0 0 [.ref P] h1 (fun r h' => r = .inl (some (.int (bI (rdP w).1))) ∧ ∃ (T' : Nat → Nat → Int32) (m' : Nat), PgP h P w T' (rdP w).2.1 m' h' ∧ ((rdP w).1 = true → m' = (rdP w).2.2.length ∧ CmAt T' (rdP w).2.2)) := by
  have hw60 := H.1.2.2.2.2.2.2
  refine JM_of gd_X4_parse rfl (by decide +kernel) (Nat.le_of_ble_eq_true rfl) (oj_cats rfl) (by decide) ?_
  have fin : ∀ (h1 : AHp) T p m (r : Bool × Nat × List CMD) i, PgP h P w T p m h1 → r.2.1 = p → (r.1 = true → m = r.2.2.length ∧ CmAt T r.2.2) → J mi_X4_parse 8 0 0 (fun r' h' => r' = .inl (some (.int (bI r.1))) ∧ ∃ (T' : Nat → Nat → Int32) (m' : Nat), PgP h P w T' r.2.1 m' h' ∧ (r.1 = true → m' = r.2.2.length ∧ CmAt T' r.2.2)) 0 0 66 [some (.ref P), some (.int (bI r.1)), some (.int (nI i))] [] h1 := by
    intro h1 T p m r i H hp hok
    repeat (first | (refine J_step rfl rfl ?_) | (refine J_getf rfl rfl rfl (by assumption) rfl ?_))
    exact J_zret rfl rfl rfl rfl r.1 rfl ⟨rfl, T, m, by rw [hp]; exact H, hok⟩
  have loop : ∀ n i ok p cs T m h1, n + i = 60 → p ≤ w.length → PgP h P w T p m h1 → (ok = true → m = cs.length ∧ CmAt T cs ∧ 5 * cs.length ≤ p + 1) → ∀ r, rdL w n ok p cs = r → J mi_X4_parse 8 0 0 (fun r' h' => r' = .inl (some (.int (bI r.1))) ∧ ∃ (T' : Nat → Nat → Int32) (m' : Nat), PgP h P w T' r.2.1 m' h' ∧ (r.1 = true → m' = r.2.2.length ∧ CmAt T' r.2.2)) 0 0 17 [some (.ref P), some (.int (bI ok)), some (.int (nI i))] [] h1 := by
    intro n
    induction n with
    | zero =>
      intro i ok p cs T m h1 hn hp H hok r hr
      obtain rfl : i = 60 := by omega
      subst hr
      repeat (first | (refine J_step rfl rfl ?_) | (refine J_getf rfl rfl rfl (by assumption) rfl ?_))
      refine J_ic rfl (fun _ => ?_) (fun hz => absurd (oj_ccT (by decide)) hz)
      exact fin h1 T p m (ok, p, cs) 60 H rfl (fun z => ⟨(hok z).1, (hok z).2.1⟩)
    | succ n ih =>
      intro i ok p cs T m h1 hn hp H hok r hr
      rw [rdL] at hr
      have e0 := H.1.1
      repeat (first | (refine J_step rfl rfl ?_) | (refine J_getf rfl rfl rfl (by assumption) rfl ?_))
      refine J_ic rfl (fun hz => absurd (show nI 60 ≤ nI i from hz) (nI_ge (by omega) (by omega))) (fun _ => ?_)
      repeat (first | (refine J_step rfl rfl ?_) | (refine J_getf rfl rfl rfl (by assumption) rfl ?_))
      refine J_if (y := 0) rfl (fun hz => ?_) (fun hz => ?_)
      · have hb := bI_f hz
        rw [if_neg (fun z => by rw [hb] at z; cases z.1)] at hr
        subst hr
        exact fin h1 T p m (ok, p, cs) i H rfl (fun z => ⟨(hok z).1, (hok z).2.1⟩)
      have hb := bI_t hz
      obtain ⟨k1, k2, k3⟩ := hok hb
      repeat (first | (refine J_step rfl rfl ?_) | (refine J_getf rfl rfl rfl (by assumption) rfl ?_))
      refine J_ic rfl (fun hz => ?_) (fun hz => ?_)
      · have hge : ¬ p < w.length := fun z => absurd hz (nI_ge z (by omega))
        rw [if_neg (fun z => hge z.2)] at hr
        subst hr
        exact fin h1 T p m (ok, p, cs) i H rfl (fun z => ⟨(hok z).1, (hok z).2.1⟩)
      have hlt : p < w.length := by
        rcases Nat.lt_or_ge p w.length with z | z
        · exact z
        · exact absurd (nI_le z (by omega)) hz
      rw [if_pos ⟨hb, hlt⟩] at hr
      have nxt : ∀ ok' p' cs' T' m' h2, p' ≤ w.length → PgP h P w T' p' m' h2 → (ok' = true → m' = cs'.length ∧ CmAt T' cs' ∧ 5 * cs'.length ≤ p' + 1) → rdL w n ok' p' cs' = r → J mi_X4_parse 8 0 0 (fun r' h' => r' = .inl (some (.int (bI r.1))) ∧ ∃ (T' : Nat → Nat → Int32) (m' : Nat), PgP h P w T' r.2.1 m' h' ∧ (r.1 = true → m' = r.2.2.length ∧ CmAt T' r.2.2)) 0 0 59 [some (.ref P), some (.int (bI ok)), some (.int (nI i))] [.int (bI ok')] h2 := by
        intro ok' p' cs' T' m' h2 hp' H' hok' hr'
        have hs := ih (i + 1) ok' p' cs' T' m' h2 (by omega) hp' H' hok' r hr'
        rw [nI_succ] at hs
        iterate 3 (first | (refine J_step rfl rfl ?_) | (refine J_getf rfl rfl rfl (by assumption) rfl ?_))
        exact hs
      have bad : ∀ p' T' m' h2, p' ≤ w.length → PgP h P w T' p' m' h2 → (∀ cs', (false, p', cs') = r → True) → r.1 = false → r.2.1 = p' → J mi_X4_parse 8 0 0 (fun r' h' => r' = .inl (some (.int (bI r.1))) ∧ ∃ (T' : Nat → Nat → Int32) (m' : Nat), PgP h P w T' r.2.1 m' h' ∧ (r.1 = true → m' = r.2.2.length ∧ CmAt T' r.2.2)) 0 0 58 [some (.ref P), some (.int (bI ok)), some (.int (nI i))] [] h2 := by
        intro p' T' m' h2 hp' H' _ hr1 hr2
        iterate 1 (refine J_step rfl rfl ?_)
        refine nxt false p' r.2.2 T' m' h2 hp' H' (fun z => by cases z) ?_
        have : r = (false, p', r.2.2) := by rw [← hr1, ← hr2]
        rw [this]
        cases n with
        | zero => rfl
        | succ n => rw [rdL, if_neg (fun z => by cases z.1)]
      repeat (first | (refine J_step rfl rfl ?_) | (refine J_getf rfl rfl rfl (by assumption) rfl ?_))
      refine J_ldcS (text := ";") (sn := 23) rfl (by decide +kernel) ?_
      refine J_callV rfl rfl rfl rfl rfl e0 rfl rfl rfl rfl (c_readWord (q := 23) H hw hp (by omega)) (Nat.le_refl _) (Nat.le_refl _) (fun E h9 q => by cases q.1) (fun v h9 q => ?_)
      obtain ⟨q1, H1⟩ := q
      cases q1
      rw [wd_semi, rdS, rdS] at H1 ⊢
      by_cases e : sg w p = 59
      · rw [if_pos e] at hr H1 ⊢
        have g0 := H1.1.1
        have hadv := rdC_adv (w := w) (p := p + 1) hlt
        refine J_if (y := 0) rfl (fun hz => absurd hz (show ¬ bI true = 0 by decide)) (fun _ => ?_)
        repeat (first | (refine J_step rfl rfl ?_) | (refine J_getf rfl rfl rfl (by assumption) rfl ?_))
        refine J_callV rfl rfl rfl rfl rfl g0 rfl rfl rfl rfl (c_readCommand H1 hw hlt (by omega)) (Nat.le_refl _) (Nat.le_refl _) (fun E h9 q => by cases q.1) (fun v h9 q => ?_)
        obtain ⟨q1, T', hT, hok', H2⟩ := q
        cases q1
        generalize rdC w (p + 1) = R at *
        refine J_if (y := 0) rfl (fun hz => ?_) (fun hz => ?_)
        · have hb' := bI_f hz
          rw [if_neg (by rw [hb']; decide)] at H2
          have hr1 : r = (false, R.2.1, cs) := by
            rw [← hr, hb', cadd, if_neg (by rw [hb']; decide)]
            cases n with
            | zero => rfl
            | succ n => rw [rdL, if_neg (fun z => by cases z.1)]
          exact bad R.2.1 T' m _ hadv.2.1 H2 (fun _ _ => trivial) (by rw [hr1]) (by rw [hr1])
        · have hb' := bI_t hz
          rw [if_pos hb'] at H2
          rw [hb', cadd, if_pos hb'] at hr
          have hE := cm_ext k1 k2 hT (hok' hb') hadv.2.2.1
          have hl : (cs ++ [R.2.2]).length = cs.length + 1 := by rw [List.length_append]; rfl
          have h4 := hadv.2.2.2 hb'
          iterate 2 (refine J_step rfl rfl ?_)
          exact nxt true R.2.1 (cs ++ [R.2.2]) T' (m + 1) _ hadv.2.1 H2 (fun _ => ⟨by omega, hE, by omega⟩) hr
      · rw [if_neg e] at hr H1 ⊢
        refine J_if (y := 0) rfl (fun _ => ?_) (fun hz => absurd (show bI false = 0 from rfl) hz)
        exact bad p T m _ hp H1 (fun _ _ => trivial) (by rw [← hr]) (by rw [← hr])
  have e0 := H.1.1
  repeat (first | (refine J_step rfl rfl ?_) | (refine J_getf rfl rfl rfl (by assumption) rfl ?_))
  refine J_putf rfl rfl rfl e0 rfl rfl (fun _ => rfl) rfl rfl ?_
  have H1 := H.trans (H.1.fld (w' := w) (p' := 0) (m' := m0) (fun _ _ z => z) hw60)
  refine J_heap (h2 := oj_up h1 P (.inr (4, [.ref (P + 1), .ref (P + 2), .ref (P + 3), .ref (P + 4), .ref (P + 5), .int (nI w.length), .int (nI 0), .int (nI m0)]))) rfl ?_
  clear e0
  generalize oj_up h1 P (.inr (4, [.ref (P + 1), .ref (P + 2), .ref (P + 3), .ref (P + 4), .ref (P + 5), .int (nI w.length), .int (nI 0), .int (nI m0)])) = h2 at H1 ⊢
  have e0 := H1.1.1
  repeat (first | (refine J_step rfl rfl ?_) | (refine J_getf rfl rfl rfl (by assumption) rfl ?_))
  refine J_putf rfl rfl rfl e0 rfl rfl (fun _ => rfl) rfl rfl ?_
  have H2 := H1.trans (H1.1.fld (w' := w) (p' := 0) (m' := 0) (fun _ _ z => z) hw60)
  refine J_heap (h2 := oj_up h2 P (.inr (4, [.ref (P + 1), .ref (P + 2), .ref (P + 3), .ref (P + 4), .ref (P + 5), .int (nI w.length), .int (nI 0), .int (nI 0)]))) rfl ?_
  clear e0
  generalize oj_up h2 P (.inr (4, [.ref (P + 1), .ref (P + 2), .ref (P + 3), .ref (P + 4), .ref (P + 5), .int (nI w.length), .int (nI 0), .int (nI 0)])) = h3 at H2 ⊢
  have e0 := H2.1.1
  repeat (first | (refine J_step rfl rfl ?_) | (refine J_getf rfl rfl rfl (by assumption) rfl ?_))
  have hadv := rdC_adv (w := w) (p := 0) (Nat.zero_le _)
  refine J_callV rfl rfl rfl rfl rfl e0 rfl rfl rfl rfl (c_readCommand H2 hw (Nat.zero_le _) (by omega)) (Nat.le_refl _) (Nat.le_refl _) (fun E h9 q => by cases q.1) (fun v h9 q => ?_)
  obtain ⟨q1, T', hT, hok', H3⟩ := q
  cases q1
  have hs := loop 60 0 (rdC w 0).1 (rdC w 0).2.1 (cadd (rdC w 0) []) T' _ h9 rfl hadv.2.1 H3 (fun z => by
    have hE := cm_ext (cs := []) rfl (fun j c hj => by cases hj) hT (hok' z) hadv.2.2.1
    have h4 := hadv.2.2.2 z
    rw [cadd, if_pos z, if_pos z]
    exact ⟨rfl, hE, by show 5 * 1 ≤ _; omega⟩) (rdP w) rfl
  iterate 3 (first | (refine J_step rfl rfl ?_) | (refine J_getf rfl rfl rfl (by assumption) rfl ?_))
  exact hs
set_option maxRecDepth 100000 in
set_option maxHeartbeats 2000000 in
theorem c_pgClear {d : Nat} {h h1 : AHp} {P p m : Nat} {w : List Int32} {T : Nat → Nat → Int32} (H : PgP h P w T p m h1) : JM mi_X4_clear d 0 0 [.ref P] h1 (fun r h' => r = .inl none ∧ PgP h P [] T p m h') := by
  have e0 := H.1.1
  refine JM_of gd_X4_clear rfl (by decide +kernel) (Nat.le_of_ble_eq_true rfl) (oj_cats rfl) (by decide) ?_
  repeat (first | (refine J_step rfl rfl ?_) | (refine J_getf rfl rfl rfl (by assumption) rfl ?_))
  refine J_putf rfl rfl rfl e0 rfl rfl (fun _ => rfl) rfl rfl ?_
  have H2 := H.trans (H.1.fld (w' := []) (p' := p) (m' := m) (fun j x z => by cases z) (Nat.zero_le _))
  repeat (first | (refine J_step rfl rfl ?_) | (refine J_getf rfl rfl rfl (by assumption) rfl ?_))
  exact J_vret rfl rfl rfl rfl ⟨rfl, H2⟩
set_option maxRecDepth 100000 in
set_option maxHeartbeats 2000000 in
theorem c_pgAppend {d : Nat} {h h1 : AHp} {P p m : Nat} {w : List Int32} {T : Nat → Nat → Int32} {c : Int32} (H : PgP h P w T p m h1) (hc : cOk c) (hl : w.length < 60) : JM mi_X4_append d 0 0 [.ref P, .int c] h1 (fun r h' => r = .inl none ∧ PgP h P (w ++ [c]) T p m h') := by
  obtain ⟨⟨e0, ⟨f, e1, hf⟩, e2, e3, e4, e5, -⟩, hx⟩ := H
  refine JM_of gd_X4_append rfl (by decide +kernel) (Nat.le_of_ble_eq_true rfl) (oj_cats rfl) (by decide) ?_
  repeat (first | (refine J_step rfl rfl ?_) | (refine J_getf rfl rfl rfl (by assumption) rfl ?_))
  refine J_ic rfl (fun hq => absurd (show nI 60 ≤ nI w.length from hq) (nI_ge (by omega) (by omega))) (fun hq => ?_)
  repeat (first | (refine J_step rfl rfl ?_) | (refine J_getf rfl rfl rfl (by assumption) rfl ?_))
  refine J_cast rfl e1 (vp_in_nI (by omega) (by omega)) ?_
  rw [nI_clamp (by omega), show vp_nar .char c = c from hc]
  generalize hh2 : oj_up h1 (P + 1) (.inl (1, 60, .inl (upd f w.length c))) = h2
  have g0 : h2 P = .inr (4, [.ref (P + 1), .ref (P + 2), .ref (P + 3), .ref (P + 4), .ref (P + 5), .int (nI w.length), .int (nI p), .int (nI m)]) := by rw [← hh2]; exact (if_neg (by omega)).trans e0
  have gx : ∀ x, x ≠ P + 1 → h2 x = h1 x := fun x z => by rw [← hh2]; exact if_neg z
  have g1 : h2 (P + 1) = .inl (1, 60, .inl (upd f w.length c)) := by rw [← hh2]; exact if_pos rfl
  have hlen : (w ++ [c]).length = w.length + 1 := by rw [List.length_append]; rfl
  repeat (first | (refine J_step rfl rfl ?_) | (refine J_getf rfl rfl rfl (by assumption) rfl ?_))
  refine J_putf rfl rfl rfl g0 rfl rfl (fun _ => rfl) rfl rfl ?_
  repeat (first | (refine J_step rfl rfl ?_) | (refine J_getf rfl rfl rfl (by assumption) rfl ?_))
  refine J_vret rfl rfl rfl rfl ⟨rfl, ⟨?_, ⟨_, (if_neg (by omega)).trans g1, fun j x hj => ?_⟩, (if_neg (by omega)).trans ((gx _ (by omega)).trans e2), (if_neg (by omega)).trans ((gx _ (by omega)).trans e3), (if_neg (by omega)).trans ((gx _ (by omega)).trans e4), (if_neg (by omega)).trans ((gx _ (by omega)).trans e5), by omega⟩, fun x z => (if_neg (by omega)).trans ((gx _ (by omega)).trans (hx x z))⟩
  · rw [hlen, nI_succ]
    exact if_pos rfl
  · unfold upd
    by_cases z : j = w.length
    · rw [if_pos z]
      rw [z, List.getElem?_append_right (Nat.le_refl _)] at hj
      simpa using hj
    · rw [if_neg z]
      refine hf j x ?_
      have hj2 : j < w.length := by
        have := (List.getElem?_eq_some_iff.mp hj).1
        omega
      rw [List.getElem?_append_left hj2] at hj
      exact hj
