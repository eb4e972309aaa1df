theorem gW_P {w : List Int32} {q p : Nat} {k : Nat → RC} (X : RC → Prop) (hf : X (false, (rdS w (wd q) p).2, 0, 0, 0, 0)) (hk : (rdS w (wd q) p).1 = true → X (k (rdS w (wd q) p).2)) : X (gW w q p k) := by
  unfold gW
  split
  · rename_i e; exact hk e
  · exact hf
theorem gD_P {w : List Int32} {n p : Nat} {k : Int32 → Nat → RC} (X : RC → Prop) (hf : X (false, (rdD w n 0 0 p).2.2, 0, 0, 0, 0)) (hk : X (k (rdD w n 0 0 p).1 (rdD w n 0 0 p).2.2)) : X (gD w n p k) := by
  unfold gD
  split
  · exact hk
  · exact hf
theorem rdS_ok {w : List Int32} : ∀ (cs : List Int32) (p : Nat), (rdS w cs p).1 = true → (rdS w cs p).2 = p + cs.length
  | [], p, _ => rfl
  | c :: cs, p, h => by
    unfold rdS at h ⊢
    split
    · rename_i e
      rw [if_pos e] at h
      rw [rdS_ok cs (p + 1) h, List.length_cons]
      omega
    · rename_i e
      rw [if_neg e] at h
      cases h
theorem wd_lens : (wd 14).length = 7 ∧ (wd 17).length = 7 ∧ (wd 18).length = 6 ∧ (wd 20).length = 4 ∧ (wd 21).length = 9 ∧ (wd 22).length = 4 := by decide +kernel
/-- a command that is read takes four signs at least, and no sign behind the text -/
theorem rdC_adv {w : List Int32} {p : Nat} (hp : p ≤ w.length) : p ≤ (rdC w p).2.1 ∧ (rdC w p).2.1 ≤ w.length ∧ (rdC w p).2.2.1 ≤ 5 ∧ ((rdC w p).1 = true → p + 4 ≤ (rdC w p).2.1) := by
  have X : ∀ a : Nat, ∀ R : RC, (p + a ≤ R.2.1 ∧ R.2.1 ≤ w.length ∧ R.2.2.1 ≤ 5) → (4 ≤ a) → p ≤ R.2.1 ∧ R.2.1 ≤ w.length ∧ R.2.2.1 ≤ 5 ∧ (R.1 = true → p + 4 ≤ R.2.1) := fun a R h h4 => ⟨by omega, h.2.1, h.2.2, fun _ => by omega⟩
  have F : ∀ q, q < 36 → p ≤ ((false, (rdS w (wd q) p).2, 0, 0, 0, 0) : RC).2.1 ∧ ((false, (rdS w (wd q) p).2, 0, 0, 0, 0) : RC).2.1 ≤ w.length ∧ ((false, (rdS w (wd q) p).2, 0, 0, 0, 0) : RC).2.2.1 ≤ 5 ∧ (((false, (rdS w (wd q) p).2, 0, 0, 0, 0) : RC).1 = true → p + 4 ≤ ((false, (rdS w (wd q) p).2, 0, 0, 0, 0) : RC).2.1) := fun q hq => ⟨rdS_ge _ _, rdS_le _ _ (wd_nz q hq) hp, Nat.zero_le _, fun z => by cases z⟩
  have A : ∀ q, q < 36 → ∀ p' : Nat, ∀ k : Nat → RC, p' ≤ w.length → (∀ p'', p' ≤ p'' → p'' ≤ w.length → p' ≤ (k p'').2.1 ∧ (k p'').2.1 ≤ w.length ∧ (k p'').2.2.1 ≤ 5) → p' ≤ (gW w q p' k).2.1 ∧ (gW w q p' k).2.1 ≤ w.length ∧ (gW w q p' k).2.2.1 ≤ 5 := by
    intro q hq p' k hp' hk
    exact gW_P (fun R => p' ≤ R.2.1 ∧ R.2.1 ≤ w.length ∧ R.2.2.1 ≤ 5) ⟨rdS_ge _ _, rdS_le _ _ (wd_nz q hq) hp', Nat.zero_le _⟩ (fun _ => hk _ (rdS_ge _ _) (rdS_le _ _ (wd_nz q hq) hp'))
  have B : ∀ (n p' : Nat) (k : Int32 → Nat → RC), p' ≤ w.length → (∀ x p'', p' ≤ p'' → p'' ≤ w.length → p' ≤ (k x p'').2.1 ∧ (k x p'').2.1 ≤ w.length ∧ (k x p'').2.2.1 ≤ 5) → p' ≤ (gD w n p' k).2.1 ∧ (gD w n p' k).2.1 ≤ w.length ∧ (gD w n p' k).2.2.1 ≤ 5 := by
    intro n p' k hp' hk
    exact gD_P (fun R => p' ≤ R.2.1 ∧ R.2.1 ≤ w.length ∧ R.2.2.1 ≤ 5) ⟨(rdD_ge _ _ _ _).1, rdD_le _ _ _ _ hp', Nat.zero_le _⟩ (hk _ _ (rdD_ge _ _ _ _).1 (rdD_le _ _ _ _ hp'))
  have W0 : ∀ q, q < 36 → ∀ a, (wd q).length = a → 4 ≤ a → ∀ k : Nat → RC, (∀ p'', p'' ≤ w.length → p'' ≤ (k p'').2.1 ∧ (k p'').2.1 ≤ w.length ∧ (k p'').2.2.1 ≤ 5) → p ≤ (gW w q p k).2.1 ∧ (gW w q p k).2.1 ≤ w.length ∧ (gW w q p k).2.2.1 ≤ 5 ∧ ((gW w q p k).1 = true → p + 4 ≤ (gW w q p k).2.1) := by
    intro q hq a ha h4 k hk
    refine gW_P (fun R => p ≤ R.2.1 ∧ R.2.1 ≤ w.length ∧ R.2.2.1 ≤ 5 ∧ (R.1 = true → p + 4 ≤ R.2.1)) (F q hq) (fun e => ?_)
    have e2 := rdS_ok _ _ e
    have := hk _ (rdS_le _ _ (wd_nz q hq) hp)
    exact X a _ ⟨by rw [← ha, ← e2]; exact this.1, this.2⟩ h4
  have up : ∀ {a b c : Nat} {R : RC}, a ≤ b → (b ≤ R.2.1 ∧ R.2.1 ≤ c ∧ R.2.2.1 ≤ 5) → (a ≤ R.2.1 ∧ R.2.1 ≤ c ∧ R.2.2.1 ≤ 5) := fun h z => ⟨Nat.le_trans h z.1, z.2⟩
  obtain ⟨l0, l1, l2, l3, l4, l5⟩ := wd_lens
  unfold rdC
  split
  · exact W0 14 (by omega) 7 l0 (by omega) _ fun p1 h1 => B _ _ _ h1 fun x p2 g2 h2 => up g2 (A 15 (by omega) _ _ h2 fun p3 g3 h3 => up g3 (B _ _ _ h3 fun y p4 g4 h4 => up g4 (A 16 (by omega) _ _ h4 fun p5 g5 h5 => up g5 (B _ _ _ h5 fun z p6 g6 h6 => ⟨g6, h6, Nat.zero_le _⟩))))
  · split
    · exact W0 17 (by omega) 7 l1 (by omega) _ fun p1 h1 => B _ _ _ h1 fun x p2 g2 h2 => ⟨g2, h2, by decide⟩
    · split
      · exact W0 18 (by omega) 6 l2 (by omega) _ fun p1 h1 => B _ _ _ h1 fun x p2 g2 h2 => up g2 (A 19 (by omega) _ _ h2 fun p3 g3 h3 => up g3 (B _ _ _ h3 fun y p4 g4 h4 => ⟨g4, h4, by decide⟩))
      · split
        · exact W0 20 (by omega) 4 l3 (by omega) _ fun p1 h1 => ⟨Nat.le_refl _, h1, by decide⟩
        · split
          · exact W0 21 (by omega) 9 l4 (by omega) _ fun p1 h1 => B _ _ _ h1 fun x p2 g2 h2 => ⟨g2, h2, by decide⟩
          · split
            · refine W0 22 (by omega) 4 l5 (by omega) _ fun p1 h1 => ?_
              beta_reduce
              by_cases e : sg w p1 = 32
              · rw [if_pos e]
                have hlt := sg_lt (w := w) (p := p1) (by rw [e]; decide)
                exact up (Nat.le_succ p1) (B _ _ _ (by omega) fun x p2 g2 h2 => ⟨g2, h2, by decide⟩)
              · rw [if_neg e]
                exact ⟨Nat.le_refl _, h1, by decide⟩
            · exact ⟨Nat.le_refl _, hp, Nat.zero_le _, fun z => by cases z⟩
