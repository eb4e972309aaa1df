theorem wOk_of {w : List Int32} (h : ∀ x ∈ w, cOk x) : (∀ p, cOk (sg w p)) ∧ wOk w := by
  have h0 : ∀ p, cOk (sg w p) := fun p => by
    rcases Nat.lt_or_ge p w.length with z | z
    · exact h _ (List.mem_iff_getElem?.mpr ⟨p, sg_at z⟩)
    · rw [sg_end z]
      show vp_nar .char 0 = 0
      decide +kernel
  exact ⟨h0, fun p => cOk_nar (h0 p)⟩
theorem dgt_ok : ∀ k, k < 1000 → ∀ c ∈ dgt k, vp_nar .char c = c := by decide +kernel
theorem dI_ok {x : Int32} (h : ∃ k, k < 1000 ∧ x = nI k) : ∀ c ∈ dI x, cOk c := by
  obtain ⟨k, hk, rfl⟩ := h
  rw [dI_nI hk]
  exact dgt_ok k hk
theorem app_ok {a b : List Int32} (ha : ∀ c ∈ a, cOk c) (hb : ∀ c ∈ b, cOk c) : ∀ c ∈ a ++ b, cOk c := fun c hc => (List.mem_append.mp hc).elim (ha c) (hb c)
theorem one_ok {x : Int32} (h : cOk x) : ∀ c ∈ [x], cOk c := fun c hc => by rw [List.mem_singleton.mp hc]; exact h
theorem outSt_ok {sl : Nat → Int32} {l : List Row} (hs : ∀ j, j < 6 → ∃ k, k < 1000 ∧ sl j = nI k) (hl : l.length ≤ 20) : ∀ n, n ≤ 6 → ∀ c ∈ outSt sl l n, cOk c
  | 0, _ => dI_ok ⟨_, by have := crWtg_le (l := l) (s := 0); omega, rfl⟩
  | n + 1, h => app_ok (app_ok (app_ok (app_ok (outSt_ok hs hl n (by omega)) (one_ok cOk_47)) (dI_ok (hs n (by omega)))) (one_ok cOk_47)) (dI_ok ⟨_, by have := crWtg_le (l := l) (s := nI (n + 1)); omega, rfl⟩)
theorem outRid_ok {b : List Int32} {l : List Row} {v : Int32} (hb : ∀ c ∈ b, cOk c) (hn : ∀ j, j < l.length → ∃ k, k < 1000 ∧ (rAt l j).1 = nI k) (hd : ∀ j, j < l.length → ∃ k, k < 1000 ∧ (rAt l j).2.2.2.1 = nI k) (h20 : l.length ≤ 20) : ∀ n, (∀ k, k < n → ¬ crRrow l v (nI k) = -1) → ∀ c ∈ outRid b l v n, cOk c
  | 0, _ => hb
  | n + 1, hr => by
    have hi : ∃ i, i < l.length ∧ crRrow l v (nI n) = nI i := by
      rcases fstI_cases (fun j => (rAt l j).2.2.2.2.2.1 == v && nI (crBef l j) == nI n) l.length with ⟨hv0, -⟩ | ⟨i, hi, -, hv0, -⟩
      · exact absurd hv0 (hr n (Nat.lt_succ_self n))
      · exact ⟨i, hi, hv0⟩
    obtain ⟨i, hi, e⟩ := hi
    rw [outRid, e, nI_clamp (by omega)]
    exact app_ok (app_ok (app_ok (app_ok (outRid_ok hb hn hd h20 n (fun k hk => hr k (by omega))) (one_ok cOk_32)) (dI_ok (hn i hi))) (one_ok cOk_62)) (dI_ok (hd i hi))
/-- the invariant behind n calls -/
def AI (A : AS) (n : Nat) : Prop := A.2.2.2.2.1.length ≤ n ∧ n ≤ 512 ∧ (∀ x ∈ A.2.2.2.2.1, cOk x) ∧ (∀ x ∈ A.2.2.2.1, cOk x) ∧ (A.2.2.2.2.2.1 = -1 ∨ 0 ≤ A.2.2.2.2.2.1) ∧ (A.2.2.2.2.2.2 = -1 ∨ 0 ≤ A.2.2.2.2.2.2) ∧ ∀ q, (q = A.1 ∨ A.2.1 = some q ∨ q ∈ A.2.2.1) → LI q (240 * (n - A.2.2.2.2.1.length)) (n - A.2.2.2.2.1.length)
theorem AI_cur {A : AS} {n : Nat} (H : AI A n) : LI A.1 (240 * (n - A.2.2.2.2.1.length)) (n - A.2.2.2.2.1.length) := H.2.2.2.2.2.2 _ (Or.inl rfl)
theorem AI_step {A : AS} {n : Nat} (H : AI A n) (hn : n < 512) : AI A (n + 1) := by
  obtain ⟨h1, h2, h3, h4, h5, h6, h7⟩ := H
  exact ⟨by omega, hn, h3, h4, h5, h6, fun q hq => (h7 q hq).mono (by omega) (by omega) (by omega) (by omega)⟩
theorem AI_chg {A : AS} {n k : Nat} {x y z : Int32} (H : AI A n) (hn : n < 512) (hk : k ≤ 5) : AI (asChg A k x y z).2 (n + 1) := by
  unfold asChg
  by_cases hf : sFault A.1.2.1 A.1.2.2.1 k x y z = 0
  · rw [if_pos hf]
    obtain ⟨h1, h2, h3, h4, h5, h6, h7⟩ := AI_step H hn
    have h1' := H.1
    refine ⟨h1, h2, h3, h4, h5, h6, fun q hq => ?_⟩
    rcases hq with e | e | e
    · rw [e]
      have := LI_apD (AI_cur H) hf hk (by omega) (by omega)
      refine this.mono ?_ ?_ ?_ ?_
      · show 240 * (n - A.2.2.2.2.1.length) + 240 ≤ 240 * (n + 1 - A.2.2.2.2.1.length)
        omega
      · show 240 * (n + 1 - A.2.2.2.2.1.length) ≤ 123000
        omega
      · show n - A.2.2.2.2.1.length + 1 ≤ n + 1 - A.2.2.2.2.1.length
        omega
      · show n + 1 - A.2.2.2.2.1.length ≤ 600
        omega
    · exact h7 q (Or.inr (Or.inl e))
    · rcases List.mem_cons.mp (List.mem_of_mem_take e) with z | z
      · exact h7 q (Or.inl z)
      · exact h7 q (Or.inr (Or.inr z))
  · rw [if_neg hf]
    exact AI_step H hn
theorem AI_out {A : AS} {n : Nat} {w : List Int32} (H : AI A n) (hn : n < 512) (hw : ∀ x ∈ w, cOk x) : AI (A.1, A.2.1, A.2.2.1, w, A.2.2.2.2) (n + 1) := by
  obtain ⟨h1, h2, h3, h4, h5, h6, h7⟩ := AI_step H hn
  exact ⟨h1, h2, h3, hw, h5, h6, h7⟩
theorem AI_undo {A : AS} {n : Nat} (H : AI A n) (hn : n < 512) : AI (asUndo A).2 (n + 1) := by
  have H2 := AI_step H hn
  unfold asUndo
  split
  · exact H2
  · rename_i q t e
    obtain ⟨h1, h2, h3, h4, h5, h6, h7⟩ := H2
    refine ⟨h1, h2, h3, h4, h5, h6, fun q' hq => ?_⟩
    rcases hq with z | z | z
    · exact h7 q' (Or.inr (Or.inr (by rw [e, z]; exact List.mem_cons_self)))
    · exact h7 q' (Or.inr (Or.inl z))
    · exact h7 q' (Or.inr (Or.inr (by rw [e]; exact List.mem_cons_of_mem _ z)))
theorem AI_save {A : AS} {n : Nat} (H : AI A n) (hn : n < 512) : AI (asSave A).2 (n + 1) := by
  obtain ⟨h1, h2, h3, h4, h5, h6, h7⟩ := AI_step H hn
  refine ⟨h1, h2, h3, h4, h5, h6, fun q hq => ?_⟩
  rcases hq with z | z | z
  · exact h7 q (Or.inl z)
  · exact h7 q (Or.inl (Option.some.inj z).symm)
  · exact h7 q (Or.inr (Or.inr z))
theorem AI_rest {A : AS} {n : Nat} (H : AI A n) (hn : n < 512) : AI (asRest A).2 (n + 1) := by
  have H2 := AI_step H hn
  unfold asRest
  split
  · exact H2
  · rename_i q e
    obtain ⟨h1, h2, h3, h4, h5, h6, h7⟩ := H2
    refine ⟨h1, h2, h3, h4, h5, h6, fun q' hq => ?_⟩
    rcases hq with z | z | z
    · exact h7 q' (Or.inr (Or.inl (by rw [e, z])))
    · exact h7 q' (Or.inr (Or.inl z))
    · cases z
theorem AI_type {A : AS} {n : Nat} {c : Int32} (H : AI A n) (hn : n < 512) (hc : cOk c) : AI (asType A c).2 (n + 1) := by
  unfold asType
  split
  · exact AI_step H hn
  · obtain ⟨h1, h2, h3, h4, h5, h6, h7⟩ := H
    have hl : (A.2.2.2.2.1 ++ [c]).length = A.2.2.2.2.1.length + 1 := by rw [List.length_append]; rfl
    refine ⟨?_, hn, app_ok h3 (one_ok hc), h4, h5, h6, fun q hq => ?_⟩
    · show (A.2.2.2.2.1 ++ [c]).length ≤ n + 1
      omega
    · show LI q (240 * (n + 1 - (A.2.2.2.2.1 ++ [c]).length)) (n + 1 - (A.2.2.2.2.1 ++ [c]).length)
      rw [hl, show n + 1 - (A.2.2.2.2.1.length + 1) = n - A.2.2.2.2.1.length by omega]
      exact h7 q hq
theorem rdL_5 {w : List Int32} : ∀ n ok p cs, p ≤ w.length → (ok = true → 5 * cs.length ≤ p + 1) → (rdL w n ok p cs).1 = true → 5 * (rdL w n ok p cs).2.2.length ≤ w.length + 1
  | 0, ok, p, cs, hp, h5, h => by
    have : ok = true := h
    have := h5 this
    show 5 * cs.length ≤ w.length + 1
    omega
  | n + 1, ok, p, cs, hp, h5, h => by
    unfold rdL at h ⊢
    by_cases z : ok = true ∧ p < w.length
    · rw [if_pos z] at h ⊢
      by_cases e : sg w p = 59
      · rw [if_pos e] at h ⊢
        have hadv := rdC_adv (w := w) (p := p + 1) z.2
        have := h5 z.1
        refine rdL_5 n _ _ _ hadv.2.1 (fun q => ?_) h
        have := hadv.2.2.2 q
        rw [cadd, if_pos q, List.length_append]
        show 5 * (cs.length + 1) ≤ _
        omega
      · rw [if_neg e] at h
        cases h
    · rw [if_neg z] at h ⊢
      have := h5 h
      show 5 * cs.length ≤ w.length + 1
      omega
theorem rdP_5 {w : List Int32} (h : (rdP w).1 = true) : 5 * (rdP w).2.2.length ≤ w.length + 1 := by
  have hadv := rdC_adv (w := w) (p := 0) (Nat.zero_le _)
  refine rdL_5 60 _ _ _ hadv.2.1 (fun q => ?_) h
  have := hadv.2.2.2 q
  rw [cadd, if_pos q]
  show 5 * 1 ≤ _
  omega
theorem rdL_k {w : List Int32} : ∀ n ok p cs, p ≤ w.length → (∀ c ∈ cs, c.1 ≤ 5) → ∀ c ∈ (rdL w n ok p cs).2.2, c.1 ≤ 5
  | 0, _, _, _, _, h => h
  | n + 1, ok, p, cs, hp, h => by
    unfold rdL
    split
    · rename_i z
      split
      · have hadv := rdC_adv (w := w) (p := p + 1) z.2
        refine rdL_k n _ _ _ hadv.2.1 ?_
        unfold cadd
        split
        · intro c hc
          rcases List.mem_append.mp hc with q | q
          · exact h c q
          · rw [List.mem_singleton.mp q]; exact hadv.2.2.1
        · exact h
      · exact h
    · exact h
theorem rdP_k {w : List Int32} : ∀ c ∈ (rdP w).2.2, c.1 ≤ 5 := by
  have hadv := rdC_adv (w := w) (p := 0) (Nat.zero_le _)
  refine rdL_k 60 _ _ _ hadv.2.1 ?_
  unfold cadd
  split
  · intro c hc
    rcases List.mem_append.mp hc with q | q
    · cases q
    · rw [List.mem_singleton.mp q]; exact hadv.2.2.1
  · intro c hc; cases hc
theorem ffL_LI : ∀ (cs : List CMD) (q : LQ) (i T κ : Nat), LI q T κ → T + 240 * cs.length ≤ 123000 → κ + cs.length ≤ 600 → (∀ c ∈ cs, c.1 ≤ 5) → LI (ffL cs q i).2 (T + 240 * cs.length) (κ + cs.length)
  | [], q, i, T, κ, H, _, _, _ => H
  | c :: cs, q, i, T, κ, H, hT, hκ, hk => by
    rw [List.length_cons] at hT hκ ⊢
    unfold ffL
    split
    · rename_i hf
      have h1 := LI_apD H hf (hk c List.mem_cons_self) (by omega) (by omega)
      have h2 := ffL_LI cs _ (i + 1) _ _ h1 (by omega) (by omega) (fun c hc => hk c (List.mem_cons_of_mem _ hc))
      rw [show T + 240 * (cs.length + 1) = T + 240 + 240 * cs.length by omega, show κ + (cs.length + 1) = κ + 1 + cs.length by omega]
      exact h2
    · exact H.mono (by omega) (by omega) (by omega) (by omega)
theorem rdL_le {w : List Int32} : ∀ n ok p cs, p ≤ w.length → (rdL w n ok p cs).2.1 ≤ w.length
  | 0, _, _, _, h => h
  | n + 1, ok, p, cs, h => by
    unfold rdL
    split
    · rename_i z
      split
      · exact rdL_le n _ _ _ (rdC_adv (w := w) (p := p + 1) z.2).2.1
      · exact h
    · exact h
theorem rdP_le {w : List Int32} : (rdP w).2.1 ≤ w.length := rdL_le 60 _ _ _ (rdC_adv (w := w) (p := 0) (Nat.zero_le _)).2.1
theorem AI_run {A : AS} {n : Nat} (H : AI A n) (hn : n < 512) (h60 : A.2.2.2.2.1.length ≤ 60) : AI (asRun A).2 (n + 1) := by
  have Hc := AI_cur H
  obtain ⟨h1, h2, h3, h4, h5, h6, h7⟩ := H
  have up : ∀ q, LI q (240 * (n - A.2.2.2.2.1.length)) (n - A.2.2.2.2.1.length) → LI q (240 * (n + 1 - 0)) (n + 1 - 0) := fun q h => h.mono (by omega) (by omega) (by omega) (by omega)
  unfold asRun
  by_cases hok : (rdP A.2.2.2.2.1).1 = true
  · rw [if_pos hok]
    have h5m := rdP_5 hok
    by_cases hf : (ffL (rdP A.2.2.2.2.1).2.2 A.1 0).1 = -1
    · rw [if_pos hf]
      refine ⟨Nat.zero_le _, hn, fun x hx => (by cases hx), h4, h5, h6, fun q hq => ?_⟩
      rcases hq with z | z | z
      · have z : q = (ffL (rdP A.2.2.2.2.1).2.2 A.1 0).2 := z
        rw [z]
        have := ffL_LI (rdP A.2.2.2.2.1).2.2 A.1 0 _ _ Hc (by omega) (by omega) rdP_k
        exact this.mono (by show _ ≤ 240 * (n + 1 - 0); omega) (by show 240 * (n + 1 - 0) ≤ _; omega) (by show _ ≤ n + 1 - 0; omega) (by show n + 1 - 0 ≤ _; omega)
      · exact up q (h7 q (Or.inr (Or.inl z)))
      · rcases List.mem_cons.mp (List.mem_of_mem_take z) with w | w
        · exact up q (h7 q (Or.inl w))
        · exact up q (h7 q (Or.inr (Or.inr w)))
    · rw [if_neg hf]
      have hlen : (rdP A.2.2.2.2.1).2.2.length ≤ 12 := rdP_len h60
      refine ⟨Nat.zero_le _, hn, fun x hx => (by cases hx), h4, h5, ?_, fun q hq => up q (h7 q hq)⟩
      rcases ffL_ne (rdP A.2.2.2.2.1).2.2 A.1 0 (by omega) with w | ⟨j, hj, w⟩
      · exact absurd w hf
      · exact Or.inr (by show (0 : Int32) ≤ (ffL (rdP A.2.2.2.2.1).2.2 A.1 0).1; rw [w]; exact nI_pos' (by omega))
  · rw [if_neg hok]
    refine ⟨Nat.zero_le _, hn, fun x hx => (by cases hx), h4, ?_, h6, fun q hq => up q (h7 q hq)⟩
    refine Or.inr ?_
    have : (rdP A.2.2.2.2.1).2.1 ≤ A.2.2.2.2.1.length := rdP_le
    exact nI_pos' (by omega)
