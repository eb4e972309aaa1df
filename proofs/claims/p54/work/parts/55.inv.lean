/-! THE INVARIANTS -/
def RowOk (cm t nb : Nat) (r : Row) : Prop := ∃ n w a b ca : Nat, (r.1 = nI n ∧ n < cm) ∧ (r.2.1 = nI w ∧ 40 ≤ w ∧ w ≤ 120) ∧ (r.2.2.1 = nI a ∧ a ≤ 6) ∧ (r.2.2.2.1 = nI b ∧ b ≤ 6) ∧ a ≠ b ∧ (r.2.2.2.2.1 = nI ca ∧ ca ≤ t) ∧ (r.2.2.2.2.2.1 = -1 ∨ ((r.2.2.2.2.2.1 = 0 ∨ r.2.2.2.2.2.1 = 1) ∧ ∃ bb, bb < nb ∧ r.2.2.2.2.2.2 = nI bb))
theorem RowOk.mono {cm t nb cm' t' nb' : Nat} {r : Row} (H : RowOk cm t nb r) (h1 : cm ≤ cm') (h2 : t ≤ t') (h3 : nb ≤ nb') : RowOk cm' t' nb' r := by
  obtain ⟨n, w, a, b, ca, ⟨e1, l1⟩, e2, e3, e4, e5, ⟨e6, l6⟩, e7⟩ := H
  refine ⟨n, w, a, b, ca, ⟨e1, by omega⟩, e2, e3, e4, e5, ⟨e6, by omega⟩, e7.imp id fun z => ⟨z.1, ?_⟩⟩
  obtain ⟨bb, l, e⟩ := z.2
  exact ⟨bb, by omega, e⟩
def PW (r s : Row) : Prop := r.1 < s.1 ∧ (¬ r.2.2.2.2.2.1 = -1 → ¬ s.2.2.2.2.2.1 = -1 → ¬ r.2.2.2.2.2.2 = s.2.2.2.2.2.2)
/-- those who wait -/
def cW (l : List Row) : Nat := l.countP fun r => r.2.2.2.2.2.1 == -1
theorem nI_sub {a b : Nat} (h : b ≤ a) : nI a - nI b = nI (a - b) := by
  have := nI_add (a - b) b
  rw [show a - b + b = a by omega] at this
  rw [← this]
  simp
theorem i32_01 {x : Int32} (h : x = 0 ∨ x = 1) : ¬ x = -1 := by rcases h with h | h <;> rw [h] <;> decide
theorem un_W {x s : Int32} (hx : x = 0 ∨ x = 1) (l : List Row) : cW (crUn x s l) = cW l := by
  unfold cW crUn
  rw [List.countP_filter]
  refine List.countP_congr fun r _ => ?_
  by_cases e : r.2.2.2.2.2.1 = -1
  · have : ¬ (-1 : Int32) = x := fun z => i32_01 hx z.symm
    simp [crDn, e, this]
  · simp [e]
theorem un_rid {x s y : Int32} (l : List Row) : crRid (crUn x s l) y ≤ crRid l y := List.Sublist.countP_le List.filter_sublist
theorem un_len {x s : Int32} (l : List Row) : (crUn x s l).length ≤ l.length := List.length_filter_le _ _
theorem un_min {x s : Int32} {cm t nb : Nat} (ht : t ≤ 123000) : ∀ (l : List Row), (∀ r ∈ l, RowOk cm t nb r) → ∃ m, crMin x s (nI t) l = nI m ∧ m ≤ (l.length - (crUn x s l).length) * 123000
  | [], _ => ⟨0, rfl, Nat.zero_le _⟩
  | r :: l, h => by
    obtain ⟨m, e, hm⟩ := un_min ht l fun r hr => h r (List.mem_cons_of_mem _ hr)
    have hle := un_len (x := x) (s := s) l
    obtain ⟨n, w, a, b, ca, -, -, -, -, -, ⟨e6, l6⟩, -⟩ := h r List.mem_cons_self
    unfold crMin
    by_cases q : crDn x s r = true
    · have hun : crUn x s (r :: l) = crUn x s l := by unfold crUn; rw [List.filter_cons_of_neg (by simp [q])]
      rw [if_pos q, e, e6, nI_sub l6, nI_add, hun]
      refine ⟨t - ca + m, rfl, ?_⟩
      rw [List.length_cons, show l.length + 1 - (crUn x s l).length = (l.length - (crUn x s l).length) + 1 by omega, Nat.add_mul]
      omega
    · have hun : crUn x s (r :: l) = r :: crUn x s l := by unfold crUn; rw [List.filter_cons_of_pos (by simp [q])]
      rw [if_neg q, e, Int32.zero_add, hun]
      refine ⟨m, rfl, ?_⟩
      rw [List.length_cons, List.length_cons, show l.length + 1 - ((crUn x s l).length + 1) = l.length - (crUn x s l).length by omega]
      exact hm
theorem ld_facts {x s : Int32} {up : Bool} {c cm t : Nat} (hx : x = 0 ∨ x = 1) (hc : c < 1000) : ∀ (l : List Row) (i nb : Nat), i < 1000 → nb + l.length < 100000 → (∀ r ∈ l, RowOk cm t nb r) → l.Pairwise PW → ∃ k, (crLd x s (nI c) up i (nI nb) l).2 = nI (nb + k) ∧ cW (crLd x s (nI c) up i (nI nb) l).1 + k = cW l ∧ (i ≤ c → i + k ≤ c) ∧ crRid (crLd x s (nI c) up i (nI nb) l).1 x = crRid l x + k ∧ (∀ y, ¬ y = x → ¬ y = -1 → crRid (crLd x s (nI c) up i (nI nb) l).1 y = crRid l y) ∧ (∀ r ∈ (crLd x s (nI c) up i (nI nb) l).1, RowOk cm t (nb + k) r) ∧ (crLd x s (nI c) up i (nI nb) l).1.Pairwise PW ∧ (∀ r ∈ (crLd x s (nI c) up i (nI nb) l).1, (∃ r' ∈ l, r'.1 = r.1) ∧ (r ∈ l ∨ ∃ bb, nb ≤ bb ∧ bb < nb + k ∧ r.2.2.2.2.2.2 = nI bb)) ∧ k ≤ l.length
  | [], i, nb, _, _, _, _ => ⟨0, rfl, rfl, fun h => h, rfl, fun _ _ _ => rfl, fun r hr => (by cases hr), List.Pairwise.nil, fun r hr => (by cases hr), Nat.zero_le _⟩
  | r :: rs, i, nb, hi, hnb, hR, hP => by
    have hlr : (r :: rs).length = rs.length + 1 := rfl
    obtain ⟨hP1, hP2⟩ := List.pairwise_cons.mp hP
    have hR0 := hR r List.mem_cons_self
    have hRs : ∀ r ∈ rs, RowOk cm t nb r := fun r hr => hR r (List.mem_cons_of_mem _ hr)
    have hxn := i32_01 hx
    rw [crLd]
    by_cases hb : (decide (nI i < nI c) && (crW s r && crAh up s r)) = true
    · rw [if_pos hb]
      simp only [Bool.and_eq_true, decide_eq_true_eq] at hb
      obtain ⟨hic, hw, -⟩ := hb
      have hic : i < c := (nI_ltI (by omega) (by omega)).mp hic
      have hw1 : r.2.2.2.2.2.1 = -1 := by
        unfold crW at hw
        simp only [Bool.and_eq_true, beq_iff_eq] at hw
        exact hw.1
      have e1 : nI nb + 1 = nI (nb + 1) := (nI_succ nb).symm
      rw [e1]
      obtain ⟨k, a1, a2, a3, a4, a5, a6, a7, a8, a9⟩ := ld_facts (x := x) (s := s) (up := up) (t := t) hx hc rs (i + 1) (nb + 1) (by omega) (by omega) (fun r hr => (hRs r hr).mono (Nat.le_refl _) (Nat.le_refl _) (by omega)) hP2
      generalize crLd x s (nI c) up (i + 1) (nI (nb + 1)) rs = L at a1 a2 a3 a4 a5 a6 a7 a8 ⊢
      refine ⟨k + 1, by rw [a1, show nb + 1 + k = nb + (k + 1) by omega], ?_, fun _ => by have := a3 (by omega); omega, ?_, fun y hy hy1 => ?_, fun r' hr' => ?_, ?_, fun r' hr' => ?_, by omega⟩
      · unfold cW at a2 ⊢
        rw [List.countP_cons, List.countP_cons, if_neg (by simpa using hxn), if_pos (by simpa using hw1)]
        omega
      · unfold crRid at a4 ⊢
        rw [List.countP_cons, List.countP_cons, if_pos (by simp), if_neg (by simp [hw1]; exact fun z => hxn z.symm)]
        omega
      · have := a5 y hy hy1
        unfold crRid at this ⊢
        rw [List.countP_cons, List.countP_cons, if_neg (by simp; exact fun z => hy z.symm), if_neg (by simp [hw1]; exact fun z => hy1 z.symm), this]
      · rcases List.mem_cons.mp hr' with z | z
        · subst z
          obtain ⟨n, w, a, b, ca, e1, e2, e3, e4, e5, e6, -⟩ := hR0
          exact ⟨n, w, a, b, ca, e1, e2, e3, e4, e5, e6, Or.inr ⟨hx, nb, by omega, rfl⟩⟩
        · exact (a6 r' z).mono (Nat.le_refl _) (Nat.le_refl _) (by omega)
      · refine List.pairwise_cons.mpr ⟨fun r' hr' => ?_, a7⟩
        obtain ⟨⟨r2, h2, e2⟩, h3⟩ := a8 r' hr'
        refine ⟨by rw [← e2]; exact (hP1 r2 h2).1, fun _ hn => ?_⟩
        rcases h3 with h3 | ⟨bb, l1, l2, e3⟩
        · obtain ⟨n, w, a, b, ca, -, -, -, -, -, -, e7⟩ := hRs r' h3
          rcases e7 with e7 | ⟨-, bb, lb, eb⟩
          · exact absurd e7 hn
          · show ¬ nI nb = r'.2.2.2.2.2.2
            rw [eb]
            exact fun z => by have := (nI_eq (by omega) (by omega)).mp z; omega
        · show ¬ nI nb = r'.2.2.2.2.2.2
          rw [e3]
          exact fun z => by have := (nI_eq (by omega) (by omega)).mp z; omega
      · rcases List.mem_cons.mp hr' with z | z
        · subst z
          exact ⟨⟨r, List.mem_cons_self, rfl⟩, Or.inr ⟨nb, by omega, by omega, rfl⟩⟩
        · obtain ⟨⟨r2, h2, e2⟩, h3⟩ := a8 r' z
          refine ⟨⟨r2, List.mem_cons_of_mem _ h2, e2⟩, h3.imp (fun q => List.mem_cons_of_mem _ q) fun q => ?_⟩
          obtain ⟨bb, l1, l2, e3⟩ := q
          exact ⟨bb, by omega, by omega, e3⟩
    · rw [if_neg hb]
      obtain ⟨k, a1, a2, a3, a4, a5, a6, a7, a8, a9⟩ := ld_facts (x := x) (s := s) (up := up) (t := t) hx hc rs i nb hi (by omega) hRs hP2
      generalize crLd x s (nI c) up i (nI nb) rs = L at a1 a2 a3 a4 a5 a6 a7 a8 ⊢
      refine ⟨k, a1, ?_, a3, ?_, fun y hy hy1 => ?_, fun r' hr' => ?_, ?_, fun r' hr' => ?_, by omega⟩
      · unfold cW at a2 ⊢
        rw [List.countP_cons, List.countP_cons]
        omega
      · unfold crRid at a4 ⊢
        rw [List.countP_cons, List.countP_cons]
        omega
      · have := a5 y hy hy1
        unfold crRid at this ⊢
        rw [List.countP_cons, List.countP_cons, this]
      · rcases List.mem_cons.mp hr' with z | z
        · subst z
          exact hR0.mono (Nat.le_refl _) (Nat.le_refl _) (by omega)
        · exact a6 r' z
      · refine List.pairwise_cons.mpr ⟨fun r' hr' => ?_, a7⟩
        obtain ⟨⟨r2, h2, e2⟩, h3⟩ := a8 r' hr'
        rcases h3 with h3 | ⟨bb, l1, l2, e3⟩
        · exact hP1 r' h3
        · refine ⟨by rw [← e2]; exact (hP1 r2 h2).1, fun hn _ => ?_⟩
          obtain ⟨n, w, a, b, ca, -, -, -, -, -, -, e7⟩ := hR0
          rcases e7 with e7 | ⟨-, b2, lb, eb⟩
          · exact absurd e7 hn
          · rw [eb, e3]
            exact fun z => by have := (nI_eq (by omega) (by omega)).mp z; omega
      · rcases List.mem_cons.mp hr' with z | z
        · subst z
          exact ⟨⟨r', List.mem_cons_self, rfl⟩, Or.inl List.mem_cons_self⟩
        · obtain ⟨⟨r2, h2, e2⟩, h3⟩ := a8 r' z
          exact ⟨⟨r2, List.mem_cons_of_mem _ h2, e2⟩, h3.imp (fun q => List.mem_cons_of_mem _ q) id⟩
theorem wt_nI {cm t nb : Nat} {x : Int32} : ∀ (l : List Row), (∀ r ∈ l, RowOk cm t nb r) → ∃ m, crWt (l.filter fun r => r.2.2.2.2.2.1 == x) = nI m ∧ m ≤ 120 * crRid l x
  | [], _ => ⟨0, rfl, Nat.zero_le _⟩
  | r :: l, h => by
    obtain ⟨m, e, hm⟩ := wt_nI (x := x) l fun r hr => h r (List.mem_cons_of_mem _ hr)
    obtain ⟨n, w, a, b, ca, -, ⟨e2, l2, l3⟩, -⟩ := h r List.mem_cons_self
    unfold crRid at hm ⊢
    rw [List.countP_cons]
    by_cases q : (r.2.2.2.2.2.1 == x) = true
    · rw [List.filter_cons_of_pos (by simpa using q), if_pos q, crWt, e, e2, nI_add]
      exact ⟨w + m, rfl, by omega⟩
    · rw [List.filter_cons_of_neg (by simpa using q), if_neg q]
      exact ⟨m, e, by omega⟩
theorem full_nI {cm t nb : Nat} {x : Int32} {l : List Row} (h : ∀ r ∈ l, RowOk cm t nb r) : ∃ m, crFull l x = nI m ∧ m ≤ 200 + 120 * crRid l x := by
  obtain ⟨m, e, hm⟩ := wt_nI (x := x) l h
  refine ⟨200 + m, ?_, by omega⟩
  unfold crFull
  rw [e]
  exact nI_add 200 m
theorem sSl_nI {sl : Nat → Int32} {g : Nat} (h : g < 6) : sSl sl (nI g) = sl g := by
  unfold sSl
  rw [if_pos ⟨nI_pos' (by omega), show nI g < nI 6 from nI_lt h (by decide)⟩, nI_clamp (by omega)]
theorem nI_mul (a b : Nat) : nI a * nI b = nI (a * b) := by unfold nI; exact (Int32.ofNat_mul a b).symm
theorem rAt_mem {l : List Row} {j : Nat} (h : j < l.length) : rAt l j ∈ l := by rw [rAt_eq h]; exact List.getElem_mem h
theorem ffL_ne : ∀ (cs : List CMD) (q : LQ) (i : Nat), i + cs.length ≤ 20 → (ffL cs q i).1 = -1 ∨ ∃ j, j ≤ 20 ∧ (ffL cs q i).1 = nI j
  | [], q, i, _ => Or.inl rfl
  | c :: cs, q, i, h => by
    rw [List.length_cons] at h
    unfold ffL
    split
    · exact ffL_ne cs _ _ (by omega)
    · exact Or.inr ⟨i, by omega, rfl⟩
theorem st7 {x : Int32} : (0 ≤ x ∧ x ≤ 6) ↔ (0 ≤ x ∧ x < 7) := by
  rw [Int32.le_iff_toInt_le, Int32.le_iff_toInt_le, Int32.lt_iff_toInt_lt]
  have h0 : (0 : Int32).toInt = 0 := rfl
  have h6 : (6 : Int32).toInt = 6 := rfl
  have h7 : (7 : Int32).toInt = 7 := rfl
  omega
