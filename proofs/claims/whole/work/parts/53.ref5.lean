/-- which exception of a deed's list a fault is -/
def rCd (k : Nat) (f : Int32) : Int32 := match k with
  | 1 => if f = 0 then 0 else if f = 5 then 1 else 2
  | 3 => if f = 0 then 0 else if f = 3 then 1 else 2
  | 4 => if f = 0 then 0 else if f = 2 then 1 else 2
  | 5 => if f = 0 then 0 else 1
  | _ => f
def rVal (q : LQ) (k : Nat) (x y z : Int32) : Int32 := if k = 3 then bI (!uB q.2.1) else (apD q k x y z).1
/-- what a deed of the reference leaves -/
def DP (h : AHp) (v : Nat → Int32) (A : Nat → Nat → Int32) (q : LQ) (k : Nat) (x y z : Int32) : QT := fun r h' => ∃ f' : Nat → Int32, r = .inl (some (.int (if sFault q.2.1 q.2.2.1 k x y z = 0 then rVal q k x y z else 0))) ∧ MdP h (fset v 1 (rCd k (sFault q.2.1 q.2.2.1 k x y z))) (aset A 0 f') h' ∧ SI f' (if sFault q.2.1 q.2.2.1 k x y z = 0 then (apD q k x y z).2 else q)
theorem DP_no {h h' : AHp} {v : Nat → Int32} {A : Nat → Nat → Int32} {q : LQ} {k : Nat} {x y z c : Int32} (S : SI (A 0) q) (hf : ¬ sFault q.2.1 q.2.2.1 k x y z = 0) (hc : c = rCd k (sFault q.2.1 q.2.2.1 k x y z)) (H : MdP h (fset v 1 c) A h') : DP h v A q k x y z (.inl (some (.int 0))) h' := by
  refine ⟨A 0, by rw [if_neg hf], ?_, by rw [if_neg hf]; exact S⟩
  rw [aset_self, ← hc]
  exact H
theorem DP_ok {h h' : AHp} {v : Nat → Int32} {A : Nat → Nat → Int32} {q : LQ} {k : Nat} {x y z w : Int32} {f' : Nat → Int32} (hf : sFault q.2.1 q.2.2.1 k x y z = 0) (hw : w = rVal q k x y z) (h0 : rCd k 0 = 0) (H : MdP h (fset v 1 0) (aset A 0 f') h') (S : SI f' (apD q k x y z).2) : DP h v A q k x y z (.inl (some (.int w))) h' := by
  refine ⟨f', by rw [if_pos hf, hw], ?_, by rw [if_pos hf]; exact S⟩
  rw [hf, h0]
  exact H
theorem st7 {x : Int32} : (0 ≤ x ∧ x ≤ 6) ↔ (0 ≤ x ∧ x < 7) := by
  rw [Int32.le_iff_toInt_le, Int32.le_iff_toInt_le, Int32.lt_iff_toInt_lt]
  have h0 : (0 : Int32).toInt = 0 := rfl
  have h6 : (6 : Int32).toInt = 6 := rfl
  have h7 : (7 : Int32).toInt = 7 := rfl
  omega
theorem st6 {x : Int32} : (0 ≤ x ∧ x ≤ 5) ↔ (0 ≤ x ∧ x < 6) := by
  rw [Int32.le_iff_toInt_le, Int32.le_iff_toInt_le, Int32.lt_iff_toInt_lt]
  have h0 : (0 : Int32).toInt = 0 := rfl
  have h5 : (5 : Int32).toInt = 5 := rfl
  have h6 : (6 : Int32).toInt = 6 := rfl
  omega
theorem st2 {x : Int32} : (0 ≤ x ∧ x ≤ 1) ↔ (0 ≤ x ∧ x < 2) := by
  rw [Int32.le_iff_toInt_le, Int32.le_iff_toInt_le, Int32.lt_iff_toInt_lt]
  have h0 : (0 : Int32).toInt = 0 := rfl
  have h5 : (1 : Int32).toInt = 1 := rfl
  have h6 : (2 : Int32).toInt = 2 := rfl
  omega
theorem not_in {x a b : Int32} : ¬ (a ≤ x ∧ x ≤ b) ↔ (x < a ∨ b < x) := by
  rw [Int32.le_iff_toInt_le, Int32.le_iff_toInt_le, Int32.lt_iff_toInt_lt, Int32.lt_iff_toInt_lt]
  omega
theorem SI_fld {f : Nat → Int32} {sl F : Nat → Int32} {l : List Row} {E Jn : Int64} {k : Nat} {x : Int32} (S : SI f (sl, F, l, E, Jn)) (hk : k < 13) : SI (upd f k x) (sl, fset F k x, l, E, Jn) := by
  obtain ⟨s1, s2, s3, s4, s5⟩ := S
  refine ⟨fun i hi => ?_, (upd_ne (by omega)).trans s2, fun g hg => (upd_ne (by omega)).trans (s3 g hg), fun j hj w hw => (upd_ne (by omega)).trans (s4 j hj w hw), s5⟩
  show upd f k x i = fset F k x i
  unfold upd fset
  by_cases e : i = k
  · rw [if_pos e, if_pos e]
  · rw [if_neg e, if_neg e]
    exact s1 i hi
theorem SI_slp {f : Nat → Int32} {sl F : Nat → Int32} {l : List Row} {E Jn : Int64} {k : Nat} {x : Int32} (S : SI f (sl, F, l, E, Jn)) (hk : k < 6) : SI (upd f (14 + k) x) (upd sl k x, F, l, E, Jn) := by
  obtain ⟨s1, s2, s3, s4, s5⟩ := S
  refine ⟨fun i hi => (upd_ne (by omega)).trans (s1 i hi), (upd_ne (by omega)).trans s2, fun g hg => ?_, fun j hj w hw => (upd_ne (by omega)).trans (s4 j hj w hw), s5⟩
  show upd f (14 + k) x (14 + g) = upd sl k x g
  unfold upd
  by_cases e : g = k
  · rw [if_pos (by omega), if_pos e]
  · rw [if_neg (by omega), if_neg e]
    exact s3 g hg
theorem rw_step {f0 f val : Nat → Int32} {base k : Nat} {x : Int32} (H : (∀ i, i < base → f i = f0 i) ∧ ∀ w, w < k → f (base + w) = val w) (hx : x = val k) : (∀ i, i < base → upd f (base + k) x i = f0 i) ∧ ∀ w, w < k + 1 → upd f (base + k) x (base + w) = val w := by
  refine ⟨fun i hi => (upd_ne (by omega)).trans (H.1 i hi), fun w hw => ?_⟩
  unfold upd
  by_cases e : w = k
  · rw [if_pos (by omega), e, hx]
  · rw [if_neg (by omega)]
    exact H.2 w (by omega)
theorem SI_app {f g sl F : Nat → Int32} {l : List Row} {E Jn : Int64} {r : Row} {c : Int32} (S : SI f (sl, F, l, E, Jn)) (hl : l.length < 20) (H : (∀ i, i < 20 + 7 * l.length → g i = f i) ∧ ∀ w, w < 7 → g (20 + 7 * l.length + w) = mRow r w) : SI (upd (upd g 13 (nI l.length + 1)) 6 c) (sl, fset F 6 c, l ++ [r], E, Jn) := by
  refine SI_fld ?_ (by decide)
  obtain ⟨s1, s2, s3, s4, s5⟩ := S
  have hlen : (l ++ [r]).length = l.length + 1 := by rw [List.length_append]; rfl
  refine ⟨fun i hi => (upd_ne (by omega)).trans ((H.1 i (by omega)).trans (s1 i hi)), ?_, fun k hk => (upd_ne (by omega)).trans ((H.1 _ (by omega)).trans (s3 k hk)), fun j hj w hw => (upd_ne (by omega)).trans ?_, ?_⟩
  · show upd g 13 _ 13 = nI (l ++ [r]).length
    rw [hlen, nI_succ]
    exact upd_at
  · have hj : j < (l ++ [r]).length := hj
    show g (20 + 7 * j + w) = mRow (rAt (l ++ [r]) j) w
    rw [hlen] at hj
    by_cases e : j = l.length
    · subst e
      rw [H.2 w hw]
      unfold rAt
      rw [List.getD_eq_getElem?_getD, List.getElem?_append_right (Nat.le_refl _), Nat.sub_self]
      rfl
    · have h2 : j < l.length := by omega
      rw [H.1 _ (by omega)]
      have := s4 j h2 w hw
      unfold rAt at this ⊢
      rw [List.getD_eq_getElem?_getD] at this ⊢
      rw [List.getElem?_append_left h2]
      exact this
  · show (l ++ [r]).length ≤ 20
    omega
