/-! which rider, which waiting one, which weight: every place has its row -/
theorem countP_lt {α : Type} (p q : α → Bool) : ∀ (l : List α), (∀ x ∈ l, p x = true → q x = true) → (∃ x ∈ l, q x = true ∧ p x = false) → l.countP p < l.countP q
  | [], _, h => by obtain ⟨x, hx, -⟩ := h; cases hx
  | a :: l, h1, h2 => by
    rw [List.countP_cons, List.countP_cons]
    have hm : l.countP p ≤ l.countP q := List.countP_mono_left (fun x hx => h1 x (List.mem_cons_of_mem _ hx))
    obtain ⟨x, hx, hq, hp⟩ := h2
    rcases List.mem_cons.mp hx with rfl | hx
    · rw [if_pos hq, if_neg (by rw [hp]; decide)]
      omega
    · have ih := countP_lt p q l (fun y hy => h1 y (List.mem_cons_of_mem _ hy)) ⟨x, hx, hq, hp⟩
      by_cases z : p a = true
      · rw [if_pos z, if_pos (h1 a List.mem_cons_self z)]; omega
      · rw [if_neg z]; omega
theorem nodup_sub_le : ∀ (l1 l2 : List Nat), l1.Nodup → (∀ x ∈ l1, x ∈ l2) → l1.length ≤ l2.length
  | [], _, _, _ => Nat.zero_le _
  | a :: l1, l2, hn, hs => by
    have ha := hs a List.mem_cons_self
    obtain ⟨h1, h2⟩ := List.nodup_cons.mp hn
    have ih := nodup_sub_le l1 (l2.erase a) h2 (fun x hx => by
      have hne : x ≠ a := fun z => h1 (z ▸ hx)
      exact (List.mem_erase_of_ne hne).mpr (hs x (List.mem_cons_of_mem _ hx)))
    rw [List.length_erase_of_mem ha] at ih
    have : 0 < l2.length := List.length_pos_of_mem ha
    rw [List.length_cons]
    omega
theorem l_map (l : List Row) : (List.range l.length).map (rAt l) = l := by
  apply List.ext_getElem
  · rw [List.length_map, List.length_range]
  · intro i h1 h2
    rw [List.getElem_map, List.getElem_range, rAt_eq h2]
theorem bef_lt {l : List Row} {v : Int32} {i : Nat} (hi : i < l.length) (e : (rAt l i).2.2.2.2.2.1 = v) : crBef l i < crRid l v := by
  unfold crBef crRid
  refine countP_lt _ _ l (fun x _ h => ?_) ⟨rAt l i, by rw [rAt_eq hi]; exact List.getElem_mem hi, by rw [e]; exact beq_self_eq_true v, ?_⟩
  · rw [e] at h
    exact (Bool.and_eq_true_iff.mp h).1
  · rw [Bool.and_eq_false_iff]
    exact Or.inr (decide_eq_false fun z => Int32.lt_irrefl z)
theorem rr_at {cm t nb : Nat} {l : List Row} {v : Int32} (hv : ¬ v = -1) (hnb : nb ≤ 100000) (h20 : l.length ≤ 20) (hR : ∀ r ∈ l, RowOk cm t nb r) (hP : l.Pairwise PW) {k : Nat} (hk : k < crRid l v) : ∃ i, i < l.length ∧ crRrow l v (nI k) = nI i ∧ (rAt l i).2.2.2.2.2.1 = v ∧ crBef l i = k := by
  have hk2 : crRid l v ≤ l.length := List.countP_le_length
  rcases fstI_cases (fun j => (rAt l j).2.2.2.2.2.1 == v && nI (crBef l j) == nI k) l.length with ⟨h, -⟩ | ⟨i, hi, hp, he, -⟩
  · exact absurd h (rank_row hv hnb h20 hR hP hk)
  · obtain ⟨h1, h2⟩ := Bool.and_eq_true_iff.mp hp
    have hb : crBef l i ≤ l.length := List.countP_le_length
    exact ⟨i, hi, he, eq_of_beq h1, (nI_eq (by omega) (by omega)).mp (eq_of_beq h2)⟩
theorem rr_none {l : List Row} {v : Int32} (h20 : l.length ≤ 20) : crRrow l v (nI (crRid l v)) = -1 := by
  have hk2 : crRid l v ≤ l.length := List.countP_le_length
  rcases fstI_cases (fun j => (rAt l j).2.2.2.2.2.1 == v && nI (crBef l j) == nI (crRid l v)) l.length with ⟨h, -⟩ | ⟨i, hi, hp, he, -⟩
  · exact h
  · obtain ⟨h1, h2⟩ := Bool.and_eq_true_iff.mp hp
    have hb : crBef l i ≤ l.length := List.countP_le_length
    have h3 := (nI_eq (by omega) (by omega)).mp (eq_of_beq h2)
    have h4 := bef_lt hi (eq_of_beq h1)
    omega
theorem num_row {l : List Row} (hP : l.Pairwise PW) {i : Nat} (hi : i < l.length) : lnRow l (rAt l i).1 = nI i := by
  rcases fstI_cases (fun j => (rAt l j).1 == (rAt l i).1) l.length with ⟨-, h⟩ | ⟨j, hj, hp, he, hk⟩
  · have := h i hi
    simp at this
  · have hp : (rAt l j).1 = (rAt l i).1 := eq_of_beq hp
    have hji : j = i := by
      rcases Nat.lt_trichotomy j i with z | z | z
      · have := (PW_at hP z hi).1
        rw [hp] at this
        exact (Int32.lt_irrefl this).elim
      · exact z
      · have := hk i z
        simp at this
    rw [hji] at he
    exact he
def sI (f : Nat → Int32) : List Nat → Int32
  | [] => 0
  | a :: l => f a + sI f l
theorem sI_app (f : Nat → Int32) (l m : List Nat) : sI f (l ++ m) = sI f l + sI f m := by
  induction l with
  | nil => exact (Int32.zero_add _).symm
  | cons a l ih =>
    show f a + sI f (l ++ m) = f a + sI f l + sI f m
    rw [ih, Int32.add_assoc]
theorem sI_perm (f : Nat → Int32) {l m : List Nat} (h : l.Perm m) : sI f l = sI f m := by
  induction h with
  | nil => rfl
  | cons x _ ih => exact congrArg (f x + ·) ih
  | swap x y l =>
    show f y + (f x + sI f l) = f x + (f y + sI f l)
    rw [← Int32.add_assoc, ← Int32.add_assoc, Int32.add_comm (f y)]
  | trans _ _ ih1 ih2 => exact ih1.trans ih2
theorem crWt_map (l : List Row) : ∀ L : List Nat, crWt (L.map (rAt l)) = sI (fun j => (rAt l j).2.1) L
  | [] => rfl
  | a :: L => by
    show (rAt l a).2.1 + crWt (L.map (rAt l)) = _ + _
    rw [crWt_map l L]
/-- the weight of the first k riders with the cabin -/
def ridW (l : List Row) (v : Int32) : Nat → Int32
  | 0 => 200
  | k + 1 => ridW l v k + (rAt l (crRrow l v (nI k)).toNatClampNeg).2.1
theorem ridW_eq (l : List Row) (v : Int32) : ∀ n, ridW l v n = 200 + sI (fun j => (rAt l j).2.1) ((List.range n).map fun k => (crRrow l v (nI k)).toNatClampNeg)
  | 0 => (Int32.add_zero _).symm
  | n + 1 => by
    show ridW l v n + _ = _
    rw [ridW_eq l v n, List.range_succ, List.map_append, sI_app, ← Int32.add_assoc]
    congr 1
    exact (Int32.add_zero _).symm
theorem rid_sum {cm t nb : Nat} {l : List Row} {v : Int32} (hv : ¬ v = -1) (hnb : nb ≤ 100000) (h20 : l.length ≤ 20) (hR : ∀ r ∈ l, RowOk cm t nb r) (hP : l.Pairwise PW) : ridW l v (crRid l v) = crFull l v := by
  have hidx : ∀ k, k < crRid l v → (crRrow l v (nI k)).toNatClampNeg < l.length ∧ (rAt l (crRrow l v (nI k)).toNatClampNeg).2.2.2.2.2.1 = v ∧ crBef l (crRrow l v (nI k)).toNatClampNeg = k := by
    intro k hk
    obtain ⟨i, hi, e, e2, e3⟩ := rr_at hv hnb h20 hR hP hk
    rw [e, nI_clamp (by omega)]
    exact ⟨hi, e2, e3⟩
  have hPn : ((List.range (crRid l v)).map fun k => (crRrow l v (nI k)).toNatClampNeg).Nodup := by
    unfold List.Nodup
    rw [List.pairwise_map]
    refine List.Pairwise.imp_of_mem ?_ (List.pairwise_lt_range (n := crRid l v))
    intro a b ha hb hab z
    have h1 := (hidx a (List.mem_range.mp ha)).2.2
    have h2 := (hidx b (List.mem_range.mp hb)).2.2
    rw [z] at h1
    omega
  have hFn : ((List.range l.length).filter fun j => (rAt l j).2.2.2.2.2.1 == v).Nodup := List.Pairwise.filter _ List.nodup_range
  have hFl : ((List.range l.length).filter fun j => (rAt l j).2.2.2.2.2.1 == v).length = crRid l v := by
    rw [← List.countP_eq_length_filter]
    unfold crRid
    conv => rhs; rw [← l_map l, List.countP_map]
    rfl
  have hsub : ∀ x ∈ ((List.range (crRid l v)).map fun k => (crRrow l v (nI k)).toNatClampNeg), x ∈ ((List.range l.length).filter fun j => (rAt l j).2.2.2.2.2.1 == v) := by
    intro x hx
    obtain ⟨k, hk, rfl⟩ := List.mem_map.mp hx
    obtain ⟨h1, h2, -⟩ := hidx k (List.mem_range.mp hk)
    exact List.mem_filter.mpr ⟨List.mem_range.mpr h1, by rw [h2]; exact beq_self_eq_true v⟩
  have hperm : ((List.range (crRid l v)).map fun k => (crRrow l v (nI k)).toNatClampNeg).Perm ((List.range l.length).filter fun j => (rAt l j).2.2.2.2.2.1 == v) := by
    refine (List.perm_ext_iff_of_nodup hPn hFn).mpr fun a => ⟨hsub a, fun ha => ?_⟩
    refine Decidable.byContradiction fun hno => ?_
    have := nodup_sub_le (a :: _) _ (List.nodup_cons.mpr ⟨hno, hPn⟩) (fun x hx => by
      rcases List.mem_cons.mp hx with rfl | hx
      · exact ha
      · exact hsub x hx)
    rw [List.length_cons, List.length_map, List.length_range, hFl] at this
    omega
  rw [ridW_eq, sI_perm _ hperm]
  unfold crFull
  congr 1
  rw [← crWt_map]
  congr 1
  conv => rhs; rw [← l_map l, List.filter_map]
  rfl
theorem nth_ex (p : Row → Bool) : ∀ (l : List Row) (k : Nat), k < l.countP p → ∃ i, ∃ h : i < l.length, p l[i] = true ∧ (l.take i).countP p = k
  | [], k, h => by rw [List.countP_nil] at h; omega
  | a :: l, k, h => by
    rw [List.countP_cons] at h
    by_cases z : p a = true
    · rw [if_pos z] at h
      cases k with
      | zero => exact ⟨0, Nat.succ_pos _, z, rfl⟩
      | succ k =>
        obtain ⟨i, hi, h1, h2⟩ := nth_ex p l k (by omega)
        refine ⟨i + 1, Nat.succ_lt_succ hi, h1, ?_⟩
        rw [List.take_succ_cons, List.countP_cons, if_pos z, h2]
    · rw [if_neg z] at h
      obtain ⟨i, hi, h1, h2⟩ := nth_ex p l k (by omega)
      refine ⟨i + 1, Nat.succ_lt_succ hi, h1, ?_⟩
      rw [List.take_succ_cons, List.countP_cons, if_neg z, h2]
      rfl
theorem wr_at {l : List Row} {s : Int32} (h20 : l.length ≤ 20) {k : Nat} (hk : k < crWtg l s) : ∃ i, i < l.length ∧ crWrow l s (nI k) = nI i ∧ crW s (rAt l i) = true ∧ (l.take i).countP (crW s) = k := by
  have hk2 : crWtg l s ≤ l.length := List.countP_le_length
  rcases fstI_cases (fun j => crW s (rAt l j) && nI ((l.take j).countP (crW s)) == nI k) l.length with ⟨-, h⟩ | ⟨i, hi, hp, he, -⟩
  · obtain ⟨i, hi, h1, h2⟩ := nth_ex (crW s) l k hk
    have := h i hi
    rw [rAt_eq hi, h1, h2] at this
    simp at this
  · obtain ⟨h1, h2⟩ := Bool.and_eq_true_iff.mp hp
    have hb : (l.take i).countP (crW s) ≤ l.length := Nat.le_trans List.countP_le_length (by rw [List.length_take]; omega)
    exact ⟨i, hi, he, h1, (nI_eq (by omega) (by omega)).mp (eq_of_beq h2)⟩
theorem take_count_le {l : List Row} {p : Row → Bool} {i j : Nat} (h : i ≤ j) : (l.take i).countP p ≤ (l.take j).countP p := by
  have : l.take i = (l.take j).take i := by rw [List.take_take, Nat.min_eq_left h]
  rw [this]
  exact List.Sublist.countP_le (List.take_sublist _ _)
theorem cntP_range (p : Nat → Bool) : ∀ n, cntP p n = (List.range n).countP p
  | 0 => rfl
  | n + 1 => by
    show cntP p n + _ = _
    rw [cntP_range p n, List.range_succ, List.countP_append, List.countP_singleton]
theorem bw_at {cm t nb : Nat} {l : List Row} (h20 : l.length ≤ 20) (hR : ∀ r ∈ l, RowOk cm t nb r) {k : Nat} (hk : k < l.length) : ∃ i, i < l.length ∧ crByW l (nI k) = nI i := by
  have hw : ∀ j, j < l.length → ∃ w, (rAt l j).2.1 = nI w ∧ 40 ≤ w ∧ w ≤ 120 := fun j hj => by
    obtain ⟨n, w, a, b, ca, -, h, -⟩ := hR (rAt l j) (by rw [rAt_eq hj]; exact List.getElem_mem hj)
    exact ⟨w, h⟩
  have hkey : ∀ i o, i < l.length → o < l.length → (crHvp l i o = true ↔ (120 - (rAt l o).2.1.toNatClampNeg) * 20 + o < (120 - (rAt l i).2.1.toNatClampNeg) * 20 + i) := by
    intro i o hi ho
    obtain ⟨w, ew, hw1, hw2⟩ := hw i hi
    obtain ⟨u, eu, hu1, hu2⟩ := hw o ho
    unfold crHvp
    rw [ew, eu, nI_clamp (by omega), nI_clamp (by omega), Bool.or_eq_true_iff, Bool.and_eq_true_iff, decide_eq_true_eq, decide_eq_true_eq, beq_iff_eq, nI_ltI (by omega) (by omega), nI_eq (by omega) (by omega)]
    omega
  have hS : ((List.range l.length).map fun j => (120 - (rAt l j).2.1.toNatClampNeg) * 20 + j).Nodup := by
    unfold List.Nodup
    rw [List.pairwise_map]
    refine List.Pairwise.imp_of_mem ?_ (List.pairwise_lt_range (n := l.length))
    intro a b ha hb hab
    have := List.mem_range.mp ha
    have := List.mem_range.mp hb
    omega
  obtain ⟨x, hx, hc⟩ := rank_ex l.length _ (by rw [List.length_map, List.length_range]) hS k hk
  obtain ⟨i, hi, rfl⟩ := List.mem_map.mp hx
  have hi := List.mem_range.mp hi
  have hv : crHv l i = k := by
    rw [← hc]
    unfold crHv
    rw [cntP_range, List.countP_map]
    refine List.countP_congr fun o ho => ?_
    have ho := List.mem_range.mp ho
    rw [hkey i o hi ho]
    simp only [Function.comp, decide_eq_true_eq]
  rcases fstI_cases (fun j => nI (crHv l j) == nI k) l.length with ⟨-, h⟩ | ⟨j, hj, -, he, -⟩
  · have := h i hi
    rw [hv] at this
    simp at this
  · exact ⟨j, hj, he⟩
/-! numbers within bounds -/
def Bd (K : Nat) (x : Int32) : Prop := -(K : Int) ≤ x.toInt ∧ x.toInt ≤ (K : Int)
theorem Bd_add {K L : Nat} {x y : Int32} (h1 : Bd K x) (h2 : Bd L y) (h : K + L < 2 ^ 31) : Bd (K + L) (x + y) := by
  obtain ⟨a1, a2⟩ := h1
  obtain ⟨b1, b2⟩ := h2
  have e : (x + y).toInt = x.toInt + y.toInt := by
    rw [Int32.toInt_add]
    exact Int.bmod_eq_of_le_mul_two (by omega) (by omega)
  unfold Bd
  rw [e]
  omega
theorem Bd_nI {n K : Nat} (h : n ≤ K) (hK : K < 2 ^ 31) : Bd K (nI n) := by
  unfold Bd
  rw [nI_toInt (by omega)]
  omega
theorem Bd_mono {K L : Nat} {x : Int32} (h : Bd K x) (hl : K ≤ L) : Bd L x := by
  obtain ⟨h1, h2⟩ := h
  constructor <;> omega
theorem Bd_c0 {K : Nat} : Bd K 0 := by
  constructor
  · show -(K : Int) ≤ 0; omega
  · show (0 : Int) ≤ K; omega
theorem Bd_bI (b : Bool) : Bd 1 (bI b) := by cases b <;> exact ⟨by decide, by decide⟩
theorem nI_toIntE {n : Nat} (h : n < 2 ^ 31) : (nI n).toInt = n := nI_toInt (by omega)
