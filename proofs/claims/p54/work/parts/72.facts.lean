theorem bm_val : ∀ ht, ht ≤ 150 → 50 < ht → (nI ht - 50 + 5 - 1) / 5 = nI ((ht - 46) / 5) := by decide +kernel
theorem LI_BS {q : LQ} {T κ : Nat} (H : LI q T κ) : ∃ m, m ≤ 100 ∧ BS q.2 m ∧ sBm q.2.1 = nI m := by
  obtain ⟨t, c, ht, p, cm, ar, gn, mt, nb, en, jo, b, u, ⟨⟨v0, v1, v2, v3, v4, v5⟩, -⟩, ⟨-, -, ⟨hb1, hb2⟩, -⟩, -⟩ := H
  cases b with
  | false =>
    have h3 : q.2.1 3 = 0 := v3
    exact ⟨0, by decide, Or.inl ⟨rfl, h3⟩, by unfold sBm; rw [if_pos h3]; rfl⟩
  | true =>
    obtain ⟨l1, l2⟩ := hb1 rfl
    have h3 : q.2.1 3 = 1 := v3
    refine ⟨(ht - 46) / 5, by omega, Or.inr ⟨ht, h3, v2, l1, by omega, rfl⟩, ?_⟩
    unfold sBm
    rw [if_neg (by rw [h3]; decide), v2]
    exact bm_val ht l2 l1
theorem lN_nn {n : Nat} (h : n < 2 ^ 31) : (0 : Int64) ≤ lN n := (lN_le (a := 0) (b := n) (by omega) h).mpr (Nat.zero_le _)
theorem LI_bnd {q : LQ} {T κ : Nat} (H : LI q T κ) : ∃ (t c ht p cm ar gn mt nb en jo : Nat) (b u : Bool), LV q t c ht p cm ar gn mt nb en jo b u ∧ LB q.2.2.1 t c ht p cm ar gn mt nb en jo b u T κ ∧ LR q.1 q.2.2.1 cm t nb ∧ en ≤ 12300000 ∧ jo ≤ 73800000 ∧ cm ≤ 600 := by
  obtain ⟨t, c, ht, p, cm, ar, gn, mt, nb, en, jo, b, u, hV, hB, hR⟩ := H
  obtain ⟨⟨a1, a2, a3, a4⟩, hc, hb, hp, hcm, hmt, hen, hjo, hr⟩ := id hB
  exact ⟨t, c, ht, p, cm, ar, gn, mt, nb, en, jo, b, u, hV, hB, hR, by omega, by omega, by omega⟩
theorem LI_SV {q : LQ} {T κ : Nat} (H : LI q T κ) : SoundV q.2.1 q.1 q.2.2.2.1 q.2.2.2.2 := by
  obtain ⟨t, c, ht, p, cm, ar, gn, mt, nb, en, jo, b, u, ⟨⟨v0, v1, v2, v3, v4, v5⟩, ⟨v6, v7, v8, v9⟩, v10, v11, v12, vE, vJ⟩, ⟨⟨a1, a2, a3, a4⟩, hc, ⟨hb1, hb2⟩, hp, hcm, hmt, -⟩, ⟨hS, -, -⟩, hen, hjo, -⟩ := LI_bnd H
  refine ⟨fun i hi => ?_, ⟨b, v3, ?_⟩, ?_, ?_, ?_, ?_, ?_, ?_⟩
  · obtain ⟨k, hk, e⟩ := hS i hi
    rw [e]
    exact ⟨nI_pos' (by omega), nI_le (b := 9) hk (by omega)⟩
  · cases b with
    | true => rw [if_pos rfl, v2]; exact nI_lt (a := 50) (hb1 rfl).1 (by have := (hb1 rfl).2; omega)
    | false => rw [if_neg (by decide), v2]; exact ⟨nI_pos' (by have := hb2 rfl; omega), nI_lt (b := 100) (hb2 rfl) (by omega)⟩
  · rw [v1]; exact nI_le (a := 1) hc.1 (by omega)
  · rw [v1]; exact nI_le (b := 6) hc.2 (by omega)
  · rw [v0]; exact nI_pos' (by omega)
  · rw [v9]; exact nI_pos' (by omega)
  · rw [vE]; exact lN_nn (by omega)
  · rw [vJ]; exact lN_nn (by omega)
theorem LI_SC {q : LQ} {T κ : Nat} (H : LI q T κ) : SoundC q.2.1 q.2.2.1 := by
  have hu := LI.gU H
  obtain ⟨t, c, ht, p, cm, ar, gn, mt, nb, en, jo, b, u, ⟨⟨v0, v1, v2, v3, v4, v5⟩, -⟩, ⟨-, hc, -, ⟨hp, hp0, hp24⟩, -, -, -, -, -, r0, r1, -⟩, -⟩ := H
  rw [SoundC, v4, v1, uB_of v5]
  refine ⟨nI_pos' (by omega), nI_le (b := 24) hp (by omega), hu, fun z => hp0 ?_, fun z => hp24 ?_, nI_le r0 (by omega), nI_le r1 (by omega)⟩
  · exact (nI_eq (b := 0) (by omega) (by omega)).mp z
  · exact (nI_eq (b := 24) (by omega) (by omega)).mp z
theorem PW_at {l : List Row} (h : l.Pairwise PW) {i j : Nat} (hij : i < j) (hj : j < l.length) : PW (rAt l i) (rAt l j) := by
  rw [rAt_eq (by omega), rAt_eq hj]
  exact List.pairwise_iff_getElem.mp h i j (by omega) hj hij
theorem LI_SO {q : LQ} {T κ : Nat} (H : LI q T κ) : SoundO q.2.2.1 (q.2.1 6) := by
  obtain ⟨t, c, ht, p, cm, ar, gn, mt, nb, en, jo, b, u, ⟨-, ⟨v6, -⟩, -⟩, -, ⟨-, hR, hP⟩, -, -, hcm⟩ := LI_bnd H
  have hn : ∀ j, j < q.2.2.1.length → ∃ n, (rAt q.2.2.1 j).1 = nI n ∧ n < cm := fun j hj => by
    obtain ⟨n, w, a, b, ca, ⟨e1, l1⟩, -⟩ := hR _ (rAt_mem hj)
    exact ⟨n, e1, l1⟩
  refine ⟨fun j hj => ?_, fun j hj => ?_, ?_⟩
  · cases j with
    | zero =>
      obtain ⟨n, e, l⟩ := hn 0 hj
      rw [e]
      exact nI_pos' (by omega)
    | succ j =>
      obtain ⟨n, e, l⟩ := hn j (by omega)
      obtain ⟨n2, e2, l2⟩ := hn (j + 1) hj
      have := (PW_at hP (Nat.lt_succ_self j) hj).1
      show (rAt q.2.2.1 j).1 + 1 ≤ (rAt q.2.2.1 (j + 1)).1
      rw [e, e2] at this ⊢
      have h3 := (nI_ltI (by omega) (by omega)).mp this
      rw [← nI_succ]
      exact nI_le (by omega) (by omega)
  · obtain ⟨n, w, a, b, ca, -, -, ⟨e3, l3⟩, ⟨e4, l4⟩, hab, -⟩ := hR _ (rAt_mem hj)
    rw [e3, e4]
    exact fun z => hab ((nI_eq (by omega) (by omega)).mp z)
  · rw [v6]
    cases hl : q.2.2.1.length with
    | zero => exact nI_pos' (by omega)
    | succ j =>
      obtain ⟨n, e, l⟩ := hn j (by omega)
      show (rAt q.2.2.1 j).1 + 1 ≤ nI cm
      rw [e, ← nI_succ]
      exact nI_le (by omega) (by omega)
def cWS (l : List Row) : Nat → Nat
  | 0 => 0
  | n + 1 => cWS l n + crWtg l (nI n)
theorem sWt_nI (l : List Row) : ∀ n, sWt l n = nI (cWS l n)
  | 0 => rfl
  | n + 1 => by rw [sWt, cWS, sWt_nI l n, nI_add]
theorem cWS_cons {r : Row} {l : List Row} : ∀ n, cWS (r :: l) n = cWS l n + ((List.range n).countP fun i => crW (nI i) r)
  | 0 => rfl
  | n + 1 => by
    rw [cWS, cWS, cWS_cons n, List.range_succ, List.countP_append, List.countP_singleton]
    unfold crWtg
    rw [List.countP_cons]
    omega
set_option maxRecDepth 100000 in
set_option maxHeartbeats 2000000 in
theorem w_none {r : Row} (h : ¬ r.2.2.2.2.2.1 = -1) (n : Nat) : ((List.range n).countP fun i => crW (nI i) r) = 0 := by
  rw [List.countP_eq_zero]
  intro i _
  simp [crW, h]
set_option maxRecDepth 100000 in
set_option maxHeartbeats 2000000 in
theorem w_one : ∀ a, a ≤ 6 → ((List.range 7).countP fun i => (nI a == nI i)) = 1 := by decide +kernel
theorem parts_len {cm t nb : Nat} : ∀ (l : List Row), (∀ r ∈ l, RowOk cm t nb r) → cWS l 7 + crRid l 0 + crRid l 1 = l.length
  | [], _ => rfl
  | r :: l, h => by
    have ih := parts_len l fun r hr => h r (List.mem_cons_of_mem _ hr)
    obtain ⟨n, w, a, b, ca, -, -, ⟨e3, l3⟩, -, -, -, e7⟩ := h r List.mem_cons_self
    rw [cWS_cons, List.length_cons]
    unfold crRid at ih ⊢
    rw [List.countP_cons, List.countP_cons]
    rcases e7 with e | ⟨e | e, -⟩
    · have h1 : ((List.range 7).countP fun i => crW (nI i) r) = 1 := by
        rw [← w_one a l3]
        refine List.countP_congr fun i _ => ?_
        simp [crW, e, e3]
      rw [h1, if_neg (by rw [e]; decide), if_neg (by rw [e]; decide)]
      omega
    · rw [w_none (by rw [e]; decide), if_pos (by rw [e]; decide), if_neg (by rw [e]; decide)]
      omega
    · rw [w_none (by rw [e]; decide), if_neg (by rw [e]; decide), if_pos (by rw [e]; decide)]
      omega
theorem LI_parts {q : LQ} {T κ : Nat} (H : LI q T κ) : sParts q.2.1 q.2.2.1 = q.2.1 6 ∧ nI q.2.2.1.length + q.2.1 7 + q.2.1 8 = q.2.1 6 := by
  obtain ⟨t, c, ht, p, cm, ar, gn, mt, nb, en, jo, b, u, ⟨-, ⟨v6, v7, v8, v9⟩, -⟩, ⟨-, -, -, -, hcm, -⟩, ⟨-, hR, -⟩⟩ := H
  have hl := parts_len _ hR
  have e : nI q.2.2.1.length + q.2.1 7 + q.2.1 8 = q.2.1 6 := by rw [v6, v7, v8, nI_add, nI_add, hcm]
  refine ⟨?_, e⟩
  rw [← e]
  unfold sParts
  rw [sWt_nI, nI_add, nI_add, show cWS q.2.2.1 7 + (crRid q.2.2.1 0 + crRid q.2.2.1 1) = q.2.2.1.length by omega]
/-! every place of a cabin has its rider -/
theorem has_max : ∀ (S : List Nat), S ≠ [] → ∃ M ∈ S, ∀ x ∈ S, x ≤ M
  | [], h => absurd rfl h
  | a :: S, _ => by
    by_cases e : S = []
    · subst e
      exact ⟨a, List.mem_cons_self, fun x hx => by rw [List.mem_singleton.mp hx]; exact Nat.le_refl _⟩
    · obtain ⟨M, hM, hx⟩ := has_max S e
      rcases Nat.le_total a M with z | z
      · exact ⟨M, List.mem_cons_of_mem _ hM, fun x h => (List.mem_cons.mp h).elim (fun q => by rw [q]; exact z) (hx x)⟩
      · exact ⟨a, List.mem_cons_self, fun x h => (List.mem_cons.mp h).elim (fun q => by rw [q]; exact Nat.le_refl _) (fun q => Nat.le_trans (hx x q) z)⟩
theorem rank_ex : ∀ (k : Nat) (S : List Nat), S.length = k → S.Nodup → ∀ n, n < k → ∃ x ∈ S, (S.countP fun y => decide (y < x)) = n
  | 0, _, _, _, n, hn => absurd hn (Nat.not_lt_zero n)
  | k + 1, S, hk, hS, n, hn => by
    obtain ⟨M, hM, hx⟩ := has_max S (fun z => by rw [z] at hk; cases hk)
    have hlen : (S.erase M).length = k := by rw [List.length_erase_of_mem hM, hk]; rfl
    have hperm := List.perm_cons_erase hM
    have hnd : (S.erase M).Nodup := hS.erase M
    have hnotin : M ∉ S.erase M := fun z => (List.Nodup.mem_erase_iff hS).mp z |>.1 rfl
    by_cases e : n = k
    · refine ⟨M, hM, ?_⟩
      rw [hperm.countP_eq, List.countP_cons, if_neg (by simp), Nat.add_zero, e, ← hlen, List.countP_eq_length]
      intro y hy
      have h1 := hx y (List.mem_of_mem_erase hy)
      have h2 : y ≠ M := fun z => hnotin (z ▸ hy)
      simp only [decide_eq_true_eq]
      omega
    · obtain ⟨x, hxm, hc⟩ := rank_ex k (S.erase M) hlen hnd n (by omega)
      refine ⟨x, List.mem_of_mem_erase hxm, ?_⟩
      rw [hperm.countP_eq, List.countP_cons, if_neg (by have := hx x (List.mem_of_mem_erase hxm); simp only [decide_eq_true_eq]; omega), Nat.add_zero, hc]
theorem rank_row {cm t nb : Nat} {l : List Row} {v : Int32} (hv : ¬ v = -1) (hnb : nb ≤ 100000) (h20 : l.length ≤ 20) (hR : ∀ r ∈ l, RowOk cm t nb r) (hP : l.Pairwise PW) {n : Nat} (hn : n < crRid l v) : ¬ crRrow l v (nI n) = -1 := by
  have hbb : ∀ r ∈ l, r.2.2.2.2.2.1 = v → ∃ bb, bb < nb ∧ r.2.2.2.2.2.2 = nI bb := fun r hr e => by
    obtain ⟨n, w, a, b, ca, -, -, -, -, -, -, e7⟩ := hR r hr
    exact (e7.resolve_left (by rw [e]; exact hv)).2
  -- the boardings of this cabin
  have hmap : ((l.filter fun r => r.2.2.2.2.2.1 == v).map fun r => r.2.2.2.2.2.2.toNatClampNeg).Nodup := by
    rw [List.Nodup, List.pairwise_map]
    refine (hP.sublist List.filter_sublist).imp_of_mem ?_
    intro a b ha hb hab
    obtain ⟨ha1, ha2⟩ := List.mem_filter.mp ha
    obtain ⟨hb1, hb2⟩ := List.mem_filter.mp hb
    have ha2 : a.2.2.2.2.2.1 = v := by simpa using ha2
    have hb2 : b.2.2.2.2.2.1 = v := by simpa using hb2
    obtain ⟨x, lx, ex⟩ := hbb a ha1 ha2
    obtain ⟨y, ly, ey⟩ := hbb b hb1 hb2
    have hne := hab.2 (by rw [ha2]; exact hv) (by rw [hb2]; exact hv)
    rw [ex, ey] at hne
    rw [ex, ey, nI_clamp (by omega), nI_clamp (by omega)]
    exact fun z => hne (by rw [z])
  have hlen : ((l.filter fun r => r.2.2.2.2.2.1 == v).map fun r => r.2.2.2.2.2.2.toNatClampNeg).length = crRid l v := by
    rw [List.length_map, ← List.countP_eq_length_filter]
    rfl
  obtain ⟨x, hxm, hc⟩ := rank_ex _ _ hlen hmap n hn
  obtain ⟨r, hr, hrx⟩ := List.mem_map.mp hxm
  obtain ⟨hr1, hr2⟩ := List.mem_filter.mp hr
  have hr2 : r.2.2.2.2.2.1 = v := by simpa using hr2
  obtain ⟨i, hi, hri⟩ := List.mem_iff_getElem.mp hr1
  have hrA : rAt l i = r := by rw [rAt_eq hi]; exact hri
  have hbef : crBef l i = n := by
    rw [← hc]
    unfold crBef
    rw [hrA, List.countP_map, List.countP_filter]
    refine List.countP_congr fun s hs => ?_
    simp only [Function.comp, Bool.and_eq_true, beq_iff_eq, decide_eq_true_eq, hr2]
    constructor
    · rintro ⟨e, l1⟩
      refine ⟨?_, e⟩
      obtain ⟨y, ly, ey⟩ := hbb s hs e
      obtain ⟨z, lz, ez⟩ := hbb r hr1 hr2
      rw [← hrx, ey, ez, nI_clamp (by omega), nI_clamp (by omega)]
      rw [ey, ez] at l1
      exact (nI_ltI (by omega) (by omega)).mp l1
    · rintro ⟨l1, e⟩
      refine ⟨e, ?_⟩
      obtain ⟨y, ly, ey⟩ := hbb s hs e
      obtain ⟨z, lz, ez⟩ := hbb r hr1 hr2
      rw [← hrx, ey, ez, nI_clamp (by omega), nI_clamp (by omega)] at l1
      rw [ey, ez]
      exact nI_lt l1 (by omega)
  intro z
  rcases fstI_cases (fun j => (rAt l j).2.2.2.2.2.1 == v && nI (crBef l j) == nI n) l.length with ⟨-, h2⟩ | ⟨k, hk, -, hk2, -⟩
  · have := h2 i hi
    rw [hrA, hbef] at this
    simp [hr2] at this
  · have hk2 : crRrow l v (nI n) = nI k := hk2
    rw [hk2] at z
    exact nI_neg1 (by omega) z
