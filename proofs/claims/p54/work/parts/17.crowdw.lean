/-- the cells of a crowd put in place -/
def crPut (h : AHp) (a : Nat) (R : Nat → Nat → Int32) (c : Nat) (nb : Int32) : AHp := fun x =>
  if x = a then .inr (0, [.ref (a + 1), .ref (a + 2), .ref (a + 3), .ref (a + 4), .ref (a + 5), .ref (a + 6), .ref (a + 7), .int (nI c), .int nb])
  else if a < x ∧ x ≤ a + 7 then .inl (0, 20, .inl (R (x - a - 1))) else h x
theorem crPut_0 {h : AHp} {a : Nat} {R : Nat → Nat → Int32} {c : Nat} {nb : Int32} : crPut h a R c nb a = .inr (0, [.ref (a + 1), .ref (a + 2), .ref (a + 3), .ref (a + 4), .ref (a + 5), .ref (a + 6), .ref (a + 7), .int (nI c), .int nb]) := by unfold crPut; rw [if_pos rfl]
theorem crPut_k {h : AHp} {a : Nat} {R : Nat → Nat → Int32} {c : Nat} {nb : Int32} {k : Nat} (hk : k < 7) : crPut h a R c nb (a + 1 + k) = .inl (0, 20, .inl (R k)) := by
  unfold crPut
  rw [if_neg (by omega), if_pos (by omega), show a + 1 + k - a - 1 = k by omega]
theorem crPut_ne {h : AHp} {a : Nat} {R : Nat → Nat → Int32} {c : Nat} {nb : Int32} {x : Nat} (hx : x < a ∨ a + 7 < x) : crPut h a R c nb x = h x := by
  unfold crPut
  rw [if_neg (by omega), if_neg (by omega)]
theorem crPut_self {h : AHp} {a : Nat} {R : Nat → Nat → Int32} {c : Nat} {nb : Int32} (hC : CrRaw h a R c nb) : crPut h a R c nb = h := by
  obtain ⟨h0, h1, h2, h3, h4, h5, h6, h7, hc⟩ := hC
  funext x
  unfold crPut
  by_cases e : x = a
  · rw [if_pos e, e, h0]
  · rw [if_neg e]
    by_cases q : a < x ∧ x ≤ a + 7
    · rw [if_pos q]
      rcases (show x = a + 1 ∨ x = a + 2 ∨ x = a + 3 ∨ x = a + 4 ∨ x = a + 5 ∨ x = a + 6 ∨ x = a + 7 by omega) with z | z | z | z | z | z | z <;> subst z
      · rw [h1, show a + 1 - a - 1 = 0 by omega]
      · rw [h2, show a + 2 - a - 1 = 1 by omega]
      · rw [h3, show a + 3 - a - 1 = 2 by omega]
      · rw [h4, show a + 4 - a - 1 = 3 by omega]
      · rw [h5, show a + 5 - a - 1 = 4 by omega]
      · rw [h6, show a + 6 - a - 1 = 5 by omega]
      · rw [h7, show a + 7 - a - 1 = 6 by omega]
    · rw [if_neg q]
theorem crPut_raw {h : AHp} {a : Nat} {R : Nat → Nat → Int32} {c : Nat} {nb : Int32} (hc : c ≤ 20) : CrRaw (crPut h a R c nb) a R c nb := ⟨crPut_0, crPut_k (k := 0) (by omega), crPut_k (k := 1) (by omega), crPut_k (k := 2) (by omega), crPut_k (k := 3) (by omega), crPut_k (k := 4) (by omega), crPut_k (k := 5) (by omega), crPut_k (k := 6) (by omega), hc⟩
theorem crPut_put {h : AHp} {a : Nat} {R R' : Nat → Nat → Int32} {c c' : Nat} {nb nb' : Int32} : crPut (crPut h a R c nb) a R' c' nb' = crPut h a R' c' nb' := by
  funext x
  unfold crPut
  by_cases e : x = a
  · rw [if_pos e, if_pos e]
  · rw [if_neg e, if_neg e]
    by_cases q : a < x ∧ x ≤ a + 7
    · simp [q, e]
    · simp [q, e]
theorem crPut_congr {h : AHp} {a : Nat} {R R' : Nat → Nat → Int32} {c : Nat} {nb : Int32} (e : ∀ w, w < 7 → R w = R' w) : crPut h a R c nb = crPut h a R' c nb := by
  funext x
  unfold crPut
  by_cases z : x = a
  · rw [if_pos z, if_pos z]
  · rw [if_neg z, if_neg z]
    by_cases q : a < x ∧ x ≤ a + 7
    · rw [if_pos q, if_pos q, e _ (by omega)]
    · rw [if_neg q, if_neg q]
theorem crPut_col {h : AHp} {a : Nat} {R : Nat → Nat → Int32} {c : Nat} {nb : Int32} {k : Nat} {f : Nat → Int32} (hk : k < 7) : oj_up (crPut h a R c nb) (a + 1 + k) (.inl (0, 20, .inl f)) = crPut h a (fun w => if w = k then f else R w) c nb := by
  funext x
  unfold oj_up crPut
  by_cases e : x = a + 1 + k
  · subst e
    rw [if_pos rfl, if_neg (by omega), if_pos (by omega), show a + 1 + k - a - 1 = k by omega]
    simp
  · rw [if_neg e]
    by_cases z : x = a
    · rw [if_pos z, if_pos z]
    · rw [if_neg z, if_neg z]
      by_cases q : a < x ∧ x ≤ a + 7
      · simp [q, show ¬ x - a - 1 = k by omega]
      · rw [if_neg q, if_neg q]
theorem crPut_cnt {h : AHp} {a : Nat} {R : Nat → Nat → Int32} {c c' : Nat} {nb nb' : Int32} : oj_up (crPut h a R c nb) a (.inr (0, [.ref (a + 1), .ref (a + 2), .ref (a + 3), .ref (a + 4), .ref (a + 5), .ref (a + 6), .ref (a + 7), .int (nI c'), .int nb'])) = crPut h a R c' nb' := by
  funext x
  unfold oj_up crPut
  by_cases e : x = a
  · rw [if_pos e, if_pos e]
  · rw [if_neg e, if_neg e, if_neg e]
section OJ11
variable {μ : MI} {d mc ms : Nat} {Q : QT} {k n pc : Nat} {ls : List (Option Value)} {st : List Value} {h h2 : AHp}
theorem J_heap (e : h2 = h) (kk : J μ d mc ms Q k n pc ls st h2) : J μ d mc ms Q k n pc ls st h := e ▸ kk
end OJ11
theorem JM_heap {μ : MI} {d mc ms : Nat} {av : List Value} {h h2 : AHp} {Q : QT} (e : h2 = h) (kk : JM μ d mc ms av h2 Q) : JM μ d mc ms av h Q := e ▸ kk
theorem JM_post {μ : MI} {d mc ms : Nat} {av : List Value} {h : AHp} {r : Option Value ⊕ String} {h2 h3 : AHp} (e : h2 = h3) (kk : JM μ d mc ms av h (oj_is r h2)) : JM μ d mc ms av h (oj_is r h3) := e ▸ kk
def rowSet (R : Nat → Nat → Int32) (t : Nat) (S : Nat → Nat → Int32) (f : Nat) : Nat → Nat → Int32 := fun w j => if j = t then S w f else R w j
/-- the first k columns of a row set -/
def rowK (R : Nat → Nat → Int32) (t : Nat) (S : Nat → Nat → Int32) (f k : Nat) : Nat → Nat → Int32 := fun w j => if w < k ∧ j = t then S w f else R w j
theorem rowK_at (R : Nat → Nat → Int32) (t : Nat) (S : Nat → Nat → Int32) (f k : Nat) : rowK R t S f k k = R k := by
  funext j
  unfold rowK
  rw [if_neg (by omega)]
theorem rowK_succ {h : AHp} {a : Nat} {R : Nat → Nat → Int32} {c : Nat} {nb : Int32} {t : Nat} {S : Nat → Nat → Int32} {f k : Nat} (hk : k < 7) : oj_up (crPut h a (rowK R t S f k) c nb) (a + 1 + k) (.inl (0, 20, .inl (upd (R k) t (S k f)))) = crPut h a (rowK R t S f (k + 1)) c nb := by
  rw [crPut_col hk]
  refine crPut_congr fun w hw => ?_
  funext j
  unfold rowK
  by_cases e : w = k
  · subst e
    rw [if_pos rfl]
    unfold upd
    by_cases z : j = t
    · rw [if_pos z, if_pos ⟨by omega, z⟩]
    · rw [if_neg z, if_neg (by omega)]
  · rw [if_neg e]
    by_cases z : w < k ∧ j = t
    · rw [if_pos z, if_pos ⟨by omega, z.2⟩]
    · rw [if_neg z, if_neg (by omega)]
theorem rowK_0 {h : AHp} {a : Nat} {R : Nat → Nat → Int32} {c : Nat} {nb : Int32} {t : Nat} {S : Nat → Nat → Int32} {f : Nat} : crPut h a (rowK R t S f 0) c nb = crPut h a R c nb := crPut_congr fun w hw => by
  funext j
  unfold rowK
  rw [if_neg (by omega)]
theorem rowK_7 {h : AHp} {a : Nat} {R : Nat → Nat → Int32} {c : Nat} {nb : Int32} {t : Nat} {S : Nat → Nat → Int32} {f : Nat} : crPut h a (rowK R t S f 7) c nb = crPut h a (rowSet R t S f) c nb := crPut_congr fun w hw => by
  funext j
  unfold rowK rowSet
  by_cases z : j = t
  · rw [if_pos ⟨hw, z⟩, if_pos z]
  · rw [if_neg (by omega), if_neg z]
set_option maxRecDepth 100000 in
set_option maxHeartbeats 2000000 in
theorem c_copyRow {d : Nat} {h : AHp} {a b f t : Nat} {R S : Nat → Nat → Int32} {c : Nat} {nb : Int32} {vc vn : Value} (hf : f < 20) (ht : t < 20)
    (hb0 : ∀ R', crPut h a R' c nb b = .inr (0, [.ref (b + 1), .ref (b + 2), .ref (b + 3), .ref (b + 4), .ref (b + 5), .ref (b + 6), .ref (b + 7), vc, vn]))
    (hrd : ∀ (w : Nat) (R' : Nat → Nat → Int32), w < 7 → R' w = R w → crPut h a R' c nb (b + 1 + w) = .inl (0, 20, .inl (S w))) : JM mi_X0_copyRow d 0 0 [.ref a, .ref b, .int (nI f), .int (nI t)] (crPut h a R c nb) (oj_is (.inl none) (crPut h a (rowSet R t S f) c nb)) := by
  refine JM_of gd_X0_copyRow rfl (by decide +kernel) (Nat.le_of_ble_eq_true rfl) (oj_cats rfl) (by decide) ?_
  refine J_heap (rowK_0 (t := t) (S := S) (f := f)) ?_
  iterate 6 (first | (refine J_step rfl rfl ?_) | (refine J_getf rfl rfl rfl (by first | exact crPut_0 | exact hb0 _) rfl ?_))
  refine J_iald rfl (hrd 0 _ (by omega) (rowK_at R t S f 0)) (vp_in_nI (by omega) (by omega)) ?_
  rw [nI_clamp (by omega)]
  refine J_iast rfl ((crPut_k (k := 0) (by omega)).trans (by rw [rowK_at])) (vp_in_nI (by omega) (by omega)) ?_
  rw [nI_clamp (by omega)]
  refine J_heap (rowK_succ (k := 0) (by omega)).symm ?_
  iterate 6 (first | (refine J_step rfl rfl ?_) | (refine J_getf rfl rfl rfl (by first | exact crPut_0 | exact hb0 _) rfl ?_))
  refine J_iald rfl (hrd 1 _ (by omega) (rowK_at R t S f 1)) (vp_in_nI (by omega) (by omega)) ?_
  rw [nI_clamp (by omega)]
  refine J_iast rfl ((crPut_k (k := 1) (by omega)).trans (by rw [rowK_at])) (vp_in_nI (by omega) (by omega)) ?_
  rw [nI_clamp (by omega)]
  refine J_heap (rowK_succ (k := 1) (by omega)).symm ?_
  iterate 6 (first | (refine J_step rfl rfl ?_) | (refine J_getf rfl rfl rfl (by first | exact crPut_0 | exact hb0 _) rfl ?_))
  refine J_iald rfl (hrd 2 _ (by omega) (rowK_at R t S f 2)) (vp_in_nI (by omega) (by omega)) ?_
  rw [nI_clamp (by omega)]
  refine J_iast rfl ((crPut_k (k := 2) (by omega)).trans (by rw [rowK_at])) (vp_in_nI (by omega) (by omega)) ?_
  rw [nI_clamp (by omega)]
  refine J_heap (rowK_succ (k := 2) (by omega)).symm ?_
  iterate 6 (first | (refine J_step rfl rfl ?_) | (refine J_getf rfl rfl rfl (by first | exact crPut_0 | exact hb0 _) rfl ?_))
  refine J_iald rfl (hrd 3 _ (by omega) (rowK_at R t S f 3)) (vp_in_nI (by omega) (by omega)) ?_
  rw [nI_clamp (by omega)]
  refine J_iast rfl ((crPut_k (k := 3) (by omega)).trans (by rw [rowK_at])) (vp_in_nI (by omega) (by omega)) ?_
  rw [nI_clamp (by omega)]
  refine J_heap (rowK_succ (k := 3) (by omega)).symm ?_
  iterate 6 (first | (refine J_step rfl rfl ?_) | (refine J_getf rfl rfl rfl (by first | exact crPut_0 | exact hb0 _) rfl ?_))
  refine J_iald rfl (hrd 4 _ (by omega) (rowK_at R t S f 4)) (vp_in_nI (by omega) (by omega)) ?_
  rw [nI_clamp (by omega)]
  refine J_iast rfl ((crPut_k (k := 4) (by omega)).trans (by rw [rowK_at])) (vp_in_nI (by omega) (by omega)) ?_
  rw [nI_clamp (by omega)]
  refine J_heap (rowK_succ (k := 4) (by omega)).symm ?_
  iterate 6 (first | (refine J_step rfl rfl ?_) | (refine J_getf rfl rfl rfl (by first | exact crPut_0 | exact hb0 _) rfl ?_))
  refine J_iald rfl (hrd 5 _ (by omega) (rowK_at R t S f 5)) (vp_in_nI (by omega) (by omega)) ?_
  rw [nI_clamp (by omega)]
  refine J_iast rfl ((crPut_k (k := 5) (by omega)).trans (by rw [rowK_at])) (vp_in_nI (by omega) (by omega)) ?_
  rw [nI_clamp (by omega)]
  refine J_heap (rowK_succ (k := 5) (by omega)).symm ?_
  iterate 6 (first | (refine J_step rfl rfl ?_) | (refine J_getf rfl rfl rfl (by first | exact crPut_0 | exact hb0 _) rfl ?_))
  refine J_iald rfl (hrd 6 _ (by omega) (rowK_at R t S f 6)) (vp_in_nI (by omega) (by omega)) ?_
  rw [nI_clamp (by omega)]
  refine J_iast rfl ((crPut_k (k := 6) (by omega)).trans (by rw [rowK_at])) (vp_in_nI (by omega) (by omega)) ?_
  rw [nI_clamp (by omega)]
  refine J_heap (rowK_succ (k := 6) (by omega)).symm ?_
  refine J_heap rowK_7.symm ?_
  exact J_vret rfl rfl rfl rfl ⟨rfl, rfl⟩
