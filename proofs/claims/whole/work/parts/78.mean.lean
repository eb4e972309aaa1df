/-- what the wrapper of the mean leaves -/
def WD (h : AHp) (B : AS) (c : Int32) (val : UInt64) (h' : AHp) : Prop := CRep h' B ∧ (∀ x, 120 < x → x ≠ 130 → h' x = h x) ∧ ∃ g : Nat → UInt64, h' 130 = .inl (3, 1, .inr (.inr (.inr (.inl g)))) ∧ (c = 0 → g 0 = val)
set_option maxRecDepth 100000 in
set_option maxHeartbeats 2000000 in
theorem w_meanJourney {h : AHp} {B : AS} {S : Option Value ⊕ String} {c : Int32} {val : UInt64} {g : Nat → UInt64} {fs : List Value} {D mc ms : Nat} (hmc : mc ≤ 1) (hms : ms ≤ 6) (hC : JM mi_X5_meanJourney D mc ms [.ref 0] h (fun r h' => r = S ∧ CStep h B h')) (e0 : h 0 = .inr (5, fs)) (hf : h 130 = .inl (3, 1, .inr (.inr (.inr (.inl g))))) (hS : (S = .inl (some (.double val)) ∧ c = 0) ∨ (S = .inr "java/lang/ArithmeticException" ∧ c = 1)) : JM mi_L_meanJourney (D + 1) 1 6 [.ref 0, .ref 130] h (fun r h' => r = .inl (some (.int c)) ∧ WD h B c val h') := by
  refine JM_of gd_L_meanJourney rfl (by decide +kernel) (Nat.le_of_ble_eq_true rfl) (oj_cats rfl) (by decide) ?_
  repeat (first | (refine J_step rfl rfl ?_) | (refine J_getf rfl rfl rfl (by assumption) rfl ?_))
  refine J_callV rfl rfl rfl rfl rfl e0 rfl rfl (Nat.ble_eq.mpr (Nat.le_refl _)) rfl hC (by omega) (by omega) (fun E h9 q => ?_) (fun v9 h9 q => ?_)
  · obtain ⟨q1, q2⟩ := q
    rcases hS with ⟨s, hc⟩ | ⟨s, hc⟩
    · rw [s] at q1; cases q1
    · rw [s] at q1; cases q1; subst hc
      refine Or.inr ⟨[], (0, 7, 10, 98), [], "java/lang/ArithmeticException", rfl, rfl, by decide, by decide +kernel, by decide +kernel, (fun z hz => by cases hz), .astore_n 2, 1, 11, _, 2, rfl, rfl, (Nat.le_of_ble_eq_true rfl), ?_⟩
      repeat (first | (refine J_step rfl rfl ?_) | (refine J_getf rfl rfl rfl (by assumption) rfl ?_))
      exact J_ret (v := some (.int _)) rfl (by decide) (by omega) (by omega) ⟨rfl, q2.1, fun x z1 z2 => q2.2 x z1, g, (q2.2 130 (by decide)).trans hf, fun z => absurd z (by decide)⟩ rfl
  · obtain ⟨q1, q2⟩ := q
    have e9 := (q2.2 130 (by decide)).trans hf
    rcases hS with ⟨s, hc⟩ | ⟨s, hc⟩
    · rw [s] at q1; cases q1; subst hc
      refine J_dast rfl e9 (vp_in_nI (n := 0) (by decide) (by decide)) ?_
      repeat (first | (refine J_step rfl rfl ?_) | (refine J_getf rfl rfl rfl (by assumption) rfl ?_))
      exact J_ret (v := some (.int 0)) rfl (by decide) (by omega) (by omega) ⟨rfl, CRep_mv (fun x z => if_neg (by omega)) q2.1, fun x z1 z2 => (if_neg z2).trans (q2.2 x z1), _, if_pos rfl, fun _ => if_pos rfl⟩ rfl
    · rw [s] at q1; cases q1
theorem nI_z600 : ∀ k, k ≤ 600 → ((0 : Int32) < nI k ↔ 0 < k) ∧ (nI k = 0 ↔ k = 0) := by decide +kernel
/-- the mean's call -/
def UD (A : AS) (n : Nat) : Prop := ∃ (c : Int32) (val b : UInt64), AI A (n + 1) ∧ (c = 0 → b = val) ∧ (∀ (h : AHp) (g : Nat → UInt64), CRep h A → h 130 = .inl (3, 1, .inr (.inr (.inr (.inl g)))) → JM mi_L_meanJourney 7 1 6 [.ref 0, .ref 130] h (fun r h' => r = .inl (some (.int c)) ∧ WD h A c val h')) ∧ (∀ (h : AHp) (v : Nat → Int32) (R : Nat → Nat → Int32), MdAt h v R → RS v R A → JM mi_X6_meanJourney 1 0 0 [.ref 121] h (fun r h' => r = .inl (some (.double b)) ∧ RP h A c h'))
set_option maxRecDepth 100000 in
set_option maxHeartbeats 2000000 in
theorem u_meanJourney {A : AS} {n : Nat} (HA : AI A n) (hn : n < 512) : UD A n := by
  have hI := AI_cur HA
  obtain ⟨t, cc, ht, p', cm, ar, gn, mt, nb, en, jo, b, u, hV, hB, hR, he, hj, hcm⟩ := LI_bnd hI
  have hB2 := hB.2.2.2.2.1
  have ea : A.1.2.1 7 = nI ar := hV.2.1.2.1
  have ej : A.1.2.1 11 = nI jo := hV.2.2.2.1
  have eJ : A.1.2.2.2.2 = lN jo := hV.2.2.2.2.2.2
  have hl : FP.l2d (lN jo) = FP.i2d (nI jo) := l2d_eq (by omega)
  have hm : 0 < ar → vf_n64 (FP.ddiv (FP.i2d (nI jo)) (FP.i2d (nI ar))) := fun z => mean_num z (by omega)
  have hp : 0 < A.1.2.1 7 ↔ 0 < ar := by rw [ea]; exact (nI_z600 ar (by omega)).1
  have hz : A.1.2.1 7 = 0 ↔ ar = 0 := by rw [ea]; exact (nI_z600 ar (by omega)).2
  have h1 : 0 < A.1.2.1 7 → vf_n64 (FP.ddiv (FP.l2d A.1.2.2.2.2) (FP.i2d (A.1.2.1 7))) := fun z => by rw [eJ, hl, ea]; exact hm (hp.mp z)
  have h2 : ¬ A.1.2.1 7 = 0 → vf_n64 (FP.ddiv (FP.i2d (A.1.2.1 11)) (FP.i2d (A.1.2.1 7))) := fun z => by rw [ej, ea]; exact hm (Nat.pos_of_ne_zero fun y => z (hz.mpr y))
  by_cases hc : A.1.2.1 7 = 0
  · have hc2 : ¬ 0 < A.1.2.1 7 := fun y => by have := hp.mp y; have := hz.mp hc; omega
    refine ⟨1, 0, 0, AI_step HA hn, fun _ => rfl, fun h g HC hf => ?_, fun h v R HM HS => ?_⟩
    · obtain ⟨e, ⟨sl', hs, hL⟩, -⟩ := id HC
      exact w_meanJourney (by decide) (by decide) (JM_q HC (t_meanJourney e hL h1) (if_neg hc2)) e hf (Or.inr ⟨rfl, rfl⟩)
    · exact JM_imp (m_meanJourney HM HS.1 h2) (fun r h' q => by rw [if_pos hc, if_pos hc] at q; exact ⟨q.1, RP_q HS q.2⟩)
  · have hc2 : 0 < A.1.2.1 7 := hp.mpr (Nat.pos_of_ne_zero fun y => hc (hz.mpr y))
    refine ⟨0, FP.ddiv (FP.l2d A.1.2.2.2.2) (FP.i2d (A.1.2.1 7)), FP.ddiv (FP.i2d (A.1.2.1 11)) (FP.i2d (A.1.2.1 7)), AI_step HA hn, fun _ => by rw [eJ, hl, ej], fun h g HC hf => ?_, fun h v R HM HS => ?_⟩
    · obtain ⟨e, ⟨sl', hs, hL⟩, -⟩ := id HC
      exact w_meanJourney (by decide) (by decide) (JM_q HC (t_meanJourney e hL h1) (if_pos hc2)) e hf (Or.inl ⟨rfl, rfl⟩)
    · exact JM_imp (m_meanJourney HM HS.1 h2) (fun r h' q => by rw [if_neg hc, if_neg hc] at q; exact ⟨q.1, RP_q HS q.2⟩)
