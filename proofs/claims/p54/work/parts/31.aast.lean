section OJ31
variable {μ : MI} {d mc ms : Nat} {Q : QT} {k n pc : Nat} {ls : List (Option Value)} {st : List Value} {h : AHp} {i : Instr} {len nx : Nat} {c : Int32} {t : Nat}
theorem J_aast {a N v : Nat} {f : Nat → Option Nat} {fs : List Value} {x : Int32} (he : mT μ pc = some (.aastore, len, nx, c, t)) (ha : h a = .inl (4, N, .inr (.inr (.inr (.inr f))))) (hv : h v = .inr (2, fs)) (hin : vp_in x N) (kk : J μ d mc ms Q k n nx ls st (oj_up h a (.inl (4, N, .inr (.inr (.inr (.inr (va_up f x.toNatClampNeg (some v))))))))) : J μ d mc ms Q k n pc ls (.ref v :: .int x :: .ref a :: st) h := by
  intro p l e R s m args below meth c1 A D tyA adK adV b scr ad0 L0 Qc C ad L H locs lsc ho hW hS hL
  obtain ⟨hx, hb, hg, -⟩ := id C
  obtain ⟨hd, hl, hn, hc, ht⟩ := oj_okE_spec (hg pc _ he)
  have KK := fun H1 locs1 hW1 hS1 => kk p l e R s m args below meth c1 A D tyA adK adV b scr ad0 L0 Qc C ad L H1 locs1 lsc ho hW1 hS1 hL
  obtain rfl : len = 1 := of_decide_eq_true hl
  subst hn
  obtain ⟨-, -, -, -, -, -, -, -, hK, -⟩ := id C
  obtain ⟨i9, hi9, hw9⟩ := oj_idx hW (a := a) (by rw [ha]; intro z; cases z) (by rw [ha]; intro N9 y9 z; cases z)
  obtain ⟨i8, hi8, hw8⟩ := oj_idx hW (a := v) (by rw [hv]; intro z; cases z) (by rw [hv]; intro N9 y9 z; cases z)
  rw [ha] at hw9
  rw [hv] at hw8
  refine va_astq hx hb hK hW.1 hW.2.1 hS i9 4 i8 2 hw9 rfl hw8 rfl hin hd (fun H1 locs1 hP1 hD1 hS1 => ?_)
  have hlt : x.toNatClampNeg < N := Nat.lt_of_not_le fun z => hin (Or.inr z)
  have e : va_up (fun j => if j < N then (f j).map ad else none) x.toNatClampNeg (some (ad v)) = fun j => if j < N then (va_up f x.toNatClampNeg (some v) j).map ad else none := by
    funext j
    by_cases z : j = x.toNatClampNeg
    · subst z
      simp [va_up, hlt]
    · simp [va_up, z]
  rw [e] at hP1 hD1
  exact KK H1 locs1 (oj_W.put hW hi9 (by intro z; cases z) hP1 hD1) hS1
end OJ31
