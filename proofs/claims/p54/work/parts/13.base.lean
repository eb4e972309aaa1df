def oj_is (r0 : Option Value ⊕ String) (h0 : AHp) : QT := fun r h' => r = r0 ∧ h' = h0
theorem oj_cats {av : List Value} (h : av.all (fun v => Nat.beq v.category 1) = true) : ∀ v ∈ av, v.category = 1 := fun v hv => Nat.eq_of_beq_eq_true (List.all_eq_true.mp h v hv)
section OJ10
variable {μ : MI} {d mc ms : Nat} {Q : QT} {k n pc : Nat} {ls : List (Option Value)} {st : List Value} {h : AHp} {i : Instr} {len nx : Nat} {c : Int32} {t : Nat}
theorem J_iret {x : Int32} (he : mT μ pc = some (.ireturn, len, nx, c, t)) (hr : mR μ = some .int) (hk : Nat.ble k mc = true) (hn : Nat.ble n ms = true) (hq : Q (.inl (some (.int x))) h) : J μ d mc ms Q k n pc ls [.int x] h :=
  J_ret (v := some (.int x)) he (by rw [hr]; exact decide_eq_true rfl) (Nat.le_of_ble_eq_true hk) (Nat.le_of_ble_eq_true hn) hq rfl
def bI (b : Bool) : Int32 := if b then 1 else 0
theorem bI_nar (b : Bool) : narrow .boolean (.int (bI b)) = .int (bI b) := by cases b <;> rfl
theorem J_zret {x : Int32} (he : mT μ pc = some (.ireturn, len, nx, c, t)) (hr : mR μ = some .boolean) (hk : Nat.ble k mc = true) (hn : Nat.ble n ms = true) (b : Bool) (hx : x = bI b) (hq : Q (.inl (some (.int (bI b)))) h) : J μ d mc ms Q k n pc ls [.int x] h := by
  subst hx
  exact J_ret (v := some (.int (bI b))) he (by rw [hr]; exact decide_eq_true (bI_nar b)) (Nat.le_of_ble_eq_true hk) (Nat.le_of_ble_eq_true hn) hq rfl
theorem J_vret (he : mT μ pc = some (.return_, len, nx, c, t)) (hr : mR μ = none) (hk : Nat.ble k mc = true) (hn : Nat.ble n ms = true) (hq : Q (.inl none) h) : J μ d mc ms Q k n pc ls [] h :=
  J_ret (v := none) he (by rw [hr]; rfl) (Nat.le_of_ble_eq_true hk) (Nat.le_of_ble_eq_true hn) hq rfl
/-- a call whose end is known: it comes back -/
theorem J_cV {μ' : MI} {idx d' na a : Nat} {fs As rest : List Value} {v : Option Value} {h' : AHp} (he : mT μ pc = some (.invokevirtual idx, len, nx, c, t)) (hi : Nat.blt idx 1024 = true) (hct : oj_cl (mO μ * 1024 + idx) = some (0, μ')) (hna : oj_na (mO μ * 1024 + idx) = some na) (hsp : oj_spV st na = some (As, a, rest)) (ha : h a = .inr (mO μ', fs)) (hmo : Nat.blt (mO μ') 7 = true) (hal : mA μ' = false) (hd : Nat.ble (d' + 1) d = true) (hcat : Nat.ble ((rest.map fun v => v.category).sum) 8 = true) (hmc : Nat.ble k mc = true) (hms : Nat.ble n ms = true)
    (hM : JM μ' d' 0 0 (.ref a :: As) h (oj_is (.inl v) h')) (kr : J μ d mc ms Q k n nx ls (v.toList ++ rest) h') : J μ d mc ms Q k n pc ls st h :=
  J_callV he hi hct hna hsp ha hmo hal hd hcat hM (Nat.le_of_ble_eq_true hmc) (Nat.le_of_ble_eq_true hms) (fun E h9 q => by cases q.1) (fun v9 h9 q => by obtain ⟨q1, q2⟩ := q; cases q1; subst q2; exact kr)
theorem J_cS {μ' : MI} {idx d' na kd : Nat} {As rest : List Value} {v : Option Value} {h' : AHp} (he : mT μ pc = some (.invokestatic idx, len, nx, c, t)) (hi : Nat.blt idx 1024 = true) (hct : oj_cl (mO μ * 1024 + idx) = some (kd, μ')) (hna : oj_na (mO μ * 1024 + idx) = some na) (hkd : (Nat.beq kd 1 || Nat.beq kd 3) = true) (hsp : oj_spS st na = some (As, rest)) (hal : mA μ' = false) (hd : Nat.ble (d' + 1) d = true) (hcat : Nat.ble ((rest.map fun v => v.category).sum) 8 = true) (hmc : Nat.ble k mc = true) (hms : Nat.ble n ms = true)
    (hM : JM μ' d' 0 0 As h (oj_is (.inl v) h')) (kr : J μ d mc ms Q k n nx ls (v.toList ++ rest) h') : J μ d mc ms Q k n pc ls st h :=
  J_callS he hi hct hna (by rcases Bool.or_eq_true_iff.mp hkd with q | q; exact Or.inl (Nat.eq_of_beq_eq_true q); exact Or.inr (Nat.eq_of_beq_eq_true q)) hsp hal hd hcat hM (Nat.le_of_ble_eq_true hmc) (Nat.le_of_ble_eq_true hms) (fun E h9 q => by cases q.1) (fun v9 h9 q => by obtain ⟨q1, q2⟩ := q; cases q1; subst q2; exact kr)
end OJ10
/-! rows of a crowd -/
abbrev Row : Type := Int32 × Int32 × Int32 × Int32 × Int32 × Int32 × Int32
abbrev rNum (r : Row) : Int32 := r.1
abbrev rWt (r : Row) : Int32 := r.2.1
abbrev rFrm (r : Row) : Int32 := r.2.2.1
abbrev rDst (r : Row) : Int32 := r.2.2.2.1
abbrev rCam (r : Row) : Int32 := r.2.2.2.2.1
abbrev rCab (r : Row) : Int32 := r.2.2.2.2.2.1
abbrev rBrd (r : Row) : Int32 := r.2.2.2.2.2.2
def RowsAt (R : Nat → Nat → Int32) (l : List Row) : Prop := ∀ j r, l[j]? = some r → R 0 j = rNum r ∧ R 1 j = rWt r ∧ R 2 j = rFrm r ∧ R 3 j = rDst r ∧ R 4 j = rCam r ∧ R 5 j = rCab r ∧ R 6 j = rBrd r
/-- a crowd at a, its columns in the seven cells behind it -/
def CrRaw (h : AHp) (a : Nat) (R : Nat → Nat → Int32) (c : Nat) (nb : Int32) : Prop :=
  h a = .inr (0, [.ref (a + 1), .ref (a + 2), .ref (a + 3), .ref (a + 4), .ref (a + 5), .ref (a + 6), .ref (a + 7), .int (nI c), .int nb]) ∧
  h (a + 1) = .inl (0, 20, .inl (R 0)) ∧ h (a + 2) = .inl (0, 20, .inl (R 1)) ∧ h (a + 3) = .inl (0, 20, .inl (R 2)) ∧ h (a + 4) = .inl (0, 20, .inl (R 3)) ∧ h (a + 5) = .inl (0, 20, .inl (R 4)) ∧ h (a + 6) = .inl (0, 20, .inl (R 5)) ∧ h (a + 7) = .inl (0, 20, .inl (R 6)) ∧ c ≤ 20
def CrAt (h : AHp) (a : Nat) (l : List Row) (nb : Int32) : Prop := ∃ R, CrRaw h a R l.length nb ∧ RowsAt R l
theorem tk_succ {l : List Row} {j : Nat} (hj : j < l.length) : l.take (j + 1) = l.take j ++ [l[j]] := by rw [List.take_succ, List.getElem?_eq_getElem hj]; rfl
