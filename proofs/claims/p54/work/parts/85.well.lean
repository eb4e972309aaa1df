-- QQ: (fun r h' => r = .inl (some (.int (bI true))) ∧ CStep h A h')
theorem rets_z {μ : MI} {b : Bool} (hr : mR μ = some .boolean) : oj_rets (mR μ) .ireturn (some (.int (bI b))) = true := by rw [hr]; exact decide_eq_true (bI_nar b)
theorem pull_ring (a b c d : Int32) : (0 : Int32) + 1 * a * b + (-1) * c * d = a * b - c * d ∧ (0 : Int32) + (-1) * a * b + 1 * c * d = -(a * b - c * d) := by constructor <;> grind
theorem uz_tab : ∀ p, p ≤ 24 → ∀ u : Bool, ∀ s, s < 7 → (uFm (nI p) u (nI s * 4) = 0 ↔ nI p = 4 * nI s) := by decide +kernel
theorem div4_tab : ∀ p, p ≤ 24 → (nI p - nI p / 4 * 4 = nI (p % 4)) ∧ (((24 - p) % 4 = 0) ↔ p % 4 = 0) := by decide +kernel
theorem ats_tab : ∀ p, p ≤ 24 → ((nI p - nI p / 4 * 4 == 0) = true ↔ p % 4 = 0) := by decide +kernel
theorem cab_fact {q : LQ} {T κ : Nat} (H : LI q T κ) {c : Nat} (hc : c < 2) : ∃ (P g : Nat) (U : Bool), P ≤ 24 ∧ g < 6 ∧ sPl q.2.1 (nI c) = nI P ∧ sUp (uB q.2.1) (nI c) = U ∧ (if U then nI P / 4 else (nI P - 1) / 4) = nI g ∧ sAhead q.2.1 (uB q.2.1) (nI c) = nI g ∧ (sAtS q.2.1 = true ↔ P % 4 = 0) := by
  obtain ⟨t, cc, ht, p, cm, ar, gn, mt, nb, en, jo, b, u, ⟨⟨v0, v1, v2, v3, v4, v5⟩, -⟩, ⟨-, -, -, ⟨hp, hp0, hp24⟩, -⟩, -⟩ := H
  have hu := uB_of v5
  have hat : sAtS q.2.1 = true ↔ p % 4 = 0 := by unfold sAtS; rw [v4]; exact ats_tab p hp
  have key : ∀ (P : Nat) (U : Bool), P ≤ 24 → (P = 0 → U = true) → (P = 24 → U = false) → sPl q.2.1 (nI c) = nI P → sUp (uB q.2.1) (nI c) = U → (P % 4 = 0 ↔ p % 4 = 0) → ∃ (P g : Nat) (U : Bool), P ≤ 24 ∧ g < 6 ∧ sPl q.2.1 (nI c) = nI P ∧ sUp (uB q.2.1) (nI c) = U ∧ (if U then nI P / 4 else (nI P - 1) / 4) = nI g ∧ sAhead q.2.1 (uB q.2.1) (nI c) = nI g ∧ (sAtS q.2.1 = true ↔ P % 4 = 0) := by
    intro P U h1 h2 h3 h4 h5 h6
    obtain ⟨e, l⟩ := ah_cases P h1 U h2 h3
    refine ⟨P, _, U, h1, l, h4, h5, e, ?_, hat.trans h6.symm⟩
    unfold sAhead
    rw [h4, h5]
    exact e
  obtain rfl | rfl : c = 0 ∨ c = 1 := by omega
  · refine key p u hp hp0 hp24 ?_ ?_ Iff.rfl
    · show (if (0 : Int32) = 0 then q.2.1 4 else _) = _
      rw [if_pos rfl, v4]
    · show (if (0 : Int32) = 0 then uB q.2.1 else _) = _
      rw [if_pos rfl, hu]
  · refine key (24 - p) (!u) (by omega) (fun z => ?_) (fun z => ?_) ?_ ?_ (div4_tab p hp).2
    · rw [hp24 (by omega)]; rfl
    · rw [hp0 (by omega)]; rfl
    · show (if (1 : Int32) = 0 then _ else 24 - q.2.1 4) = _
      rw [if_neg (by decide), v4, pl_24 p hp]
    · show (if (1 : Int32) = 0 then _ else !uB q.2.1) = _
      rw [if_neg (by decide), hu]
def PU (q : LQ) : Nat → Int32
  | 0 => 0
  | c + 1 => PU q c + (if sUp (uB q.2.1) (nI c) then 1 else -1) * crFull q.2.2.1 (nI c) * q.1 (sAhead q.2.1 (uB q.2.1) (nI c)).toNatClampNeg
theorem PU_2 {q : LQ} {T κ : Nat} (H : LI q T κ) : sImb q.2.1 (uB q.2.1) q.1 q.2.2.1 = PU q 2 := by
  obtain ⟨P0, g0, U0, -, l0, -, e0, -, a0, -⟩ := cab_fact H (c := 0) (by omega)
  obtain ⟨P1, g1, U1, -, l1, -, e1, -, a1, -⟩ := cab_fact H (c := 1) (by omega)
  have b0 : sUp (uB q.2.1) (nI 0) = uB q.2.1 := if_pos rfl
  have b1 : sUp (uB q.2.1) (nI 1) = !uB q.2.1 := if_neg (by decide)
  have a0' : sAhead q.2.1 (uB q.2.1) 0 = nI g0 := a0
  have a1' : sAhead q.2.1 (uB q.2.1) 1 = nI g1 := a1
  show _ = (0 : Int32) + (if sUp (uB q.2.1) (nI 0) then 1 else -1) * crFull q.2.2.1 (nI 0) * q.1 (sAhead q.2.1 (uB q.2.1) (nI 0)).toNatClampNeg + (if sUp (uB q.2.1) (nI 1) then 1 else -1) * crFull q.2.2.1 (nI 1) * q.1 (sAhead q.2.1 (uB q.2.1) (nI 1)).toNatClampNeg
  rw [a0, a1, b0, b1, nI_clamp (by omega), nI_clamp (by omega)]
  unfold sImb
  rw [a0', a1', sSl_nI l0, sSl_nI l1]
  show _ = (0 : Int32) + (if uB q.2.1 then 1 else -1) * crFull q.2.2.1 0 * q.1 g0 + (if !uB q.2.1 then 1 else -1) * crFull q.2.2.1 1 * q.1 g1
  cases uB q.2.1
  · exact (pull_ring _ _ _ _).2.symm
  · exact (pull_ring _ _ _ _).1.symm
theorem bs_pos {s : MS} {m : Nat} {b : Bool} (H : BS s m) (hm : m ≤ 100) (hb : s.1 3 = bI b) : (0 < m ↔ b = true) := by
  rcases H with ⟨z, e⟩ | ⟨t, e, -, l1, l2, e2⟩
  · rw [e] at hb
    cases b with
    | false => exact ⟨fun h => by omega, fun h => by cases h⟩
    | true => exact absurd hb (by decide)
  · rw [e] at hb
    cases b with
    | true => exact ⟨fun _ => rfl, fun _ => by omega⟩
    | false => exact absurd hb (by decide)
