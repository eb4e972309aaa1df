theorem nI_adds (a b : Nat) : nI (a + b) = nI a + nI b := Int32.ofNat_add _ _
theorem nI_sub4 {N k : Nat} (hN : N ≤ 2048) (hk : k ≤ 4096) (h : N < k + 4) : Int32.ofNat N - 4 < nI k := by
  rw [Int32.lt_iff_toInt_lt, nI_toInt (by omega)]
  by_cases h4 : 4 ≤ N
  · have e : Int32.ofNat N - 4 = nI (N - 4) := by
      have := nI_adds (N - 4) 4
      rw [show N - 4 + 4 = N by omega] at this
      rw [show Int32.ofNat N = nI (N - 4) + nI 4 from this]
      exact Int32.add_sub_cancel _ _
    rw [e, nI_toInt (by omega)]
    omega
  · have := (by decide : ∀ N, N < 4 → (Int32.ofNat N - 4).toInt < 0) N (by omega)
    omega
theorem and63 (y : Int32) : ∃ c, c < 64 ∧ y &&& 63 = nI c := by
  refine ⟨(y.toUInt32 &&& 63).toNat, ?_, ?_⟩
  · have : (y.toUInt32 &&& 63).toNat ≤ 63 := by rw [UInt32.toNat_and]; exact Nat.and_le_right
    omega
  · have h1 : (y &&& 63) = (y.toUInt32 &&& 63).toInt32 := rfl
    rw [h1]
    have h2 : (y.toUInt32 &&& 63) = UInt32.ofNat (y.toUInt32 &&& 63).toNat := UInt32.ofNat_toNat.symm
    conv => lhs; rw [h2]
    rfl
set_option maxRecDepth 100000 in
set_option maxHeartbeats 2000000 in
theorem w_sw {mc ms k n m N c : Nat} {Q : QT} {xs : Nat → Int32} {A : AS} {h : AHp} {i : Int32} {a6 a7 a8 a9 : Option Value} (hc : c < 51) (HL : LW N xs A h) (HA : AI A m) (hm : m < 512) (in1 : vp_in (i + 1) N) (in2 : vp_in (i + 2) N) (in3 : vp_in (i + 3) N) (hmc : k + 1 ≤ mc) (hms : n + 6 ≤ ms) (kk : LK mc ms Q N xs k n m i) : J mi_L_law 13 mc ms Q k n 44 [some (.ref 999999), some (.ref 0), some (.ref 121), some (.ref 129), some (.ref 130), some (.int i), a6, a7, a8, a9] [.int (nI c)] h := by
  match c, hc with
  | 0, _ => exact J_tswIn (tgt := 264) (off := 220) rfl (by decide) (by decide) (by decide) (by decide) (w_law0 HL HA hm in1 in2 in3 hmc hms kk)
  | 1, _ => exact J_tswIn (tgt := 344) (off := 300) rfl (by decide) (by decide) (by decide) (by decide) (w_law1 HL HA hm in1 in2 in3 hmc hms kk)
  | 2, _ => exact J_tswIn (tgt := 400) (off := 356) rfl (by decide) (by decide) (by decide) (by decide) (w_law2 HL HA hm in1 in2 in3 hmc hms kk)
  | 3, _ => exact J_tswIn (tgt := 468) (off := 424) rfl (by decide) (by decide) (by decide) (by decide) (w_law3 HL HA hm in1 in2 in3 hmc hms kk)
  | 4, _ => exact J_tswIn (tgt := 519) (off := 475) rfl (by decide) (by decide) (by decide) (by decide) (w_law4 HL HA hm in1 in2 in3 hmc hms kk)
  | 5, _ => exact J_tswIn (tgt := 575) (off := 531) rfl (by decide) (by decide) (by decide) (by decide) (w_law5 HL HA hm in1 in2 in3 hmc hms kk)
  | 6, _ => exact J_tswIn (tgt := 631) (off := 587) rfl (by decide) (by decide) (by decide) (by decide) (w_law6 HL HA hm in1 in2 in3 hmc hms kk)
  | 7, _ => exact J_tswIn (tgt := 644) (off := 600) rfl (by decide) (by decide) (by decide) (by decide) (w_law7 HL HA hm in1 in2 in3 hmc hms kk)
  | 8, _ => exact J_tswIn (tgt := 700) (off := 656) rfl (by decide) (by decide) (by decide) (by decide) (w_law8 HL HA hm in1 in2 in3 hmc hms kk)
  | 9, _ => exact J_tswIn (tgt := 713) (off := 669) rfl (by decide) (by decide) (by decide) (by decide) (w_law9 HL HA hm in1 in2 in3 hmc hms kk)
  | 10, _ => exact J_tswIn (tgt := 726) (off := 682) rfl (by decide) (by decide) (by decide) (by decide) (w_law10 HL HA hm in1 in2 in3 hmc hms kk)
  | 11, _ => exact J_tswIn (tgt := 739) (off := 695) rfl (by decide) (by decide) (by decide) (by decide) (w_law11 HL HA hm in1 in2 in3 hmc hms kk)
  | 12, _ => exact J_tswIn (tgt := 752) (off := 708) rfl (by decide) (by decide) (by decide) (by decide) (w_law12 HL HA hm in1 in2 in3 hmc hms kk)
  | 13, _ => exact J_tswIn (tgt := 765) (off := 721) rfl (by decide) (by decide) (by decide) (by decide) (w_law13 HL HA hm in1 in2 in3 hmc hms kk)
  | 14, _ => exact J_tswIn (tgt := 778) (off := 734) rfl (by decide) (by decide) (by decide) (by decide) (w_law14 HL HA hm in1 in2 in3 hmc hms kk)
  | 15, _ => exact J_tswIn (tgt := 834) (off := 790) rfl (by decide) (by decide) (by decide) (by decide) (w_law15 HL HA hm in1 in2 in3 hmc hms kk)
  | 16, _ => exact J_tswIn (tgt := 897) (off := 853) rfl (by decide) (by decide) (by decide) (by decide) (w_law16 HL HA hm in1 in2 in3 hmc hms kk)
  | 17, _ => exact J_tswIn (tgt := 953) (off := 909) rfl (by decide) (by decide) (by decide) (by decide) (w_law17 HL HA hm in1 in2 in3 hmc hms kk)
  | 18, _ => exact J_tswIn (tgt := 1009) (off := 965) rfl (by decide) (by decide) (by decide) (by decide) (w_law18 HL HA hm in1 in2 in3 hmc hms kk)
  | 19, _ => exact J_tswIn (tgt := 1065) (off := 1021) rfl (by decide) (by decide) (by decide) (by decide) (w_law19 HL HA hm in1 in2 in3 hmc hms kk)
  | 20, _ => exact J_tswIn (tgt := 1121) (off := 1077) rfl (by decide) (by decide) (by decide) (by decide) (w_law20 HL HA hm in1 in2 in3 hmc hms kk)
  | 21, _ => exact J_tswIn (tgt := 1189) (off := 1145) rfl (by decide) (by decide) (by decide) (by decide) (w_law21 HL HA hm in1 in2 in3 hmc hms kk)
  | 22, _ => exact J_tswIn (tgt := 1257) (off := 1213) rfl (by decide) (by decide) (by decide) (by decide) (w_law22 HL HA hm in1 in2 in3 hmc hms kk)
  | 23, _ => exact J_tswIn (tgt := 1325) (off := 1281) rfl (by decide) (by decide) (by decide) (by decide) (w_law23 HL HA hm in1 in2 in3 hmc hms kk)
  | 24, _ => exact J_tswIn (tgt := 1338) (off := 1294) rfl (by decide) (by decide) (by decide) (by decide) (w_law24 HL HA hm in1 in2 in3 hmc hms kk)
  | 25, _ => exact J_tswIn (tgt := 1363) (off := 1319) rfl (by decide) (by decide) (by decide) (by decide) (w_law25 HL HA hm in1 in2 in3 hmc hms kk)
  | 26, _ => exact J_tswIn (tgt := 1419) (off := 1375) rfl (by decide) (by decide) (by decide) (by decide) (w_law26 HL HA hm in1 in2 in3 hmc hms kk)
  | 27, _ => exact J_tswIn (tgt := 1475) (off := 1431) rfl (by decide) (by decide) (by decide) (by decide) (w_law27 HL HA hm in1 in2 in3 hmc hms kk)
  | 28, _ => exact J_tswIn (tgt := 1531) (off := 1487) rfl (by decide) (by decide) (by decide) (by decide) (w_law28 HL HA hm in1 in2 in3 hmc hms kk)
  | 29, _ => exact J_tswIn (tgt := 1587) (off := 1543) rfl (by decide) (by decide) (by decide) (by decide) (w_law29 HL HA hm in1 in2 in3 hmc hms kk)
  | 30, _ => exact J_tswIn (tgt := 1655) (off := 1611) rfl (by decide) (by decide) (by decide) (by decide) (w_law30 HL HA hm in1 in2 in3 hmc hms kk)
  | 31, _ => exact J_tswIn (tgt := 1668) (off := 1624) rfl (by decide) (by decide) (by decide) (by decide) (w_law31 HL HA hm in1 in2 in3 hmc hms kk)
  | 32, _ => exact J_tswIn (tgt := 1712) (off := 1668) rfl (by decide) (by decide) (by decide) (by decide) (w_law32 HL HA hm in1 in2 in3 hmc hms kk)
  | 33, _ => exact J_tswIn (tgt := 1768) (off := 1724) rfl (by decide) (by decide) (by decide) (by decide) (w_law33 HL HA hm in1 in2 in3 hmc hms kk)
  | 34, _ => exact J_tswIn (tgt := 1781) (off := 1737) rfl (by decide) (by decide) (by decide) (by decide) (w_law34 HL HA hm in1 in2 in3 hmc hms kk)
  | 35, _ => exact J_tswIn (tgt := 1794) (off := 1750) rfl (by decide) (by decide) (by decide) (by decide) (w_law35 HL HA hm in1 in2 in3 hmc hms kk)
  | 36, _ => exact J_tswIn (tgt := 1807) (off := 1763) rfl (by decide) (by decide) (by decide) (by decide) (w_law36 HL HA hm in1 in2 in3 hmc hms kk)
  | 37, _ => exact J_tswIn (tgt := 1820) (off := 1776) rfl (by decide) (by decide) (by decide) (by decide) (w_law37 HL HA hm in1 in2 in3 hmc hms kk)
  | 38, _ => exact J_tswIn (tgt := 1834) (off := 1790) rfl (by decide) (by decide) (by decide) (by decide) (w_law38 HL HA hm in1 in2 in3 hmc hms kk)
  | 39, _ => exact J_tswIn (tgt := 1899) (off := 1855) rfl (by decide) (by decide) (by decide) (by decide) (w_law39 HL HA hm in1 in2 in3 hmc hms kk)
  | 40, _ => exact J_tswIn (tgt := 1942) (off := 1898) rfl (by decide) (by decide) (by decide) (by decide) (w_law40 HL HA hm in1 in2 in3 hmc hms kk)
  | 41, _ => exact J_tswIn (tgt := 1955) (off := 1911) rfl (by decide) (by decide) (by decide) (by decide) (w_law41 HL HA hm in1 in2 in3 hmc hms kk)
  | 42, _ => exact J_tswIn (tgt := 2011) (off := 1967) rfl (by decide) (by decide) (by decide) (by decide) (w_law42 HL HA hm in1 in2 in3 hmc hms kk)
  | 43, _ => exact J_tswIn (tgt := 2024) (off := 1980) rfl (by decide) (by decide) (by decide) (by decide) (w_law43 HL HA hm in1 in2 in3 hmc hms kk)
  | 44, _ => exact J_tswIn (tgt := 2080) (off := 2036) rfl (by decide) (by decide) (by decide) (by decide) (w_law44 HL HA hm in1 in2 in3 hmc hms kk)
  | 45, _ => exact J_tswIn (tgt := 2138) (off := 2094) rfl (by decide) (by decide) (by decide) (by decide) (w_law45 HL HA hm in1 in2 in3 hmc hms kk)
  | 46, _ => exact J_tswIn (tgt := 2182) (off := 2138) rfl (by decide) (by decide) (by decide) (by decide) (w_law46 HL HA hm in1 in2 in3 hmc hms kk)
  | 47, _ => exact J_tswIn (tgt := 2226) (off := 2182) rfl (by decide) (by decide) (by decide) (by decide) (w_law47 HL HA hm in1 in2 in3 hmc hms kk)
  | 48, _ => exact J_tswIn (tgt := 2270) (off := 2226) rfl (by decide) (by decide) (by decide) (by decide) (w_law48 HL HA hm in1 in2 in3 hmc hms kk)
  | 49, _ => exact J_tswIn (tgt := 2314) (off := 2270) rfl (by decide) (by decide) (by decide) (by decide) (w_law49 HL HA hm in1 in2 in3 hmc hms kk)
  | 50, _ => exact J_tswIn (tgt := 2327) (off := 2283) rfl (by decide) (by decide) (by decide) (by decide) (w_law50 HL HA hm in1 in2 in3 hmc hms kk)
  | c + 51, hc => omega
set_option maxRecDepth 100000 in
set_option maxHeartbeats 2000000 in
theorem w_loop {mc ms N : Nat} {Q : QT} {xs : Nat → Int32} (hN : N ≤ 2048) (hQ : ∀ h, Q (.inl (some (.int 1))) h) : ∀ (r m : Nat) (A : AS) (h : AHp) (k n : Nat) (a6 a7 a8 a9 : Option Value), m + r = 512 → LW N xs A h → AI A m → k + r ≤ mc → n + 6 * r ≤ ms → J mi_L_law 13 mc ms Q k n 28 [some (.ref 999999), some (.ref 0), some (.ref 121), some (.ref 129), some (.ref 130), some (.int (nI (4 * m))), a6, a7, a8, a9] [] h := by
  intro r
  induction r with
  | zero =>
    intro m A h k n a6 a7 a8 a9 hr HL HA hk hn
    iterate 2 (refine J_step rfl rfl ?_)
    refine J_slen rfl rfl rfl HL.2.2.2.2 ?_
    iterate 2 (refine J_step rfl rfl ?_)
    refine J_ic rfl (fun _ => ?_) (fun hq => ?_)
    · iterate 1 (refine J_step rfl rfl ?_)
      exact J_ret (v := some (.int 1)) rfl (by decide) (by omega) (by omega) (hQ _) rfl
    · exact absurd (nI_sub4 (N := N) (k := 4 * m) hN (by omega) (by omega)) hq
  | succ r ih =>
    intro m A h k n a6 a7 a8 a9 hr HL HA hk hn
    iterate 2 (refine J_step rfl rfl ?_)
    refine J_slen rfl rfl rfl HL.2.2.2.2 ?_
    iterate 2 (refine J_step rfl rfl ?_)
    refine J_ic rfl (fun _ => ?_) (fun hq => ?_)
    · iterate 1 (refine J_step rfl rfl ?_)
      exact J_ret (v := some (.int 1)) rfl (by decide) (by omega) (by omega) (hQ _) rfl
    · have h4 : 4 * m + 4 ≤ N := Nat.le_of_not_lt fun z => hq (nI_sub4 (N := N) (k := 4 * m) hN (by omega) (by omega))
      have inj : ∀ j, j < 4 → vp_in (nI (4 * m) + nI j) N := fun j hj => by
        rw [← nI_adds]
        exact vp_in_nI (by omega) (by omega)
      have in0 : vp_in (nI (4 * m)) N := vp_in_nI (by omega) (by omega)
      iterate 2 (refine J_step rfl rfl ?_)
      refine J_sld rfl rfl rfl HL.2.2.2.2 in0 ?_
      iterate 2 (refine J_step rfl rfl ?_)
      have kk : LK mc ms Q N xs k n m (nI (4 * m)) := by
        intro B h' k' n' a6 a7 a8 a9 HL' HB hk' hn'
        iterate 2 (refine J_step rfl rfl ?_)
        have e : nI (4 * m) + 4 = nI (4 * (m + 1)) := (nI_adds (4 * m) 4).symm
        have I := ih (m + 1) B h' k' n' a6 a7 a8 a9 (by omega) HL' HB (by omega) (by omega)
        rw [← e] at I
        exact I
      obtain ⟨c, hc, ec⟩ := and63 (xs (nI (4 * m)).toNatClampNeg)
      have go : J mi_L_law 13 mc ms Q k n 44 [some (.ref 999999), some (.ref 0), some (.ref 121), some (.ref 129), some (.ref 130), some (.int (nI (4 * m))), a6, a7, a8, a9] [.int (nI c)] h := by
        by_cases h51 : c < 51
        · exact w_sw h51 HL HA (by omega) (inj 1 (by decide)) (inj 2 (by decide)) (inj 3 (by decide)) (by omega) (by omega) kk
        · refine J_tswOut (tgt := 2371) rfl (Or.inr ?_) (by decide) (kk A h k n a6 a7 a8 a9 HL (AI_step HA (by omega)) (by omega) (by omega))
          rw [nI_toInt (by omega)]
          omega
      rw [← ec] at go
      exact go
