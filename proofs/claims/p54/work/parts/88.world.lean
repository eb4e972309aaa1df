/-! the start -/
def nWd : List Cond := flatC (Jvm.Cond.and given_1 narrow_1)
def sT : List (String × Nat) := [("OrchardRopeway", 309), ("OrchardRopeway", 311), ("OrchardRopeway", 313), ("OrchardRopeway", 315), ("OrchardRopeway", 317), ("OrchardRopeway", 70), ("OrchardRopeway", 319), ("OrchardRopeway", 113), ("OrchardRopeway", 324), ("OrchardRopeway", 165), ("OrchardRopeway", 173), ("OrchardRopewayLaw", 125), ("OrchardRopewayLaw", 134), ("OrchardRopeway", 244), ("OrchardRopeway$Program", 55), ("OrchardRopeway$Program", 65), ("OrchardRopeway$Program", 67), ("OrchardRopeway$Program", 69), ("OrchardRopeway$Program", 71), ("OrchardRopeway$Program", 73), ("OrchardRopeway$Program", 75), ("OrchardRopeway$Program", 77), ("OrchardRopeway$Program", 79), ("OrchardRopeway$Program", 42), ("OrchardRopeway", 259), ("OrchardRopeway", 267), ("OrchardRopewayLaw", 140), ("OrchardRopewayLaw", 146), ("OrchardRopeway", 281), ("OrchardRopeway", 286), ("OrchardRopewayLaw", 150), ("OrchardRopewayLaw", 152)]
def wTm (i : Nat) : Term := .string (sT.getD i ("", 0)).1 (sT.getD i ("", 0)).2
def sP (i : Nat) : Nat := [362, 401, 432, 471, 335, 850, 281, 898, 307, 878, 513, 578, 587, 672, 702, 713, 719, 725, 736, 746, 752, 760, 773, 781, 786, 815, 613, 635, 529, 556, 651, 660].getD i 0
theorem sT_ok : ∀ q ∈ oj_strs, q.2.2.2 < 32 ∧ (Term.string q.1 q.2.1 = wTm q.2.2.2 ∨ Cond.eq (.string q.1 q.2.1) (wTm q.2.2.2) ∈ nWd) := by decide +kernel
set_option maxRecDepth 100000 in
theorem nw_dig : ∀ j, j < 100 → nWd[14 + j]? = some (.eq (.elem (.static RJ6 "DigitOnes" "[B") (.int (Int32.ofNat j))) (.int (nI (48 + j % 10)))) ∧ nWd[117 + j]? = some (.eq (.elem (.static RJ6 "DigitTens" "[B") (.int (Int32.ofNat j))) (.int (nI (48 + j / 10)))) := by decide +kernel
set_option maxRecDepth 100000 in
theorem nw_str : ∀ i, i < 32 → nWd[sP i]? = some (.exactly (wTm i) "java/lang/String") ∧ nWd[sP i + 1]? = some (.eq (.field (wTm i) "java/lang/String" "coder" "B") (.int 0)) ∧ nWd[sP i + 2]? = some (.arrayOf (.field (wTm i) "java/lang/String" "value" "[B") .byte) ∧ nWd[sP i + 3]? = some (.eq (.length (.field (wTm i) "java/lang/String" "value" "[B")) (.int (Int32.ofNat (oj_len.getD i 0)))) ∧ ∀ j, j < oj_len.getD i 0 → nWd[sP i + 4 + j]? = some (.eq (.elem (.field (wTm i) "java/lang/String" "value" "[B") (.int (Int32.ofNat j))) (.int ((oj_byt.getD i []).getD j 0))) := by decide +kernel
set_option maxRecDepth 100000 in
set_option maxHeartbeats 2000000 in
theorem w_strs {args : Array Value} {s : State} {A : Nat → Prop} (hs : ∀ w ∈ nWd, w.before args s = true) (hA : ∀ a : Nat, a < s.heap.size → ¬ A a) : ∃ a1 a2 : Nat → Nat, ∀ i, i < 32 → (wTm i).eval args s none [] s = some (.ref (a1 i)) ∧ va_O "java/lang/String" (a1 i) A s s.heap ∧ va_OF "java/lang/String" "coder" "B" (.int 0) (a1 i) A s s.heap ∧ va_OF "java/lang/String" "value" "[B" (.ref (a2 i)) (a1 i) A s s.heap ∧ va_T .byte (a2 i) (oj_len.getD i 0) (fun j => .int ((oj_byt.getD i []).getD j 0)) A s s.heap := by
  have h0 : ∀ i : Nat, ∃ q : Nat × Nat, i < 32 → (wTm i).eval args s none [] s = some (.ref q.1) ∧ va_O "java/lang/String" q.1 A s s.heap ∧ va_OF "java/lang/String" "coder" "B" (.int 0) q.1 A s s.heap ∧ va_OF "java/lang/String" "value" "[B" (.ref q.2) q.1 A s s.heap ∧ va_T .byte q.2 (oj_len.getD i 0) (fun j => .int ((oj_byt.getD i []).getD j 0)) A s s.heap := by
    intro i
    by_cases hi : i < 32
    · obtain ⟨n1, n2, n3, n4, n5⟩ := nw_str i hi
      have hl : oj_len.getD i 0 < 100 := (sc_all i hi).1
      have g : ∀ {k : Nat} {w : Cond}, nWd[k]? = some w → w.before args s = true := fun h => hs _ (List.mem_of_getElem? h)
      obtain ⟨adK, adV, ⟨h1, -⟩, h2⟩ := vk_Sof (args := args) (s := s) (N := 1) (tm := fun _ => wTm i) (len := [oj_len.getD i 0]) (byt := [oj_byt.getD i []]) (A := A)
        (fun k hk => by obtain rfl : k = 0 := by omega
                        show oj_len.getD i 0 < 2 ^ 31
                        omega)
        (fun k hk => g n1) (fun k hk => g n2) (fun k hk => g n3)
        (fun k hk => by obtain rfl : k = 0 := by omega
                        exact g n4)
        (fun k hk j hj => by obtain rfl : k = 0 := by omega
                             exact g (n5 j hj))
        (fun a b ha hb hab => absurd (by omega) hab) hA
      exact ⟨(adK 0, adV 0), fun _ => ⟨h2 0 (by decide), h1 0 (by decide)⟩⟩
    · exact ⟨(0, 0), fun h => absurd h hi⟩
  obtain ⟨ad, had⟩ := Classical.axiomOfChoice h0
  exact ⟨fun i => (ad i).1, fun i => (ad i).2, fun i hi => had i hi⟩
theorem len_apart : ∀ i, i < 32 → ∀ j, j < 32 → Int32.ofNat (oj_len.getD i 0) = Int32.ofNat (oj_len.getD j 0) → oj_len.getD i 0 = oj_len.getD j 0 := by decide +kernel
theorem str_apart : ∀ i, i < 32 → ∀ j, j < 32 → oj_len.getD i 0 = oj_len.getD j 0 → (∀ k, k < oj_len.getD i 0 → (oj_byt.getD i []).getD k 0 = (oj_byt.getD j []).getD k 0) → i = j := by decide +kernel
set_option maxRecDepth 100000 in
set_option maxHeartbeats 2000000 in
theorem w_inj {s : State} {A : Nat → Prop} {a1 a2 : Nat → Nat} (H : ∀ i, i < 32 → va_OF "java/lang/String" "value" "[B" (.ref (a2 i)) (a1 i) A s s.heap ∧ va_T .byte (a2 i) (oj_len.getD i 0) (fun j => .int ((oj_byt.getD i []).getD j 0)) A s s.heap) : ∀ i j, i < 32 → j < 32 → a1 i = a1 j → i = j := by
  intro i j hi hj e
  obtain ⟨⟨cf, k, ix, f, cell, e1, -, e3, -, e5, -⟩, ⟨t, t1, -, -, -, t5, t6, -⟩⟩ := H i hi
  obtain ⟨⟨cf', k', ix', f', cell', g1, -, g3, -, g5, -⟩, ⟨t', u1, -, -, -, u5, u6, -⟩⟩ := H j hj
  rw [e1] at g1
  cases g1
  rw [← e, e3] at g3
  cases g3
  rw [e5] at g5
  have ea : a2 i = a2 j := Value.ref.inj (Option.some.inj g5)
  rw [← ea, t1] at u1
  cases u1
  have el := len_apart i hi j hj (t5.symm.trans u5)
  refine str_apart i hi j hj el fun k hk => ?_
  have z1 := t6 k hk
  have z2 := u6 k (by rw [← el]; exact hk)
  rw [z1] at z2
  exact Value.int.inj (Option.some.inj z2)
set_option maxRecDepth 100000 in
set_option maxHeartbeats 2000000 in
theorem w_arrs {args : Array Value} {s : State} (hts : ∀ w ∈ lw_tbl, w.before args s = true) : ∃ tyA : Nat → ClassId, ∀ (k : Nat) (q : ClassId × FieldType), (oj_tys tyA)[k]? = some q → ArrOfT s q.1 q.2 ∧ va_RA s q.1 q.2 := by
  have prim : ∀ ty : FieldType, (ty = .int ∨ ty = .char ∨ ty = .byte) → Cond.arrayClass ty ∈ lw_tbl → ∃ c : ClassId, ArrOfT s c ty ∧ va_RA s c ty := by
    intro ty hty h
    obtain ⟨c, k, comp, h1, h2, h3⟩ := Cond.arrayClass_spec (hts _ h)
    refine ⟨c, fun n z => ⟨fun k h => ?_, k, h2, comp, h3⟩, ?_⟩
    · cases h
    · rcases hty with z | z | z <;> (subst z; exact h1)
  obtain ⟨c0, h0⟩ := prim .int (Or.inl rfl) (by decide +kernel)
  obtain ⟨c1, h1⟩ := prim .char (Or.inr (Or.inl rfl)) (by decide +kernel)
  obtain ⟨c2, h2⟩ := prim .byte (Or.inr (Or.inr rfl)) (by decide +kernel)
  obtain ⟨comp, c4, kc, f1, -, f2, f3, f4⟩ := Cond.arrayOver_spec (hts (.arrayOver (.object RX2)) (by decide +kernel))
  refine ⟨fun t => if t = 0 then c0 else if t = 1 then c1 else if t = 2 then c2 else if t = 3 then c2 else c4, fun k q hq => ?_⟩
  match k, hq with
  | 0, hq => cases hq; exact h0
  | 1, hq => cases hq; exact h1
  | 2, hq => cases hq; exact h2
  | 3, hq => cases hq; exact h2
  | 4, hq => cases hq; exact ⟨fun N z => ⟨(fun k h => by cases h), kc, f2, comp, f3⟩, kc, comp, f2, f3, f1, f4⟩
  | k + 5, hq => simp [oj_tys] at hq
set_option maxRecDepth 100000 in
set_option maxHeartbeats 2000000 in
theorem w_classes {args : Array Value} {s : State} (hts : ∀ w ∈ lw_tbl, w.before args s = true) : ∃ D : va_G, ∀ (c : Nat) (q : vw_C), vwCl[c]? = some q → u_Kn s q.1 q.2.1 q.2.2 (D.1 c) (D.2 c) := by
  have one : ∀ (C : String) (T : u_T) (N : Nat), (∀ w ∈ u_ws C T N, w ∈ lw_tbl) → Cond.instantiable C N ∈ lw_tbl → ∃ q : ClassId × (Nat → Nat), u_Kn s C T N q.1 q.2 := by
    intro C T N h1 h2
    obtain ⟨c, i, h⟩ := u_known hts h1 (hts _ h2)
    exact ⟨(c, i), h⟩
  have h0 : ∀ c : Nat, ∃ q : ClassId × (Nat → Nat), ∀ r : vw_C, vwCl[c]? = some r → u_Kn s r.1 r.2.1 r.2.2 q.1 q.2 := by
    intro c
    match c with
    | 0 => obtain ⟨q, h⟩ := one RX0 TX0 9 (by decide +kernel) (by decide +kernel); exact ⟨q, fun r hr => by cases hr; exact h⟩
    | 1 => obtain ⟨q, h⟩ := one RX1 TX1 2 (by decide +kernel) (by decide +kernel); exact ⟨q, fun r hr => by cases hr; exact h⟩
    | 2 => obtain ⟨q, h⟩ := one RX2 TX2 14 (by decide +kernel) (by decide +kernel); exact ⟨q, fun r hr => by cases hr; exact h⟩
    | 3 => obtain ⟨q, h⟩ := one RX3 TX3 2 (by decide +kernel) (by decide +kernel); exact ⟨q, fun r hr => by cases hr; exact h⟩
    | 4 => obtain ⟨q, h⟩ := one RX4 TX4 8 (by decide +kernel) (by decide +kernel); exact ⟨q, fun r hr => by cases hr; exact h⟩
    | 5 => obtain ⟨q, h⟩ := one RX5 TX5 9 (by decide +kernel) (by decide +kernel); exact ⟨q, fun r hr => by cases hr; exact h⟩
    | 6 => obtain ⟨q, h⟩ := one RJ4 TJ4 4 (by decide +kernel) (by decide +kernel); exact ⟨q, fun r hr => by cases hr; exact h⟩
    | 7 => obtain ⟨q, h⟩ := one RJ0 TJ0 4 (by decide +kernel) (by decide +kernel); exact ⟨q, fun r hr => by cases hr; exact h⟩
    | c + 8 => exact ⟨(0, fun _ => 0), fun r hr => by simp [vwCl] at hr⟩
  obtain ⟨d, hd⟩ := Classical.axiomOfChoice h0
  exact ⟨(fun c => (d c).1, fun c => (d c).2), hd⟩
set_option maxRecDepth 100000 in
set_option maxHeartbeats 2000000 in
theorem w_S {args : Array Value} {s : State} {A : Nat → Prop} (hts : ∀ w ∈ lw_tbl, w.before args s = true) (hs : ∀ w ∈ nWd, w.before args s = true) (hA : ∀ a : Nat, a < s.heap.size → ¬ A a) : ∃ adK adV : Nat → Nat, oj_S adK adV A s s.heap := by
  obtain ⟨a1, a2, H⟩ := w_strs hs hA
  have inj := w_inj fun i hi => ⟨(H i hi).2.2.2.1, (H i hi).2.2.2.2⟩
  obtain ⟨fa, v, hv, hZ⟩ : ∃ (fa : Nat) (v : Value), (v = .null ∨ v = .ref fa) ∧ va_Z "jdk/internal/util/Preconditions" "SIOOBE_FORMATTER" "Ljava/util/function/BiFunction;" v A s s.heap := by
    rcases va_Zqof (C := "jdk/internal/util/Preconditions") (n := "SIOOBE_FORMATTER") (d := "Ljava/util/function/BiFunction;") (hts (.laysStatic "jdk/internal/util/Preconditions" "SIOOBE_FORMATTER" "Ljava/util/function/BiFunction;") (by decide +kernel)) (hts (.initialized "jdk/internal/util/Preconditions") (by decide +kernel)) (hs (.isRef (.static "jdk/internal/util/Preconditions" "SIOOBE_FORMATTER" "Ljava/util/function/BiFunction;")) (by decide +kernel)) hA with h | ⟨t, h⟩
    · exact ⟨0, .null, Or.inl rfl, h⟩
    · exact ⟨t, .ref t, Or.inr rfl, h⟩
  have g : ∀ {k : Nat} {w : Cond}, nWd[k]? = some w → w.before args s = true := fun h => hs _ (List.mem_of_getElem? h)
  obtain ⟨d1, u1, y1⟩ := va_Tof (args := args) (s := s) (tm := .static RJ6 "DigitOnes" "[B") (ty := .byte) (N := 100) (f := fun j => .int (nI (48 + j % 10))) (A := A) (by decide) (g (k := 12) (by decide +kernel)) (va_eqt (g (k := 12 + 1) (by decide +kernel))) (fun j hj => va_eqt (g (nw_dig j hj).1)) hA
  obtain ⟨d2, u2, y2⟩ := va_Tof (args := args) (s := s) (tm := .static RJ6 "DigitTens" "[B") (ty := .byte) (N := 100) (f := fun j => .int (nI (48 + j / 10))) (A := A) (by decide) (g (k := 115) (by decide +kernel)) (va_eqt (g (k := 115 + 1) (by decide +kernel))) (fun j hj => va_eqt (g (nw_dig j hj).2)) hA
  obtain ⟨aK, eK⟩ : ∃ aK : Nat → Nat, aK = fun j => if j < 1000 then a1 j else if j < 2000 then a2 (j - 1000) else if j = 2000 then fa else if j = 3000 then d1 else d2 := ⟨_, rfl⟩
  have k1 : ∀ i, i < 32 → aK i = a1 i := fun i hi => by rw [eK]; exact if_pos (by omega)
  refine ⟨aK, a2, ⟨fun i hi => ?_, fun i j hi hj e => ?_⟩, fun q hq => ?_, fun q hq => ?_, fun q hq => ?_, fun q hq => ?_, ?_, ?_, ⟨v, ?_, hZ⟩, ?_, fun y hy => ?_, fun i hi => ?_, ?_, ⟨?_, ?_⟩, ?_, ?_⟩
  · rw [k1 i hi]; exact (H i hi).2
  · rw [k1 i hi, k1 j hj] at e; exact inj i j hi hj e
  · obtain ⟨e2, e1⟩ := sT_ok q hq
    have hw := (H _ e2).1
    have hw : (Term.string q.1 q.2.1).eval args s none [] s = some (.ref (a1 q.2.2.2)) := by
      rcases e1 with e1 | e1
      · rw [e1]; exact hw
      · exact Cond.eq_refs (hs _ e1) hw rfl
    rw [k1 _ e2]
    exact vk_R.of (hts _ ((by decide +kernel : ∀ q ∈ oj_strs, Cond.stringRef q.1 q.2.1 q.2.2.1 ∈ lw_tbl) q hq)) hw
  · exact va_Nw.of rfl (hts _ ((by decide +kernel : ∀ q ∈ oj_casts, Cond.castable q.1 q.2 ∈ lw_tbl) q hq))
  · exact va_Nc.of (hs _ ((by decide +kernel : ∀ q ∈ oj_ncasts, Cond.not (.castable q.1 q.2) ∈ nWd) q hq))
  · exact va_Nw.of rfl (hts _ ((by decide +kernel : ∀ q ∈ oj_nests, Cond.methodLinkNest q.1 q.2.1 q.2.2.1 q.2.2.2 ∈ lw_tbl) q hq))
  · exact vx_Zqof (hts (.laysStatic Bundle.tN "UNASSIGNED_STACK" Bundle.steD) (by decide +kernel)) (hts (.initialized Bundle.tN) (by decide +kernel)) (hs (.isRef (.static Bundle.tN "UNASSIGNED_STACK" Bundle.steD)) (by decide +kernel)) hA
  · exact vx_Zqof (hts (.laysStatic Bundle.tN "SUPPRESSED_SENTINEL" Bundle.listD) (by decide +kernel)) (hts (.initialized Bundle.tN) (by decide +kernel)) (hs (.isRef (.static Bundle.tN "SUPPRESSED_SENTINEL" Bundle.listD)) (by decide +kernel)) hA
  · have e : aK 2000 = fa := by rw [eK]; rfl
    rw [e]; exact hv
  · exact va_Zof (hts (.laysStatic RJ0 "COMPACT_STRINGS" "Z") (by decide +kernel)) (hts (.initialized RJ0) (by decide +kernel)) (va_eqt (hs (.eq (.static RJ0 "COMPACT_STRINGS" "Z") (.int 1)) (by decide +kernel))) hA
  · exact va_Nw.of rfl (hts _ ((by decide +kernel : ∀ y ∈ oj_decls, Cond.declares y ∈ lw_tbl) y hy))
  · rw [eK]
    show (if 1000 + i < 1000 then a1 (1000 + i) else if 1000 + i < 2000 then a2 (1000 + i - 1000) else _) = a2 i
    rw [if_neg (by omega), if_pos (by omega), Nat.add_sub_cancel_left]
  · exact va_AO.of (hts (.arrayOver (.object RX2)) (by decide +kernel))
  · have e : aK 3000 = d1 := by rw [eK]; rfl
    rw [e]; exact va_Zof (hts (.laysStatic RJ6 "DigitOnes" "[B") (by decide +kernel)) (hts (.initialized RJ6) (by decide +kernel)) u1 hA
  · have e : aK 3000 = d1 := by rw [eK]; rfl
    rw [e]; exact y1
  · have e : aK 3001 = d2 := by rw [eK]; rfl
    rw [e]; exact va_Zof (hts (.laysStatic RJ6 "DigitTens" "[B") (by decide +kernel)) (hts (.initialized RJ6) (by decide +kernel)) u2 hA
  · have e : aK 3001 = d2 := by rw [eK]; rfl
    rw [e]; exact y2
