/-! calls -/
def oj_beq (c1 c2 : Cond) : Bool := match c1, c2 with
  | .code y b l r, .code y' b' l' r' => decide (y = y') && ((b.data.toList == b'.data.toList) && (decide (l = l') && decide (r = r')))
  | .codeWith y b l r hh, .codeWith y' b' l' r' hh' => decide (y = y') && ((b.data.toList == b'.data.toList) && (decide (l = l') && (decide (r = r') && decide (hh = hh'))))
  | _, _ => false
theorem oj_byteq {b b' : ByteArray} (h : (b.data.toList == b'.data.toList) = true) : b = b' := by
  have h1 : b.data.toList = b'.data.toList := eq_of_beq h
  obtain ⟨⟨l⟩⟩ := b
  obtain ⟨⟨l'⟩⟩ := b'
  cases h1
  rfl
theorem oj_beq_eq {c1 c2 : Cond} (h : oj_beq c1 c2 = true) : c1 = c2 := by
  unfold oj_beq at h
  split at h
  · simp only [Bool.and_eq_true, decide_eq_true_eq] at h
    obtain ⟨h1, h2, h3, h4⟩ := h
    rw [h1, oj_byteq h2, h3, h4]
  · simp only [Bool.and_eq_true, decide_eq_true_eq] at h
    obtain ⟨h1, h2, h3, h4, h5⟩ := h
    rw [h1, oj_byteq h2, h3, h4, h5]
  · cases h
def oj_cwAt (i : Nat) (μ : MI) : Bool := match lw_tbl[i]? with
  | some w => oj_beq w (oj_cw μ)
  | none => false
theorem oj_cwAt_eq {i : Nat} {μ : MI} (h : oj_cwAt i μ = true) : lw_tbl[i]? = some (oj_cw μ) := by
  unfold oj_cwAt at h
  split at h
  · rename_i w hw
    rw [hw, oj_beq_eq h]
  · cases h
def oj_cl (key : Nat) : Option (Nat × MI) := bif Nat.ble 8192 key then none else oj_ctab key
def oj_chkC (key : Nat) (q : Nat × MI) (ix : List Nat) (na : Nat) : Bool :=
  decide ((mY q.2).cls ≠ "java/lang/invoke/MethodHandle") && (decide ((mY q.2).cls ≠ "java/lang/invoke/VarHandle") && (decide ((parseMethodDescriptor (mY q.2).desc).map (fun d => d.parameters.length) = some na) && (decide (mL q.2 ≤ 21) && (decide ((mY q.2).cls = oj_cls (mO q.2)) && (match q.1, ix with
  | 0, [i0, i1, i2, i3, i4] => decide (lw_tbl[i0]? = some (.methodLink (oj_cls (key / 1024)) (key % 1024) (mY q.2))) && (decide (lw_tbl[i1]? = some (.instanceMethod (mY q.2))) && (decide (lw_tbl[i2]? = some (.selects (mY q.2).cls (mY q.2) (mY q.2))) && (decide (lw_tbl[i3]? = some (.initialized (mY q.2).cls)) && (oj_cwAt i4 q.2 && decide (mH q.2 = [])))))
  | 1, [i0, i1, i2, i3] => decide (lw_tbl[i0]? = some (.methodLink (oj_cls (key / 1024)) (key % 1024) (mY q.2))) && (decide (lw_tbl[i1]? = some (.static (mY q.2))) && (decide (lw_tbl[i2]? = some (.initialized (mY q.2).cls)) && oj_cwAt i3 q.2))
  | 2, [i0, i1, i2, i3] => decide (lw_tbl[i0]? = some (.methodLink (oj_cls (key / 1024)) (key % 1024) (mY q.2))) && (decide (lw_tbl[i1]? = some (.instanceMethod (mY q.2))) && (decide (lw_tbl[i2]? = some (.initialized (mY q.2).cls)) && (oj_cwAt i3 q.2 && (decide (mH q.2 = []) && decide ((mY q.2).name = "<init>")))))
  | 3, [i1, i2, i3] => oj_nests.any (fun z => decide (z.1 = oj_cls (key / 1024) ∧ z.2.1 = key % 1024 ∧ z.2.2.1 = mY q.2)) && (decide (lw_tbl[i1]? = some (.static (mY q.2))) && (decide (lw_tbl[i2]? = some (.initialized (mY q.2).cls)) && (oj_cwAt i3 q.2 && decide (mH q.2 = []))))
  | 4, [i1, i2, i3] => oj_nests.any (fun z => decide (z.1 = oj_cls (key / 1024) ∧ z.2.1 = key % 1024 ∧ z.2.2.1 = mY q.2)) && (decide (lw_tbl[i1]? = some (.instanceMethod (mY q.2))) && (decide (lw_tbl[i2]? = some (.initialized (mY q.2).cls)) && (oj_cwAt i3 q.2 && (decide (mH q.2 = []) && decide ((mY q.2).name = "<init>")))))
  | _, _ => false)))))
def oj_chkK (key : Nat) : Bool := match oj_ctab key with
  | none => true
  | some q => (match oj_cix key, oj_na key with | some ix, some na => oj_chkC key q ix na | _, _ => false)
set_option maxRecDepth 100000 in
theorem oj_ck_0 : (List.range 16).all (fun j => oj_chkK (16 * 0 + j)) = true := by decide +kernel
set_option maxRecDepth 100000 in
theorem oj_ck_1 : (List.range 16).all (fun j => oj_chkK (16 * 1 + j)) = true := by decide +kernel
set_option maxRecDepth 100000 in
theorem oj_ck_2 : (List.range 16).all (fun j => oj_chkK (16 * 2 + j)) = true := by decide +kernel
set_option maxRecDepth 100000 in
theorem oj_ck_3 : (List.range 16).all (fun j => oj_chkK (16 * 3 + j)) = true := by decide +kernel
set_option maxRecDepth 100000 in
theorem oj_ck_4 : (List.range 16).all (fun j => oj_chkK (16 * 4 + j)) = true := by decide +kernel
set_option maxRecDepth 100000 in
theorem oj_ck_5 : (List.range 16).all (fun j => oj_chkK (16 * 5 + j)) = true := by decide +kernel
set_option maxRecDepth 100000 in
theorem oj_ck_6 : (List.range 16).all (fun j => oj_chkK (16 * 6 + j)) = true := by decide +kernel
set_option maxRecDepth 100000 in
theorem oj_ck_7 : (List.range 16).all (fun j => oj_chkK (16 * 7 + j)) = true := by decide +kernel
set_option maxRecDepth 100000 in
theorem oj_ck_8 : (List.range 16).all (fun j => oj_chkK (16 * 8 + j)) = true := by decide +kernel
set_option maxRecDepth 100000 in
theorem oj_ck_9 : (List.range 16).all (fun j => oj_chkK (16 * 9 + j)) = true := by decide +kernel
set_option maxRecDepth 100000 in
theorem oj_ck_10 : (List.range 16).all (fun j => oj_chkK (16 * 10 + j)) = true := by decide +kernel
set_option maxRecDepth 100000 in
theorem oj_ck_11 : (List.range 16).all (fun j => oj_chkK (16 * 11 + j)) = true := by decide +kernel
set_option maxRecDepth 100000 in
theorem oj_ck_12 : (List.range 16).all (fun j => oj_chkK (16 * 12 + j)) = true := by decide +kernel
set_option maxRecDepth 100000 in
theorem oj_ck_13 : (List.range 16).all (fun j => oj_chkK (16 * 13 + j)) = true := by decide +kernel
set_option maxRecDepth 100000 in
theorem oj_ck_14 : (List.range 16).all (fun j => oj_chkK (16 * 14 + j)) = true := by decide +kernel
set_option maxRecDepth 100000 in
theorem oj_ck_15 : (List.range 16).all (fun j => oj_chkK (16 * 15 + j)) = true := by decide +kernel
set_option maxRecDepth 100000 in
theorem oj_ck_16 : (List.range 16).all (fun j => oj_chkK (16 * 16 + j)) = true := by decide +kernel
set_option maxRecDepth 100000 in
theorem oj_ck_17 : (List.range 16).all (fun j => oj_chkK (16 * 17 + j)) = true := by decide +kernel
set_option maxRecDepth 100000 in
theorem oj_ck_18 : (List.range 16).all (fun j => oj_chkK (16 * 18 + j)) = true := by decide +kernel
set_option maxRecDepth 100000 in
theorem oj_ck_19 : (List.range 16).all (fun j => oj_chkK (16 * 19 + j)) = true := by decide +kernel
set_option maxRecDepth 100000 in
theorem oj_ck_20 : (List.range 16).all (fun j => oj_chkK (16 * 20 + j)) = true := by decide +kernel
set_option maxRecDepth 100000 in
theorem oj_ck_21 : (List.range 16).all (fun j => oj_chkK (16 * 21 + j)) = true := by decide +kernel
set_option maxRecDepth 100000 in
theorem oj_ck_22 : (List.range 16).all (fun j => oj_chkK (16 * 22 + j)) = true := by decide +kernel
set_option maxRecDepth 100000 in
theorem oj_ck_23 : (List.range 16).all (fun j => oj_chkK (16 * 23 + j)) = true := by decide +kernel
set_option maxRecDepth 100000 in
theorem oj_ck_24 : (List.range 16).all (fun j => oj_chkK (16 * 24 + j)) = true := by decide +kernel
set_option maxRecDepth 100000 in
theorem oj_ck_25 : (List.range 16).all (fun j => oj_chkK (16 * 25 + j)) = true := by decide +kernel
set_option maxRecDepth 100000 in
theorem oj_ck_26 : (List.range 16).all (fun j => oj_chkK (16 * 26 + j)) = true := by decide +kernel
set_option maxRecDepth 100000 in
theorem oj_ck_27 : (List.range 16).all (fun j => oj_chkK (16 * 27 + j)) = true := by decide +kernel
set_option maxRecDepth 100000 in
theorem oj_ck_28 : (List.range 16).all (fun j => oj_chkK (16 * 28 + j)) = true := by decide +kernel
set_option maxRecDepth 100000 in
theorem oj_ck_29 : (List.range 16).all (fun j => oj_chkK (16 * 29 + j)) = true := by decide +kernel
set_option maxRecDepth 100000 in
theorem oj_ck_30 : (List.range 16).all (fun j => oj_chkK (16 * 30 + j)) = true := by decide +kernel
set_option maxRecDepth 100000 in
theorem oj_ck_31 : (List.range 16).all (fun j => oj_chkK (16 * 31 + j)) = true := by decide +kernel
set_option maxRecDepth 100000 in
theorem oj_ck_32 : (List.range 16).all (fun j => oj_chkK (16 * 32 + j)) = true := by decide +kernel
set_option maxRecDepth 100000 in
theorem oj_ck_33 : (List.range 16).all (fun j => oj_chkK (16 * 33 + j)) = true := by decide +kernel
set_option maxRecDepth 100000 in
theorem oj_ck_34 : (List.range 16).all (fun j => oj_chkK (16 * 34 + j)) = true := by decide +kernel
set_option maxRecDepth 100000 in
theorem oj_ck_35 : (List.range 16).all (fun j => oj_chkK (16 * 35 + j)) = true := by decide +kernel
set_option maxRecDepth 100000 in
theorem oj_ck_36 : (List.range 16).all (fun j => oj_chkK (16 * 36 + j)) = true := by decide +kernel
set_option maxRecDepth 100000 in
theorem oj_ck_37 : (List.range 16).all (fun j => oj_chkK (16 * 37 + j)) = true := by decide +kernel
set_option maxRecDepth 100000 in
theorem oj_ck_38 : (List.range 16).all (fun j => oj_chkK (16 * 38 + j)) = true := by decide +kernel
set_option maxRecDepth 100000 in
theorem oj_ck_39 : (List.range 16).all (fun j => oj_chkK (16 * 39 + j)) = true := by decide +kernel
set_option maxRecDepth 100000 in
theorem oj_ck_40 : (List.range 16).all (fun j => oj_chkK (16 * 40 + j)) = true := by decide +kernel
set_option maxRecDepth 100000 in
theorem oj_ck_41 : (List.range 16).all (fun j => oj_chkK (16 * 41 + j)) = true := by decide +kernel
set_option maxRecDepth 100000 in
theorem oj_ck_42 : (List.range 16).all (fun j => oj_chkK (16 * 42 + j)) = true := by decide +kernel
set_option maxRecDepth 100000 in
theorem oj_ck_43 : (List.range 16).all (fun j => oj_chkK (16 * 43 + j)) = true := by decide +kernel
set_option maxRecDepth 100000 in
theorem oj_ck_44 : (List.range 16).all (fun j => oj_chkK (16 * 44 + j)) = true := by decide +kernel
set_option maxRecDepth 100000 in
theorem oj_ck_45 : (List.range 16).all (fun j => oj_chkK (16 * 45 + j)) = true := by decide +kernel
set_option maxRecDepth 100000 in
theorem oj_ck_46 : (List.range 16).all (fun j => oj_chkK (16 * 46 + j)) = true := by decide +kernel
set_option maxRecDepth 100000 in
theorem oj_ck_47 : (List.range 16).all (fun j => oj_chkK (16 * 47 + j)) = true := by decide +kernel
set_option maxRecDepth 100000 in
theorem oj_ck_48 : (List.range 16).all (fun j => oj_chkK (16 * 48 + j)) = true := by decide +kernel
set_option maxRecDepth 100000 in
theorem oj_ck_49 : (List.range 16).all (fun j => oj_chkK (16 * 49 + j)) = true := by decide +kernel
set_option maxRecDepth 100000 in
theorem oj_ck_50 : (List.range 16).all (fun j => oj_chkK (16 * 50 + j)) = true := by decide +kernel
set_option maxRecDepth 100000 in
theorem oj_ck_51 : (List.range 16).all (fun j => oj_chkK (16 * 51 + j)) = true := by decide +kernel
set_option maxRecDepth 100000 in
theorem oj_ck_52 : (List.range 16).all (fun j => oj_chkK (16 * 52 + j)) = true := by decide +kernel
set_option maxRecDepth 100000 in
theorem oj_ck_53 : (List.range 16).all (fun j => oj_chkK (16 * 53 + j)) = true := by decide +kernel
set_option maxRecDepth 100000 in
theorem oj_ck_54 : (List.range 16).all (fun j => oj_chkK (16 * 54 + j)) = true := by decide +kernel
set_option maxRecDepth 100000 in
theorem oj_ck_55 : (List.range 16).all (fun j => oj_chkK (16 * 55 + j)) = true := by decide +kernel
set_option maxRecDepth 100000 in
theorem oj_ck_56 : (List.range 16).all (fun j => oj_chkK (16 * 56 + j)) = true := by decide +kernel
set_option maxRecDepth 100000 in
theorem oj_ck_57 : (List.range 16).all (fun j => oj_chkK (16 * 57 + j)) = true := by decide +kernel
set_option maxRecDepth 100000 in
theorem oj_ck_58 : (List.range 16).all (fun j => oj_chkK (16 * 58 + j)) = true := by decide +kernel
set_option maxRecDepth 100000 in
theorem oj_ck_59 : (List.range 16).all (fun j => oj_chkK (16 * 59 + j)) = true := by decide +kernel
set_option maxRecDepth 100000 in
theorem oj_ck_60 : (List.range 16).all (fun j => oj_chkK (16 * 60 + j)) = true := by decide +kernel
set_option maxRecDepth 100000 in
theorem oj_ck_61 : (List.range 16).all (fun j => oj_chkK (16 * 61 + j)) = true := by decide +kernel
set_option maxRecDepth 100000 in
theorem oj_ck_62 : (List.range 16).all (fun j => oj_chkK (16 * 62 + j)) = true := by decide +kernel
set_option maxRecDepth 100000 in
theorem oj_ck_63 : (List.range 16).all (fun j => oj_chkK (16 * 63 + j)) = true := by decide +kernel
set_option maxRecDepth 100000 in
theorem oj_ck_64 : (List.range 16).all (fun j => oj_chkK (16 * 64 + j)) = true := by decide +kernel
set_option maxRecDepth 100000 in
theorem oj_ck_65 : (List.range 16).all (fun j => oj_chkK (16 * 65 + j)) = true := by decide +kernel
set_option maxRecDepth 100000 in
theorem oj_ck_66 : (List.range 16).all (fun j => oj_chkK (16 * 66 + j)) = true := by decide +kernel
set_option maxRecDepth 100000 in
theorem oj_ck_67 : (List.range 16).all (fun j => oj_chkK (16 * 67 + j)) = true := by decide +kernel
set_option maxRecDepth 100000 in
theorem oj_ck_68 : (List.range 16).all (fun j => oj_chkK (16 * 68 + j)) = true := by decide +kernel
set_option maxRecDepth 100000 in
theorem oj_ck_69 : (List.range 16).all (fun j => oj_chkK (16 * 69 + j)) = true := by decide +kernel
set_option maxRecDepth 100000 in
theorem oj_ck_70 : (List.range 16).all (fun j => oj_chkK (16 * 70 + j)) = true := by decide +kernel
set_option maxRecDepth 100000 in
theorem oj_ck_71 : (List.range 16).all (fun j => oj_chkK (16 * 71 + j)) = true := by decide +kernel
set_option maxRecDepth 100000 in
theorem oj_ck_72 : (List.range 16).all (fun j => oj_chkK (16 * 72 + j)) = true := by decide +kernel
set_option maxRecDepth 100000 in
theorem oj_ck_73 : (List.range 16).all (fun j => oj_chkK (16 * 73 + j)) = true := by decide +kernel
set_option maxRecDepth 100000 in
theorem oj_ck_74 : (List.range 16).all (fun j => oj_chkK (16 * 74 + j)) = true := by decide +kernel
set_option maxRecDepth 100000 in
theorem oj_ck_75 : (List.range 16).all (fun j => oj_chkK (16 * 75 + j)) = true := by decide +kernel
set_option maxRecDepth 100000 in
theorem oj_ck_76 : (List.range 16).all (fun j => oj_chkK (16 * 76 + j)) = true := by decide +kernel
set_option maxRecDepth 100000 in
theorem oj_ck_77 : (List.range 16).all (fun j => oj_chkK (16 * 77 + j)) = true := by decide +kernel
set_option maxRecDepth 100000 in
theorem oj_ck_78 : (List.range 16).all (fun j => oj_chkK (16 * 78 + j)) = true := by decide +kernel
set_option maxRecDepth 100000 in
theorem oj_ck_79 : (List.range 16).all (fun j => oj_chkK (16 * 79 + j)) = true := by decide +kernel
set_option maxRecDepth 100000 in
theorem oj_ck_80 : (List.range 16).all (fun j => oj_chkK (16 * 80 + j)) = true := by decide +kernel
set_option maxRecDepth 100000 in
theorem oj_ck_81 : (List.range 16).all (fun j => oj_chkK (16 * 81 + j)) = true := by decide +kernel
set_option maxRecDepth 100000 in
theorem oj_ck_82 : (List.range 16).all (fun j => oj_chkK (16 * 82 + j)) = true := by decide +kernel
set_option maxRecDepth 100000 in
theorem oj_ck_83 : (List.range 16).all (fun j => oj_chkK (16 * 83 + j)) = true := by decide +kernel
set_option maxRecDepth 100000 in
theorem oj_ck_84 : (List.range 16).all (fun j => oj_chkK (16 * 84 + j)) = true := by decide +kernel
set_option maxRecDepth 100000 in
theorem oj_ck_85 : (List.range 16).all (fun j => oj_chkK (16 * 85 + j)) = true := by decide +kernel
set_option maxRecDepth 100000 in
theorem oj_ck_86 : (List.range 16).all (fun j => oj_chkK (16 * 86 + j)) = true := by decide +kernel
set_option maxRecDepth 100000 in
theorem oj_ck_87 : (List.range 16).all (fun j => oj_chkK (16 * 87 + j)) = true := by decide +kernel
set_option maxRecDepth 100000 in
theorem oj_ck_88 : (List.range 16).all (fun j => oj_chkK (16 * 88 + j)) = true := by decide +kernel
set_option maxRecDepth 100000 in
theorem oj_ck_89 : (List.range 16).all (fun j => oj_chkK (16 * 89 + j)) = true := by decide +kernel
set_option maxRecDepth 100000 in
theorem oj_ck_90 : (List.range 16).all (fun j => oj_chkK (16 * 90 + j)) = true := by decide +kernel
set_option maxRecDepth 100000 in
theorem oj_ck_91 : (List.range 16).all (fun j => oj_chkK (16 * 91 + j)) = true := by decide +kernel
set_option maxRecDepth 100000 in
theorem oj_ck_92 : (List.range 16).all (fun j => oj_chkK (16 * 92 + j)) = true := by decide +kernel
set_option maxRecDepth 100000 in
theorem oj_ck_93 : (List.range 16).all (fun j => oj_chkK (16 * 93 + j)) = true := by decide +kernel
set_option maxRecDepth 100000 in
theorem oj_ck_94 : (List.range 16).all (fun j => oj_chkK (16 * 94 + j)) = true := by decide +kernel
set_option maxRecDepth 100000 in
theorem oj_ck_95 : (List.range 16).all (fun j => oj_chkK (16 * 95 + j)) = true := by decide +kernel
set_option maxRecDepth 100000 in
theorem oj_ck_96 : (List.range 16).all (fun j => oj_chkK (16 * 96 + j)) = true := by decide +kernel
set_option maxRecDepth 100000 in
theorem oj_ck_97 : (List.range 16).all (fun j => oj_chkK (16 * 97 + j)) = true := by decide +kernel
set_option maxRecDepth 100000 in
theorem oj_ck_98 : (List.range 16).all (fun j => oj_chkK (16 * 98 + j)) = true := by decide +kernel
set_option maxRecDepth 100000 in
theorem oj_ck_99 : (List.range 16).all (fun j => oj_chkK (16 * 99 + j)) = true := by decide +kernel
set_option maxRecDepth 100000 in
theorem oj_ck_100 : (List.range 16).all (fun j => oj_chkK (16 * 100 + j)) = true := by decide +kernel
set_option maxRecDepth 100000 in
theorem oj_ck_101 : (List.range 16).all (fun j => oj_chkK (16 * 101 + j)) = true := by decide +kernel
set_option maxRecDepth 100000 in
theorem oj_ck_102 : (List.range 16).all (fun j => oj_chkK (16 * 102 + j)) = true := by decide +kernel
set_option maxRecDepth 100000 in
theorem oj_ck_103 : (List.range 16).all (fun j => oj_chkK (16 * 103 + j)) = true := by decide +kernel
set_option maxRecDepth 100000 in
theorem oj_ck_104 : (List.range 16).all (fun j => oj_chkK (16 * 104 + j)) = true := by decide +kernel
set_option maxRecDepth 100000 in
theorem oj_ck_105 : (List.range 16).all (fun j => oj_chkK (16 * 105 + j)) = true := by decide +kernel
set_option maxRecDepth 100000 in
theorem oj_ck_106 : (List.range 16).all (fun j => oj_chkK (16 * 106 + j)) = true := by decide +kernel
set_option maxRecDepth 100000 in
theorem oj_ck_107 : (List.range 16).all (fun j => oj_chkK (16 * 107 + j)) = true := by decide +kernel
set_option maxRecDepth 100000 in
theorem oj_ck_108 : (List.range 16).all (fun j => oj_chkK (16 * 108 + j)) = true := by decide +kernel
set_option maxRecDepth 100000 in
theorem oj_ck_109 : (List.range 16).all (fun j => oj_chkK (16 * 109 + j)) = true := by decide +kernel
set_option maxRecDepth 100000 in
theorem oj_ck_110 : (List.range 16).all (fun j => oj_chkK (16 * 110 + j)) = true := by decide +kernel
set_option maxRecDepth 100000 in
theorem oj_ck_111 : (List.range 16).all (fun j => oj_chkK (16 * 111 + j)) = true := by decide +kernel
set_option maxRecDepth 100000 in
theorem oj_ck_112 : (List.range 16).all (fun j => oj_chkK (16 * 112 + j)) = true := by decide +kernel
set_option maxRecDepth 100000 in
theorem oj_ck_113 : (List.range 16).all (fun j => oj_chkK (16 * 113 + j)) = true := by decide +kernel
set_option maxRecDepth 100000 in
theorem oj_ck_114 : (List.range 16).all (fun j => oj_chkK (16 * 114 + j)) = true := by decide +kernel
set_option maxRecDepth 100000 in
theorem oj_ck_115 : (List.range 16).all (fun j => oj_chkK (16 * 115 + j)) = true := by decide +kernel
set_option maxRecDepth 100000 in
theorem oj_ck_116 : (List.range 16).all (fun j => oj_chkK (16 * 116 + j)) = true := by decide +kernel
set_option maxRecDepth 100000 in
theorem oj_ck_117 : (List.range 16).all (fun j => oj_chkK (16 * 117 + j)) = true := by decide +kernel
set_option maxRecDepth 100000 in
theorem oj_ck_118 : (List.range 16).all (fun j => oj_chkK (16 * 118 + j)) = true := by decide +kernel
set_option maxRecDepth 100000 in
theorem oj_ck_119 : (List.range 16).all (fun j => oj_chkK (16 * 119 + j)) = true := by decide +kernel
set_option maxRecDepth 100000 in
theorem oj_ck_120 : (List.range 16).all (fun j => oj_chkK (16 * 120 + j)) = true := by decide +kernel
set_option maxRecDepth 100000 in
theorem oj_ck_121 : (List.range 16).all (fun j => oj_chkK (16 * 121 + j)) = true := by decide +kernel
set_option maxRecDepth 100000 in
theorem oj_ck_122 : (List.range 16).all (fun j => oj_chkK (16 * 122 + j)) = true := by decide +kernel
set_option maxRecDepth 100000 in
theorem oj_ck_123 : (List.range 16).all (fun j => oj_chkK (16 * 123 + j)) = true := by decide +kernel
set_option maxRecDepth 100000 in
theorem oj_ck_124 : (List.range 16).all (fun j => oj_chkK (16 * 124 + j)) = true := by decide +kernel
set_option maxRecDepth 100000 in
theorem oj_ck_125 : (List.range 16).all (fun j => oj_chkK (16 * 125 + j)) = true := by decide +kernel
set_option maxRecDepth 100000 in
theorem oj_ck_126 : (List.range 16).all (fun j => oj_chkK (16 * 126 + j)) = true := by decide +kernel
set_option maxRecDepth 100000 in
theorem oj_ck_127 : (List.range 16).all (fun j => oj_chkK (16 * 127 + j)) = true := by decide +kernel
set_option maxRecDepth 100000 in
theorem oj_ck_128 : (List.range 16).all (fun j => oj_chkK (16 * 128 + j)) = true := by decide +kernel
set_option maxRecDepth 100000 in
theorem oj_ck_129 : (List.range 16).all (fun j => oj_chkK (16 * 129 + j)) = true := by decide +kernel
set_option maxRecDepth 100000 in
theorem oj_ck_130 : (List.range 16).all (fun j => oj_chkK (16 * 130 + j)) = true := by decide +kernel
set_option maxRecDepth 100000 in
theorem oj_ck_131 : (List.range 16).all (fun j => oj_chkK (16 * 131 + j)) = true := by decide +kernel
set_option maxRecDepth 100000 in
theorem oj_ck_132 : (List.range 16).all (fun j => oj_chkK (16 * 132 + j)) = true := by decide +kernel
set_option maxRecDepth 100000 in
theorem oj_ck_133 : (List.range 16).all (fun j => oj_chkK (16 * 133 + j)) = true := by decide +kernel
set_option maxRecDepth 100000 in
theorem oj_ck_134 : (List.range 16).all (fun j => oj_chkK (16 * 134 + j)) = true := by decide +kernel
set_option maxRecDepth 100000 in
theorem oj_ck_135 : (List.range 16).all (fun j => oj_chkK (16 * 135 + j)) = true := by decide +kernel
set_option maxRecDepth 100000 in
theorem oj_ck_136 : (List.range 16).all (fun j => oj_chkK (16 * 136 + j)) = true := by decide +kernel
set_option maxRecDepth 100000 in
theorem oj_ck_137 : (List.range 16).all (fun j => oj_chkK (16 * 137 + j)) = true := by decide +kernel
set_option maxRecDepth 100000 in
theorem oj_ck_138 : (List.range 16).all (fun j => oj_chkK (16 * 138 + j)) = true := by decide +kernel
set_option maxRecDepth 100000 in
theorem oj_ck_139 : (List.range 16).all (fun j => oj_chkK (16 * 139 + j)) = true := by decide +kernel
set_option maxRecDepth 100000 in
theorem oj_ck_140 : (List.range 16).all (fun j => oj_chkK (16 * 140 + j)) = true := by decide +kernel
set_option maxRecDepth 100000 in
theorem oj_ck_141 : (List.range 16).all (fun j => oj_chkK (16 * 141 + j)) = true := by decide +kernel
set_option maxRecDepth 100000 in
theorem oj_ck_142 : (List.range 16).all (fun j => oj_chkK (16 * 142 + j)) = true := by decide +kernel
set_option maxRecDepth 100000 in
theorem oj_ck_143 : (List.range 16).all (fun j => oj_chkK (16 * 143 + j)) = true := by decide +kernel
set_option maxRecDepth 100000 in
theorem oj_ck_144 : (List.range 16).all (fun j => oj_chkK (16 * 144 + j)) = true := by decide +kernel
set_option maxRecDepth 100000 in
theorem oj_ck_145 : (List.range 16).all (fun j => oj_chkK (16 * 145 + j)) = true := by decide +kernel
set_option maxRecDepth 100000 in
theorem oj_ck_146 : (List.range 16).all (fun j => oj_chkK (16 * 146 + j)) = true := by decide +kernel
set_option maxRecDepth 100000 in
theorem oj_ck_147 : (List.range 16).all (fun j => oj_chkK (16 * 147 + j)) = true := by decide +kernel
set_option maxRecDepth 100000 in
theorem oj_ck_148 : (List.range 16).all (fun j => oj_chkK (16 * 148 + j)) = true := by decide +kernel
set_option maxRecDepth 100000 in
theorem oj_ck_149 : (List.range 16).all (fun j => oj_chkK (16 * 149 + j)) = true := by decide +kernel
set_option maxRecDepth 100000 in
theorem oj_ck_150 : (List.range 16).all (fun j => oj_chkK (16 * 150 + j)) = true := by decide +kernel
set_option maxRecDepth 100000 in
theorem oj_ck_151 : (List.range 16).all (fun j => oj_chkK (16 * 151 + j)) = true := by decide +kernel
set_option maxRecDepth 100000 in
theorem oj_ck_152 : (List.range 16).all (fun j => oj_chkK (16 * 152 + j)) = true := by decide +kernel
set_option maxRecDepth 100000 in
theorem oj_ck_153 : (List.range 16).all (fun j => oj_chkK (16 * 153 + j)) = true := by decide +kernel
set_option maxRecDepth 100000 in
theorem oj_ck_154 : (List.range 16).all (fun j => oj_chkK (16 * 154 + j)) = true := by decide +kernel
set_option maxRecDepth 100000 in
theorem oj_ck_155 : (List.range 16).all (fun j => oj_chkK (16 * 155 + j)) = true := by decide +kernel
set_option maxRecDepth 100000 in
theorem oj_ck_156 : (List.range 16).all (fun j => oj_chkK (16 * 156 + j)) = true := by decide +kernel
set_option maxRecDepth 100000 in
theorem oj_ck_157 : (List.range 16).all (fun j => oj_chkK (16 * 157 + j)) = true := by decide +kernel
set_option maxRecDepth 100000 in
theorem oj_ck_158 : (List.range 16).all (fun j => oj_chkK (16 * 158 + j)) = true := by decide +kernel
set_option maxRecDepth 100000 in
theorem oj_ck_159 : (List.range 16).all (fun j => oj_chkK (16 * 159 + j)) = true := by decide +kernel
set_option maxRecDepth 100000 in
theorem oj_ck_160 : (List.range 16).all (fun j => oj_chkK (16 * 160 + j)) = true := by decide +kernel
set_option maxRecDepth 100000 in
theorem oj_ck_161 : (List.range 16).all (fun j => oj_chkK (16 * 161 + j)) = true := by decide +kernel
set_option maxRecDepth 100000 in
theorem oj_ck_162 : (List.range 16).all (fun j => oj_chkK (16 * 162 + j)) = true := by decide +kernel
set_option maxRecDepth 100000 in
theorem oj_ck_163 : (List.range 16).all (fun j => oj_chkK (16 * 163 + j)) = true := by decide +kernel
set_option maxRecDepth 100000 in
theorem oj_ck_164 : (List.range 16).all (fun j => oj_chkK (16 * 164 + j)) = true := by decide +kernel
set_option maxRecDepth 100000 in
theorem oj_ck_165 : (List.range 16).all (fun j => oj_chkK (16 * 165 + j)) = true := by decide +kernel
set_option maxRecDepth 100000 in
theorem oj_ck_166 : (List.range 16).all (fun j => oj_chkK (16 * 166 + j)) = true := by decide +kernel
set_option maxRecDepth 100000 in
theorem oj_ck_167 : (List.range 16).all (fun j => oj_chkK (16 * 167 + j)) = true := by decide +kernel
set_option maxRecDepth 100000 in
theorem oj_ck_168 : (List.range 16).all (fun j => oj_chkK (16 * 168 + j)) = true := by decide +kernel
set_option maxRecDepth 100000 in
theorem oj_ck_169 : (List.range 16).all (fun j => oj_chkK (16 * 169 + j)) = true := by decide +kernel
set_option maxRecDepth 100000 in
theorem oj_ck_170 : (List.range 16).all (fun j => oj_chkK (16 * 170 + j)) = true := by decide +kernel
set_option maxRecDepth 100000 in
theorem oj_ck_171 : (List.range 16).all (fun j => oj_chkK (16 * 171 + j)) = true := by decide +kernel
set_option maxRecDepth 100000 in
theorem oj_ck_172 : (List.range 16).all (fun j => oj_chkK (16 * 172 + j)) = true := by decide +kernel
set_option maxRecDepth 100000 in
theorem oj_ck_173 : (List.range 16).all (fun j => oj_chkK (16 * 173 + j)) = true := by decide +kernel
set_option maxRecDepth 100000 in
theorem oj_ck_174 : (List.range 16).all (fun j => oj_chkK (16 * 174 + j)) = true := by decide +kernel
set_option maxRecDepth 100000 in
theorem oj_ck_175 : (List.range 16).all (fun j => oj_chkK (16 * 175 + j)) = true := by decide +kernel
set_option maxRecDepth 100000 in
theorem oj_ck_176 : (List.range 16).all (fun j => oj_chkK (16 * 176 + j)) = true := by decide +kernel
set_option maxRecDepth 100000 in
theorem oj_ck_177 : (List.range 16).all (fun j => oj_chkK (16 * 177 + j)) = true := by decide +kernel
set_option maxRecDepth 100000 in
theorem oj_ck_178 : (List.range 16).all (fun j => oj_chkK (16 * 178 + j)) = true := by decide +kernel
set_option maxRecDepth 100000 in
theorem oj_ck_179 : (List.range 16).all (fun j => oj_chkK (16 * 179 + j)) = true := by decide +kernel
set_option maxRecDepth 100000 in
theorem oj_ck_180 : (List.range 16).all (fun j => oj_chkK (16 * 180 + j)) = true := by decide +kernel
set_option maxRecDepth 100000 in
theorem oj_ck_181 : (List.range 16).all (fun j => oj_chkK (16 * 181 + j)) = true := by decide +kernel
set_option maxRecDepth 100000 in
theorem oj_ck_182 : (List.range 16).all (fun j => oj_chkK (16 * 182 + j)) = true := by decide +kernel
set_option maxRecDepth 100000 in
theorem oj_ck_183 : (List.range 16).all (fun j => oj_chkK (16 * 183 + j)) = true := by decide +kernel
set_option maxRecDepth 100000 in
theorem oj_ck_184 : (List.range 16).all (fun j => oj_chkK (16 * 184 + j)) = true := by decide +kernel
set_option maxRecDepth 100000 in
theorem oj_ck_185 : (List.range 16).all (fun j => oj_chkK (16 * 185 + j)) = true := by decide +kernel
set_option maxRecDepth 100000 in
theorem oj_ck_186 : (List.range 16).all (fun j => oj_chkK (16 * 186 + j)) = true := by decide +kernel
set_option maxRecDepth 100000 in
theorem oj_ck_187 : (List.range 16).all (fun j => oj_chkK (16 * 187 + j)) = true := by decide +kernel
set_option maxRecDepth 100000 in
theorem oj_ck_188 : (List.range 16).all (fun j => oj_chkK (16 * 188 + j)) = true := by decide +kernel
set_option maxRecDepth 100000 in
theorem oj_ck_189 : (List.range 16).all (fun j => oj_chkK (16 * 189 + j)) = true := by decide +kernel
set_option maxRecDepth 100000 in
theorem oj_ck_190 : (List.range 16).all (fun j => oj_chkK (16 * 190 + j)) = true := by decide +kernel
set_option maxRecDepth 100000 in
theorem oj_ck_191 : (List.range 16).all (fun j => oj_chkK (16 * 191 + j)) = true := by decide +kernel
set_option maxRecDepth 100000 in
theorem oj_ck_192 : (List.range 16).all (fun j => oj_chkK (16 * 192 + j)) = true := by decide +kernel
set_option maxRecDepth 100000 in
theorem oj_ck_193 : (List.range 16).all (fun j => oj_chkK (16 * 193 + j)) = true := by decide +kernel
set_option maxRecDepth 100000 in
theorem oj_ck_194 : (List.range 16).all (fun j => oj_chkK (16 * 194 + j)) = true := by decide +kernel
set_option maxRecDepth 100000 in
theorem oj_ck_195 : (List.range 16).all (fun j => oj_chkK (16 * 195 + j)) = true := by decide +kernel
set_option maxRecDepth 100000 in
theorem oj_ck_196 : (List.range 16).all (fun j => oj_chkK (16 * 196 + j)) = true := by decide +kernel
set_option maxRecDepth 100000 in
theorem oj_ck_197 : (List.range 16).all (fun j => oj_chkK (16 * 197 + j)) = true := by decide +kernel
set_option maxRecDepth 100000 in
theorem oj_ck_198 : (List.range 16).all (fun j => oj_chkK (16 * 198 + j)) = true := by decide +kernel
set_option maxRecDepth 100000 in
theorem oj_ck_199 : (List.range 16).all (fun j => oj_chkK (16 * 199 + j)) = true := by decide +kernel
set_option maxRecDepth 100000 in
theorem oj_ck_200 : (List.range 16).all (fun j => oj_chkK (16 * 200 + j)) = true := by decide +kernel
set_option maxRecDepth 100000 in
theorem oj_ck_201 : (List.range 16).all (fun j => oj_chkK (16 * 201 + j)) = true := by decide +kernel
set_option maxRecDepth 100000 in
theorem oj_ck_202 : (List.range 16).all (fun j => oj_chkK (16 * 202 + j)) = true := by decide +kernel
set_option maxRecDepth 100000 in
theorem oj_ck_203 : (List.range 16).all (fun j => oj_chkK (16 * 203 + j)) = true := by decide +kernel
set_option maxRecDepth 100000 in
theorem oj_ck_204 : (List.range 16).all (fun j => oj_chkK (16 * 204 + j)) = true := by decide +kernel
set_option maxRecDepth 100000 in
theorem oj_ck_205 : (List.range 16).all (fun j => oj_chkK (16 * 205 + j)) = true := by decide +kernel
set_option maxRecDepth 100000 in
theorem oj_ck_206 : (List.range 16).all (fun j => oj_chkK (16 * 206 + j)) = true := by decide +kernel
set_option maxRecDepth 100000 in
theorem oj_ck_207 : (List.range 16).all (fun j => oj_chkK (16 * 207 + j)) = true := by decide +kernel
set_option maxRecDepth 100000 in
theorem oj_ck_208 : (List.range 16).all (fun j => oj_chkK (16 * 208 + j)) = true := by decide +kernel
set_option maxRecDepth 100000 in
theorem oj_ck_209 : (List.range 16).all (fun j => oj_chkK (16 * 209 + j)) = true := by decide +kernel
set_option maxRecDepth 100000 in
theorem oj_ck_210 : (List.range 16).all (fun j => oj_chkK (16 * 210 + j)) = true := by decide +kernel
set_option maxRecDepth 100000 in
theorem oj_ck_211 : (List.range 16).all (fun j => oj_chkK (16 * 211 + j)) = true := by decide +kernel
set_option maxRecDepth 100000 in
theorem oj_ck_212 : (List.range 16).all (fun j => oj_chkK (16 * 212 + j)) = true := by decide +kernel
set_option maxRecDepth 100000 in
theorem oj_ck_213 : (List.range 16).all (fun j => oj_chkK (16 * 213 + j)) = true := by decide +kernel
set_option maxRecDepth 100000 in
theorem oj_ck_214 : (List.range 16).all (fun j => oj_chkK (16 * 214 + j)) = true := by decide +kernel
set_option maxRecDepth 100000 in
theorem oj_ck_215 : (List.range 16).all (fun j => oj_chkK (16 * 215 + j)) = true := by decide +kernel
set_option maxRecDepth 100000 in
theorem oj_ck_216 : (List.range 16).all (fun j => oj_chkK (16 * 216 + j)) = true := by decide +kernel
set_option maxRecDepth 100000 in
theorem oj_ck_217 : (List.range 16).all (fun j => oj_chkK (16 * 217 + j)) = true := by decide +kernel
set_option maxRecDepth 100000 in
theorem oj_ck_218 : (List.range 16).all (fun j => oj_chkK (16 * 218 + j)) = true := by decide +kernel
set_option maxRecDepth 100000 in
theorem oj_ck_219 : (List.range 16).all (fun j => oj_chkK (16 * 219 + j)) = true := by decide +kernel
set_option maxRecDepth 100000 in
theorem oj_ck_220 : (List.range 16).all (fun j => oj_chkK (16 * 220 + j)) = true := by decide +kernel
set_option maxRecDepth 100000 in
theorem oj_ck_221 : (List.range 16).all (fun j => oj_chkK (16 * 221 + j)) = true := by decide +kernel
set_option maxRecDepth 100000 in
theorem oj_ck_222 : (List.range 16).all (fun j => oj_chkK (16 * 222 + j)) = true := by decide +kernel
set_option maxRecDepth 100000 in
theorem oj_ck_223 : (List.range 16).all (fun j => oj_chkK (16 * 223 + j)) = true := by decide +kernel
set_option maxRecDepth 100000 in
theorem oj_ck_224 : (List.range 16).all (fun j => oj_chkK (16 * 224 + j)) = true := by decide +kernel
set_option maxRecDepth 100000 in
theorem oj_ck_225 : (List.range 16).all (fun j => oj_chkK (16 * 225 + j)) = true := by decide +kernel
set_option maxRecDepth 100000 in
theorem oj_ck_226 : (List.range 16).all (fun j => oj_chkK (16 * 226 + j)) = true := by decide +kernel
set_option maxRecDepth 100000 in
theorem oj_ck_227 : (List.range 16).all (fun j => oj_chkK (16 * 227 + j)) = true := by decide +kernel
set_option maxRecDepth 100000 in
theorem oj_ck_228 : (List.range 16).all (fun j => oj_chkK (16 * 228 + j)) = true := by decide +kernel
set_option maxRecDepth 100000 in
theorem oj_ck_229 : (List.range 16).all (fun j => oj_chkK (16 * 229 + j)) = true := by decide +kernel
set_option maxRecDepth 100000 in
theorem oj_ck_230 : (List.range 16).all (fun j => oj_chkK (16 * 230 + j)) = true := by decide +kernel
set_option maxRecDepth 100000 in
theorem oj_ck_231 : (List.range 16).all (fun j => oj_chkK (16 * 231 + j)) = true := by decide +kernel
set_option maxRecDepth 100000 in
theorem oj_ck_232 : (List.range 16).all (fun j => oj_chkK (16 * 232 + j)) = true := by decide +kernel
set_option maxRecDepth 100000 in
theorem oj_ck_233 : (List.range 16).all (fun j => oj_chkK (16 * 233 + j)) = true := by decide +kernel
set_option maxRecDepth 100000 in
theorem oj_ck_234 : (List.range 16).all (fun j => oj_chkK (16 * 234 + j)) = true := by decide +kernel
set_option maxRecDepth 100000 in
theorem oj_ck_235 : (List.range 16).all (fun j => oj_chkK (16 * 235 + j)) = true := by decide +kernel
set_option maxRecDepth 100000 in
theorem oj_ck_236 : (List.range 16).all (fun j => oj_chkK (16 * 236 + j)) = true := by decide +kernel
set_option maxRecDepth 100000 in
theorem oj_ck_237 : (List.range 16).all (fun j => oj_chkK (16 * 237 + j)) = true := by decide +kernel
set_option maxRecDepth 100000 in
theorem oj_ck_238 : (List.range 16).all (fun j => oj_chkK (16 * 238 + j)) = true := by decide +kernel
set_option maxRecDepth 100000 in
theorem oj_ck_239 : (List.range 16).all (fun j => oj_chkK (16 * 239 + j)) = true := by decide +kernel
set_option maxRecDepth 100000 in
theorem oj_ck_240 : (List.range 16).all (fun j => oj_chkK (16 * 240 + j)) = true := by decide +kernel
set_option maxRecDepth 100000 in
theorem oj_ck_241 : (List.range 16).all (fun j => oj_chkK (16 * 241 + j)) = true := by decide +kernel
set_option maxRecDepth 100000 in
theorem oj_ck_242 : (List.range 16).all (fun j => oj_chkK (16 * 242 + j)) = true := by decide +kernel
set_option maxRecDepth 100000 in
theorem oj_ck_243 : (List.range 16).all (fun j => oj_chkK (16 * 243 + j)) = true := by decide +kernel
set_option maxRecDepth 100000 in
theorem oj_ck_244 : (List.range 16).all (fun j => oj_chkK (16 * 244 + j)) = true := by decide +kernel
set_option maxRecDepth 100000 in
theorem oj_ck_245 : (List.range 16).all (fun j => oj_chkK (16 * 245 + j)) = true := by decide +kernel
set_option maxRecDepth 100000 in
theorem oj_ck_246 : (List.range 16).all (fun j => oj_chkK (16 * 246 + j)) = true := by decide +kernel
set_option maxRecDepth 100000 in
theorem oj_ck_247 : (List.range 16).all (fun j => oj_chkK (16 * 247 + j)) = true := by decide +kernel
set_option maxRecDepth 100000 in
theorem oj_ck_248 : (List.range 16).all (fun j => oj_chkK (16 * 248 + j)) = true := by decide +kernel
set_option maxRecDepth 100000 in
theorem oj_ck_249 : (List.range 16).all (fun j => oj_chkK (16 * 249 + j)) = true := by decide +kernel
set_option maxRecDepth 100000 in
theorem oj_ck_250 : (List.range 16).all (fun j => oj_chkK (16 * 250 + j)) = true := by decide +kernel
set_option maxRecDepth 100000 in
theorem oj_ck_251 : (List.range 16).all (fun j => oj_chkK (16 * 251 + j)) = true := by decide +kernel
set_option maxRecDepth 100000 in
theorem oj_ck_252 : (List.range 16).all (fun j => oj_chkK (16 * 252 + j)) = true := by decide +kernel
set_option maxRecDepth 100000 in
theorem oj_ck_253 : (List.range 16).all (fun j => oj_chkK (16 * 253 + j)) = true := by decide +kernel
set_option maxRecDepth 100000 in
theorem oj_ck_254 : (List.range 16).all (fun j => oj_chkK (16 * 254 + j)) = true := by decide +kernel
set_option maxRecDepth 100000 in
theorem oj_ck_255 : (List.range 16).all (fun j => oj_chkK (16 * 255 + j)) = true := by decide +kernel
set_option maxRecDepth 100000 in
theorem oj_ck_256 : (List.range 16).all (fun j => oj_chkK (16 * 256 + j)) = true := by decide +kernel
set_option maxRecDepth 100000 in
theorem oj_ck_257 : (List.range 16).all (fun j => oj_chkK (16 * 257 + j)) = true := by decide +kernel
set_option maxRecDepth 100000 in
theorem oj_ck_258 : (List.range 16).all (fun j => oj_chkK (16 * 258 + j)) = true := by decide +kernel
set_option maxRecDepth 100000 in
theorem oj_ck_259 : (List.range 16).all (fun j => oj_chkK (16 * 259 + j)) = true := by decide +kernel
set_option maxRecDepth 100000 in
theorem oj_ck_260 : (List.range 16).all (fun j => oj_chkK (16 * 260 + j)) = true := by decide +kernel
set_option maxRecDepth 100000 in
theorem oj_ck_261 : (List.range 16).all (fun j => oj_chkK (16 * 261 + j)) = true := by decide +kernel
set_option maxRecDepth 100000 in
theorem oj_ck_262 : (List.range 16).all (fun j => oj_chkK (16 * 262 + j)) = true := by decide +kernel
set_option maxRecDepth 100000 in
theorem oj_ck_263 : (List.range 16).all (fun j => oj_chkK (16 * 263 + j)) = true := by decide +kernel
set_option maxRecDepth 100000 in
theorem oj_ck_264 : (List.range 16).all (fun j => oj_chkK (16 * 264 + j)) = true := by decide +kernel
set_option maxRecDepth 100000 in
theorem oj_ck_265 : (List.range 16).all (fun j => oj_chkK (16 * 265 + j)) = true := by decide +kernel
set_option maxRecDepth 100000 in
theorem oj_ck_266 : (List.range 16).all (fun j => oj_chkK (16 * 266 + j)) = true := by decide +kernel
set_option maxRecDepth 100000 in
theorem oj_ck_267 : (List.range 16).all (fun j => oj_chkK (16 * 267 + j)) = true := by decide +kernel
set_option maxRecDepth 100000 in
theorem oj_ck_268 : (List.range 16).all (fun j => oj_chkK (16 * 268 + j)) = true := by decide +kernel
set_option maxRecDepth 100000 in
theorem oj_ck_269 : (List.range 16).all (fun j => oj_chkK (16 * 269 + j)) = true := by decide +kernel
set_option maxRecDepth 100000 in
theorem oj_ck_270 : (List.range 16).all (fun j => oj_chkK (16 * 270 + j)) = true := by decide +kernel
set_option maxRecDepth 100000 in
theorem oj_ck_271 : (List.range 16).all (fun j => oj_chkK (16 * 271 + j)) = true := by decide +kernel
set_option maxRecDepth 100000 in
theorem oj_ck_272 : (List.range 16).all (fun j => oj_chkK (16 * 272 + j)) = true := by decide +kernel
set_option maxRecDepth 100000 in
theorem oj_ck_273 : (List.range 16).all (fun j => oj_chkK (16 * 273 + j)) = true := by decide +kernel
set_option maxRecDepth 100000 in
theorem oj_ck_274 : (List.range 16).all (fun j => oj_chkK (16 * 274 + j)) = true := by decide +kernel
set_option maxRecDepth 100000 in
theorem oj_ck_275 : (List.range 16).all (fun j => oj_chkK (16 * 275 + j)) = true := by decide +kernel
set_option maxRecDepth 100000 in
theorem oj_ck_276 : (List.range 16).all (fun j => oj_chkK (16 * 276 + j)) = true := by decide +kernel
set_option maxRecDepth 100000 in
theorem oj_ck_277 : (List.range 16).all (fun j => oj_chkK (16 * 277 + j)) = true := by decide +kernel
set_option maxRecDepth 100000 in
theorem oj_ck_278 : (List.range 16).all (fun j => oj_chkK (16 * 278 + j)) = true := by decide +kernel
set_option maxRecDepth 100000 in
theorem oj_ck_279 : (List.range 16).all (fun j => oj_chkK (16 * 279 + j)) = true := by decide +kernel
set_option maxRecDepth 100000 in
theorem oj_ck_280 : (List.range 16).all (fun j => oj_chkK (16 * 280 + j)) = true := by decide +kernel
set_option maxRecDepth 100000 in
theorem oj_ck_281 : (List.range 16).all (fun j => oj_chkK (16 * 281 + j)) = true := by decide +kernel
set_option maxRecDepth 100000 in
theorem oj_ck_282 : (List.range 16).all (fun j => oj_chkK (16 * 282 + j)) = true := by decide +kernel
set_option maxRecDepth 100000 in
theorem oj_ck_283 : (List.range 16).all (fun j => oj_chkK (16 * 283 + j)) = true := by decide +kernel
set_option maxRecDepth 100000 in
theorem oj_ck_284 : (List.range 16).all (fun j => oj_chkK (16 * 284 + j)) = true := by decide +kernel
set_option maxRecDepth 100000 in
theorem oj_ck_285 : (List.range 16).all (fun j => oj_chkK (16 * 285 + j)) = true := by decide +kernel
set_option maxRecDepth 100000 in
theorem oj_ck_286 : (List.range 16).all (fun j => oj_chkK (16 * 286 + j)) = true := by decide +kernel
set_option maxRecDepth 100000 in
theorem oj_ck_287 : (List.range 16).all (fun j => oj_chkK (16 * 287 + j)) = true := by decide +kernel
set_option maxRecDepth 100000 in
theorem oj_ck_288 : (List.range 16).all (fun j => oj_chkK (16 * 288 + j)) = true := by decide +kernel
set_option maxRecDepth 100000 in
theorem oj_ck_289 : (List.range 16).all (fun j => oj_chkK (16 * 289 + j)) = true := by decide +kernel
set_option maxRecDepth 100000 in
theorem oj_ck_290 : (List.range 16).all (fun j => oj_chkK (16 * 290 + j)) = true := by decide +kernel
set_option maxRecDepth 100000 in
theorem oj_ck_291 : (List.range 16).all (fun j => oj_chkK (16 * 291 + j)) = true := by decide +kernel
set_option maxRecDepth 100000 in
theorem oj_ck_292 : (List.range 16).all (fun j => oj_chkK (16 * 292 + j)) = true := by decide +kernel
set_option maxRecDepth 100000 in
theorem oj_ck_293 : (List.range 16).all (fun j => oj_chkK (16 * 293 + j)) = true := by decide +kernel
set_option maxRecDepth 100000 in
theorem oj_ck_294 : (List.range 16).all (fun j => oj_chkK (16 * 294 + j)) = true := by decide +kernel
set_option maxRecDepth 100000 in
theorem oj_ck_295 : (List.range 16).all (fun j => oj_chkK (16 * 295 + j)) = true := by decide +kernel
set_option maxRecDepth 100000 in
theorem oj_ck_296 : (List.range 16).all (fun j => oj_chkK (16 * 296 + j)) = true := by decide +kernel
set_option maxRecDepth 100000 in
theorem oj_ck_297 : (List.range 16).all (fun j => oj_chkK (16 * 297 + j)) = true := by decide +kernel
set_option maxRecDepth 100000 in
theorem oj_ck_298 : (List.range 16).all (fun j => oj_chkK (16 * 298 + j)) = true := by decide +kernel
set_option maxRecDepth 100000 in
theorem oj_ck_299 : (List.range 16).all (fun j => oj_chkK (16 * 299 + j)) = true := by decide +kernel
set_option maxRecDepth 100000 in
theorem oj_ck_300 : (List.range 16).all (fun j => oj_chkK (16 * 300 + j)) = true := by decide +kernel
set_option maxRecDepth 100000 in
theorem oj_ck_301 : (List.range 16).all (fun j => oj_chkK (16 * 301 + j)) = true := by decide +kernel
set_option maxRecDepth 100000 in
theorem oj_ck_302 : (List.range 16).all (fun j => oj_chkK (16 * 302 + j)) = true := by decide +kernel
set_option maxRecDepth 100000 in
theorem oj_ck_303 : (List.range 16).all (fun j => oj_chkK (16 * 303 + j)) = true := by decide +kernel
set_option maxRecDepth 100000 in
theorem oj_ck_304 : (List.range 16).all (fun j => oj_chkK (16 * 304 + j)) = true := by decide +kernel
set_option maxRecDepth 100000 in
theorem oj_ck_305 : (List.range 16).all (fun j => oj_chkK (16 * 305 + j)) = true := by decide +kernel
set_option maxRecDepth 100000 in
theorem oj_ck_306 : (List.range 16).all (fun j => oj_chkK (16 * 306 + j)) = true := by decide +kernel
set_option maxRecDepth 100000 in
theorem oj_ck_307 : (List.range 16).all (fun j => oj_chkK (16 * 307 + j)) = true := by decide +kernel
set_option maxRecDepth 100000 in
theorem oj_ck_308 : (List.range 16).all (fun j => oj_chkK (16 * 308 + j)) = true := by decide +kernel
set_option maxRecDepth 100000 in
theorem oj_ck_309 : (List.range 16).all (fun j => oj_chkK (16 * 309 + j)) = true := by decide +kernel
set_option maxRecDepth 100000 in
theorem oj_ck_310 : (List.range 16).all (fun j => oj_chkK (16 * 310 + j)) = true := by decide +kernel
set_option maxRecDepth 100000 in
theorem oj_ck_311 : (List.range 16).all (fun j => oj_chkK (16 * 311 + j)) = true := by decide +kernel
set_option maxRecDepth 100000 in
theorem oj_ck_312 : (List.range 16).all (fun j => oj_chkK (16 * 312 + j)) = true := by decide +kernel
set_option maxRecDepth 100000 in
theorem oj_ck_313 : (List.range 16).all (fun j => oj_chkK (16 * 313 + j)) = true := by decide +kernel
set_option maxRecDepth 100000 in
theorem oj_ck_314 : (List.range 16).all (fun j => oj_chkK (16 * 314 + j)) = true := by decide +kernel
set_option maxRecDepth 100000 in
theorem oj_ck_315 : (List.range 16).all (fun j => oj_chkK (16 * 315 + j)) = true := by decide +kernel
set_option maxRecDepth 100000 in
theorem oj_ck_316 : (List.range 16).all (fun j => oj_chkK (16 * 316 + j)) = true := by decide +kernel
set_option maxRecDepth 100000 in
theorem oj_ck_317 : (List.range 16).all (fun j => oj_chkK (16 * 317 + j)) = true := by decide +kernel
set_option maxRecDepth 100000 in
theorem oj_ck_318 : (List.range 16).all (fun j => oj_chkK (16 * 318 + j)) = true := by decide +kernel
set_option maxRecDepth 100000 in
theorem oj_ck_319 : (List.range 16).all (fun j => oj_chkK (16 * 319 + j)) = true := by decide +kernel
set_option maxRecDepth 100000 in
theorem oj_ck_320 : (List.range 16).all (fun j => oj_chkK (16 * 320 + j)) = true := by decide +kernel
set_option maxRecDepth 100000 in
theorem oj_ck_321 : (List.range 16).all (fun j => oj_chkK (16 * 321 + j)) = true := by decide +kernel
set_option maxRecDepth 100000 in
theorem oj_ck_322 : (List.range 16).all (fun j => oj_chkK (16 * 322 + j)) = true := by decide +kernel
set_option maxRecDepth 100000 in
theorem oj_ck_323 : (List.range 16).all (fun j => oj_chkK (16 * 323 + j)) = true := by decide +kernel
set_option maxRecDepth 100000 in
theorem oj_ck_324 : (List.range 16).all (fun j => oj_chkK (16 * 324 + j)) = true := by decide +kernel
set_option maxRecDepth 100000 in
theorem oj_ck_325 : (List.range 16).all (fun j => oj_chkK (16 * 325 + j)) = true := by decide +kernel
set_option maxRecDepth 100000 in
theorem oj_ck_326 : (List.range 16).all (fun j => oj_chkK (16 * 326 + j)) = true := by decide +kernel
set_option maxRecDepth 100000 in
theorem oj_ck_327 : (List.range 16).all (fun j => oj_chkK (16 * 327 + j)) = true := by decide +kernel
set_option maxRecDepth 100000 in
theorem oj_ck_328 : (List.range 16).all (fun j => oj_chkK (16 * 328 + j)) = true := by decide +kernel
set_option maxRecDepth 100000 in
theorem oj_ck_329 : (List.range 16).all (fun j => oj_chkK (16 * 329 + j)) = true := by decide +kernel
set_option maxRecDepth 100000 in
theorem oj_ck_330 : (List.range 16).all (fun j => oj_chkK (16 * 330 + j)) = true := by decide +kernel
set_option maxRecDepth 100000 in
theorem oj_ck_331 : (List.range 16).all (fun j => oj_chkK (16 * 331 + j)) = true := by decide +kernel
set_option maxRecDepth 100000 in
theorem oj_ck_332 : (List.range 16).all (fun j => oj_chkK (16 * 332 + j)) = true := by decide +kernel
set_option maxRecDepth 100000 in
theorem oj_ck_333 : (List.range 16).all (fun j => oj_chkK (16 * 333 + j)) = true := by decide +kernel
set_option maxRecDepth 100000 in
theorem oj_ck_334 : (List.range 16).all (fun j => oj_chkK (16 * 334 + j)) = true := by decide +kernel
set_option maxRecDepth 100000 in
theorem oj_ck_335 : (List.range 16).all (fun j => oj_chkK (16 * 335 + j)) = true := by decide +kernel
set_option maxRecDepth 100000 in
theorem oj_ck_336 : (List.range 16).all (fun j => oj_chkK (16 * 336 + j)) = true := by decide +kernel
set_option maxRecDepth 100000 in
theorem oj_ck_337 : (List.range 16).all (fun j => oj_chkK (16 * 337 + j)) = true := by decide +kernel
set_option maxRecDepth 100000 in
theorem oj_ck_338 : (List.range 16).all (fun j => oj_chkK (16 * 338 + j)) = true := by decide +kernel
set_option maxRecDepth 100000 in
theorem oj_ck_339 : (List.range 16).all (fun j => oj_chkK (16 * 339 + j)) = true := by decide +kernel
set_option maxRecDepth 100000 in
theorem oj_ck_340 : (List.range 16).all (fun j => oj_chkK (16 * 340 + j)) = true := by decide +kernel
set_option maxRecDepth 100000 in
theorem oj_ck_341 : (List.range 16).all (fun j => oj_chkK (16 * 341 + j)) = true := by decide +kernel
set_option maxRecDepth 100000 in
theorem oj_ck_342 : (List.range 16).all (fun j => oj_chkK (16 * 342 + j)) = true := by decide +kernel
set_option maxRecDepth 100000 in
theorem oj_ck_343 : (List.range 16).all (fun j => oj_chkK (16 * 343 + j)) = true := by decide +kernel
set_option maxRecDepth 100000 in
theorem oj_ck_344 : (List.range 16).all (fun j => oj_chkK (16 * 344 + j)) = true := by decide +kernel
set_option maxRecDepth 100000 in
theorem oj_ck_345 : (List.range 16).all (fun j => oj_chkK (16 * 345 + j)) = true := by decide +kernel
set_option maxRecDepth 100000 in
theorem oj_ck_346 : (List.range 16).all (fun j => oj_chkK (16 * 346 + j)) = true := by decide +kernel
set_option maxRecDepth 100000 in
theorem oj_ck_347 : (List.range 16).all (fun j => oj_chkK (16 * 347 + j)) = true := by decide +kernel
set_option maxRecDepth 100000 in
theorem oj_ck_348 : (List.range 16).all (fun j => oj_chkK (16 * 348 + j)) = true := by decide +kernel
set_option maxRecDepth 100000 in
theorem oj_ck_349 : (List.range 16).all (fun j => oj_chkK (16 * 349 + j)) = true := by decide +kernel
set_option maxRecDepth 100000 in
theorem oj_ck_350 : (List.range 16).all (fun j => oj_chkK (16 * 350 + j)) = true := by decide +kernel
set_option maxRecDepth 100000 in
theorem oj_ck_351 : (List.range 16).all (fun j => oj_chkK (16 * 351 + j)) = true := by decide +kernel
set_option maxRecDepth 100000 in
theorem oj_ck_352 : (List.range 16).all (fun j => oj_chkK (16 * 352 + j)) = true := by decide +kernel
set_option maxRecDepth 100000 in
theorem oj_ck_353 : (List.range 16).all (fun j => oj_chkK (16 * 353 + j)) = true := by decide +kernel
set_option maxRecDepth 100000 in
theorem oj_ck_354 : (List.range 16).all (fun j => oj_chkK (16 * 354 + j)) = true := by decide +kernel
set_option maxRecDepth 100000 in
theorem oj_ck_355 : (List.range 16).all (fun j => oj_chkK (16 * 355 + j)) = true := by decide +kernel
set_option maxRecDepth 100000 in
theorem oj_ck_356 : (List.range 16).all (fun j => oj_chkK (16 * 356 + j)) = true := by decide +kernel
set_option maxRecDepth 100000 in
theorem oj_ck_357 : (List.range 16).all (fun j => oj_chkK (16 * 357 + j)) = true := by decide +kernel
set_option maxRecDepth 100000 in
theorem oj_ck_358 : (List.range 16).all (fun j => oj_chkK (16 * 358 + j)) = true := by decide +kernel
set_option maxRecDepth 100000 in
theorem oj_ck_359 : (List.range 16).all (fun j => oj_chkK (16 * 359 + j)) = true := by decide +kernel
set_option maxRecDepth 100000 in
theorem oj_ck_360 : (List.range 16).all (fun j => oj_chkK (16 * 360 + j)) = true := by decide +kernel
set_option maxRecDepth 100000 in
theorem oj_ck_361 : (List.range 16).all (fun j => oj_chkK (16 * 361 + j)) = true := by decide +kernel
set_option maxRecDepth 100000 in
theorem oj_ck_362 : (List.range 16).all (fun j => oj_chkK (16 * 362 + j)) = true := by decide +kernel
set_option maxRecDepth 100000 in
theorem oj_ck_363 : (List.range 16).all (fun j => oj_chkK (16 * 363 + j)) = true := by decide +kernel
set_option maxRecDepth 100000 in
theorem oj_ck_364 : (List.range 16).all (fun j => oj_chkK (16 * 364 + j)) = true := by decide +kernel
set_option maxRecDepth 100000 in
theorem oj_ck_365 : (List.range 16).all (fun j => oj_chkK (16 * 365 + j)) = true := by decide +kernel
set_option maxRecDepth 100000 in
theorem oj_ck_366 : (List.range 16).all (fun j => oj_chkK (16 * 366 + j)) = true := by decide +kernel
set_option maxRecDepth 100000 in
theorem oj_ck_367 : (List.range 16).all (fun j => oj_chkK (16 * 367 + j)) = true := by decide +kernel
set_option maxRecDepth 100000 in
theorem oj_ck_368 : (List.range 16).all (fun j => oj_chkK (16 * 368 + j)) = true := by decide +kernel
set_option maxRecDepth 100000 in
theorem oj_ck_369 : (List.range 16).all (fun j => oj_chkK (16 * 369 + j)) = true := by decide +kernel
set_option maxRecDepth 100000 in
theorem oj_ck_370 : (List.range 16).all (fun j => oj_chkK (16 * 370 + j)) = true := by decide +kernel
set_option maxRecDepth 100000 in
theorem oj_ck_371 : (List.range 16).all (fun j => oj_chkK (16 * 371 + j)) = true := by decide +kernel
set_option maxRecDepth 100000 in
theorem oj_ck_372 : (List.range 16).all (fun j => oj_chkK (16 * 372 + j)) = true := by decide +kernel
set_option maxRecDepth 100000 in
theorem oj_ck_373 : (List.range 16).all (fun j => oj_chkK (16 * 373 + j)) = true := by decide +kernel
set_option maxRecDepth 100000 in
theorem oj_ck_374 : (List.range 16).all (fun j => oj_chkK (16 * 374 + j)) = true := by decide +kernel
set_option maxRecDepth 100000 in
theorem oj_ck_375 : (List.range 16).all (fun j => oj_chkK (16 * 375 + j)) = true := by decide +kernel
set_option maxRecDepth 100000 in
theorem oj_ck_376 : (List.range 16).all (fun j => oj_chkK (16 * 376 + j)) = true := by decide +kernel
set_option maxRecDepth 100000 in
theorem oj_ck_377 : (List.range 16).all (fun j => oj_chkK (16 * 377 + j)) = true := by decide +kernel
set_option maxRecDepth 100000 in
theorem oj_ck_378 : (List.range 16).all (fun j => oj_chkK (16 * 378 + j)) = true := by decide +kernel
set_option maxRecDepth 100000 in
theorem oj_ck_379 : (List.range 16).all (fun j => oj_chkK (16 * 379 + j)) = true := by decide +kernel
set_option maxRecDepth 100000 in
theorem oj_ck_380 : (List.range 16).all (fun j => oj_chkK (16 * 380 + j)) = true := by decide +kernel
set_option maxRecDepth 100000 in
theorem oj_ck_381 : (List.range 16).all (fun j => oj_chkK (16 * 381 + j)) = true := by decide +kernel
set_option maxRecDepth 100000 in
theorem oj_ck_382 : (List.range 16).all (fun j => oj_chkK (16 * 382 + j)) = true := by decide +kernel
set_option maxRecDepth 100000 in
theorem oj_ck_383 : (List.range 16).all (fun j => oj_chkK (16 * 383 + j)) = true := by decide +kernel
set_option maxRecDepth 100000 in
theorem oj_ck_384 : (List.range 16).all (fun j => oj_chkK (16 * 384 + j)) = true := by decide +kernel
set_option maxRecDepth 100000 in
theorem oj_ck_385 : (List.range 16).all (fun j => oj_chkK (16 * 385 + j)) = true := by decide +kernel
set_option maxRecDepth 100000 in
theorem oj_ck_386 : (List.range 16).all (fun j => oj_chkK (16 * 386 + j)) = true := by decide +kernel
set_option maxRecDepth 100000 in
theorem oj_ck_387 : (List.range 16).all (fun j => oj_chkK (16 * 387 + j)) = true := by decide +kernel
set_option maxRecDepth 100000 in
theorem oj_ck_388 : (List.range 16).all (fun j => oj_chkK (16 * 388 + j)) = true := by decide +kernel
set_option maxRecDepth 100000 in
theorem oj_ck_389 : (List.range 16).all (fun j => oj_chkK (16 * 389 + j)) = true := by decide +kernel
set_option maxRecDepth 100000 in
theorem oj_ck_390 : (List.range 16).all (fun j => oj_chkK (16 * 390 + j)) = true := by decide +kernel
set_option maxRecDepth 100000 in
theorem oj_ck_391 : (List.range 16).all (fun j => oj_chkK (16 * 391 + j)) = true := by decide +kernel
set_option maxRecDepth 100000 in
theorem oj_ck_392 : (List.range 16).all (fun j => oj_chkK (16 * 392 + j)) = true := by decide +kernel
set_option maxRecDepth 100000 in
theorem oj_ck_393 : (List.range 16).all (fun j => oj_chkK (16 * 393 + j)) = true := by decide +kernel
set_option maxRecDepth 100000 in
theorem oj_ck_394 : (List.range 16).all (fun j => oj_chkK (16 * 394 + j)) = true := by decide +kernel
set_option maxRecDepth 100000 in
theorem oj_ck_395 : (List.range 16).all (fun j => oj_chkK (16 * 395 + j)) = true := by decide +kernel
set_option maxRecDepth 100000 in
theorem oj_ck_396 : (List.range 16).all (fun j => oj_chkK (16 * 396 + j)) = true := by decide +kernel
set_option maxRecDepth 100000 in
theorem oj_ck_397 : (List.range 16).all (fun j => oj_chkK (16 * 397 + j)) = true := by decide +kernel
set_option maxRecDepth 100000 in
theorem oj_ck_398 : (List.range 16).all (fun j => oj_chkK (16 * 398 + j)) = true := by decide +kernel
set_option maxRecDepth 100000 in
theorem oj_ck_399 : (List.range 16).all (fun j => oj_chkK (16 * 399 + j)) = true := by decide +kernel
set_option maxRecDepth 100000 in
theorem oj_ck_400 : (List.range 16).all (fun j => oj_chkK (16 * 400 + j)) = true := by decide +kernel
set_option maxRecDepth 100000 in
theorem oj_ck_401 : (List.range 16).all (fun j => oj_chkK (16 * 401 + j)) = true := by decide +kernel
set_option maxRecDepth 100000 in
theorem oj_ck_402 : (List.range 16).all (fun j => oj_chkK (16 * 402 + j)) = true := by decide +kernel
set_option maxRecDepth 100000 in
theorem oj_ck_403 : (List.range 16).all (fun j => oj_chkK (16 * 403 + j)) = true := by decide +kernel
set_option maxRecDepth 100000 in
theorem oj_ck_404 : (List.range 16).all (fun j => oj_chkK (16 * 404 + j)) = true := by decide +kernel
set_option maxRecDepth 100000 in
theorem oj_ck_405 : (List.range 16).all (fun j => oj_chkK (16 * 405 + j)) = true := by decide +kernel
set_option maxRecDepth 100000 in
theorem oj_ck_406 : (List.range 16).all (fun j => oj_chkK (16 * 406 + j)) = true := by decide +kernel
set_option maxRecDepth 100000 in
theorem oj_ck_407 : (List.range 16).all (fun j => oj_chkK (16 * 407 + j)) = true := by decide +kernel
set_option maxRecDepth 100000 in
theorem oj_ck_408 : (List.range 16).all (fun j => oj_chkK (16 * 408 + j)) = true := by decide +kernel
set_option maxRecDepth 100000 in
theorem oj_ck_409 : (List.range 16).all (fun j => oj_chkK (16 * 409 + j)) = true := by decide +kernel
set_option maxRecDepth 100000 in
theorem oj_ck_410 : (List.range 16).all (fun j => oj_chkK (16 * 410 + j)) = true := by decide +kernel
set_option maxRecDepth 100000 in
theorem oj_ck_411 : (List.range 16).all (fun j => oj_chkK (16 * 411 + j)) = true := by decide +kernel
set_option maxRecDepth 100000 in
theorem oj_ck_412 : (List.range 16).all (fun j => oj_chkK (16 * 412 + j)) = true := by decide +kernel
set_option maxRecDepth 100000 in
theorem oj_ck_413 : (List.range 16).all (fun j => oj_chkK (16 * 413 + j)) = true := by decide +kernel
set_option maxRecDepth 100000 in
theorem oj_ck_414 : (List.range 16).all (fun j => oj_chkK (16 * 414 + j)) = true := by decide +kernel
set_option maxRecDepth 100000 in
theorem oj_ck_415 : (List.range 16).all (fun j => oj_chkK (16 * 415 + j)) = true := by decide +kernel
set_option maxRecDepth 100000 in
theorem oj_ck_416 : (List.range 16).all (fun j => oj_chkK (16 * 416 + j)) = true := by decide +kernel
set_option maxRecDepth 100000 in
theorem oj_ck_417 : (List.range 16).all (fun j => oj_chkK (16 * 417 + j)) = true := by decide +kernel
set_option maxRecDepth 100000 in
theorem oj_ck_418 : (List.range 16).all (fun j => oj_chkK (16 * 418 + j)) = true := by decide +kernel
set_option maxRecDepth 100000 in
theorem oj_ck_419 : (List.range 16).all (fun j => oj_chkK (16 * 419 + j)) = true := by decide +kernel
set_option maxRecDepth 100000 in
theorem oj_ck_420 : (List.range 16).all (fun j => oj_chkK (16 * 420 + j)) = true := by decide +kernel
set_option maxRecDepth 100000 in
theorem oj_ck_421 : (List.range 16).all (fun j => oj_chkK (16 * 421 + j)) = true := by decide +kernel
set_option maxRecDepth 100000 in
theorem oj_ck_422 : (List.range 16).all (fun j => oj_chkK (16 * 422 + j)) = true := by decide +kernel
set_option maxRecDepth 100000 in
theorem oj_ck_423 : (List.range 16).all (fun j => oj_chkK (16 * 423 + j)) = true := by decide +kernel
set_option maxRecDepth 100000 in
theorem oj_ck_424 : (List.range 16).all (fun j => oj_chkK (16 * 424 + j)) = true := by decide +kernel
set_option maxRecDepth 100000 in
theorem oj_ck_425 : (List.range 16).all (fun j => oj_chkK (16 * 425 + j)) = true := by decide +kernel
set_option maxRecDepth 100000 in
theorem oj_ck_426 : (List.range 16).all (fun j => oj_chkK (16 * 426 + j)) = true := by decide +kernel
set_option maxRecDepth 100000 in
theorem oj_ck_427 : (List.range 16).all (fun j => oj_chkK (16 * 427 + j)) = true := by decide +kernel
set_option maxRecDepth 100000 in
theorem oj_ck_428 : (List.range 16).all (fun j => oj_chkK (16 * 428 + j)) = true := by decide +kernel
set_option maxRecDepth 100000 in
theorem oj_ck_429 : (List.range 16).all (fun j => oj_chkK (16 * 429 + j)) = true := by decide +kernel
set_option maxRecDepth 100000 in
theorem oj_ck_430 : (List.range 16).all (fun j => oj_chkK (16 * 430 + j)) = true := by decide +kernel
set_option maxRecDepth 100000 in
theorem oj_ck_431 : (List.range 16).all (fun j => oj_chkK (16 * 431 + j)) = true := by decide +kernel
set_option maxRecDepth 100000 in
theorem oj_ck_432 : (List.range 16).all (fun j => oj_chkK (16 * 432 + j)) = true := by decide +kernel
set_option maxRecDepth 100000 in
theorem oj_ck_433 : (List.range 16).all (fun j => oj_chkK (16 * 433 + j)) = true := by decide +kernel
set_option maxRecDepth 100000 in
theorem oj_ck_434 : (List.range 16).all (fun j => oj_chkK (16 * 434 + j)) = true := by decide +kernel
set_option maxRecDepth 100000 in
theorem oj_ck_435 : (List.range 16).all (fun j => oj_chkK (16 * 435 + j)) = true := by decide +kernel
set_option maxRecDepth 100000 in
theorem oj_ck_436 : (List.range 16).all (fun j => oj_chkK (16 * 436 + j)) = true := by decide +kernel
set_option maxRecDepth 100000 in
theorem oj_ck_437 : (List.range 16).all (fun j => oj_chkK (16 * 437 + j)) = true := by decide +kernel
set_option maxRecDepth 100000 in
theorem oj_ck_438 : (List.range 16).all (fun j => oj_chkK (16 * 438 + j)) = true := by decide +kernel
set_option maxRecDepth 100000 in
theorem oj_ck_439 : (List.range 16).all (fun j => oj_chkK (16 * 439 + j)) = true := by decide +kernel
