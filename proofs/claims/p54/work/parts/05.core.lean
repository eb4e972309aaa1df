def oj_cls (o : Nat) : String := match o with
  | 0 => RX0
  | 1 => RX1
  | 2 => RX2
  | 3 => RX3
  | 4 => RX4
  | 5 => RX5
  | 6 => RJ4
  | 8 => RJ0
  | 9 => RJ1
  | 10 => RJ3
  | 11 => RJ5
  | 12 => RJ6
  | 13 => RJ7
  | 14 => RJ8
  | _ => RL
def oj_strs : List (String × Nat × String × Nat) := [("OrchardRopeway", 309, "there is no such station or segment", 0), ("OrchardRopeway", 311, "an argument is out of range", 1), ("OrchardRopeway", 313, "the ropeway does not allow this now", 2), ("OrchardRopeway", 315, "the cabins are at the ends of the line", 3), ("OrchardRopeway", 317, "there is no such picker", 4), ("OrchardRopeway", 70, "there is no such segment", 5), ("OrchardRopeway", 319, "there is no such cabin", 6), ("OrchardRopeway", 113, "the cabin is not at a station", 7), ("OrchardRopeway", 324, "there is no such station", 8), ("OrchardRopeway", 165, "the picker waits", 9), ("OrchardRopeway", 173, "nobody waits", 10), ("OrchardRopewayLaw", 125, "wait ", 11), ("OrchardRopewayLaw", 134, ";turn;capacity ", 12), ("OrchardRopeway", 244, "the program buffer is full", 13), ("OrchardRopeway$Program", 55, "picker ", 14), ("OrchardRopeway$Program", 65, " ", 15), ("OrchardRopewayLaw", 142, " ", 15), ("OrchardRopeway$Program", 67, ">", 16), ("OrchardRopewayLaw", 144, ">", 16), ("OrchardRopeway$Program", 69, "remove ", 17), ("OrchardRopeway$Program", 71, "slope ", 18), ("OrchardRopeway$Program", 73, "=", 19), ("OrchardRopewayLaw", 148, "=", 19), ("OrchardRopeway$Program", 75, "turn", 20), ("OrchardRopeway$Program", 77, "capacity ", 21), ("OrchardRopeway$Program", 79, "wait", 22), ("OrchardRopeway$Program", 42, ";", 23), ("OrchardRopeway", 259, "the text is not a program", 24), ("OrchardRopeway", 267, "a command of the program failed", 25), ("OrchardRopewayLaw", 140, ";picker ", 26), ("OrchardRopewayLaw", 146, ";slope ", 27), ("OrchardRopeway", 281, "no change can be undone", 28), ("OrchardRopeway", 286, "no state was saved", 29), ("OrchardRopewayLaw", 150, ";wait", 30), ("OrchardRopewayLaw", 152, ";remove ", 31)]
def oj_len : List Nat := [35, 27, 35, 38, 23, 24, 22, 29, 24, 16, 12, 5, 15, 26, 7, 1, 1, 7, 6, 1, 4, 9, 4, 1, 25, 31, 8, 7, 23, 18, 5, 8]
def oj_byt : List (List Int32) := [[116, 104, 101, 114, 101, 32, 105, 115, 32, 110, 111, 32, 115, 117, 99, 104, 32, 115, 116, 97, 116, 105, 111, 110, 32, 111, 114, 32, 115, 101, 103, 109, 101, 110, 116], [97, 110, 32, 97, 114, 103, 117, 109, 101, 110, 116, 32, 105, 115, 32, 111, 117, 116, 32, 111, 102, 32, 114, 97, 110, 103, 101], [116, 104, 101, 32, 114, 111, 112, 101, 119, 97, 121, 32, 100, 111, 101, 115, 32, 110, 111, 116, 32, 97, 108, 108, 111, 119, 32, 116, 104, 105, 115, 32, 110, 111, 119], [116, 104, 101, 32, 99, 97, 98, 105, 110, 115, 32, 97, 114, 101, 32, 97, 116, 32, 116, 104, 101, 32, 101, 110, 100, 115, 32, 111, 102, 32, 116, 104, 101, 32, 108, 105, 110, 101], [116, 104, 101, 114, 101, 32, 105, 115, 32, 110, 111, 32, 115, 117, 99, 104, 32, 112, 105, 99, 107, 101, 114], [116, 104, 101, 114, 101, 32, 105, 115, 32, 110, 111, 32, 115, 117, 99, 104, 32, 115, 101, 103, 109, 101, 110, 116], [116, 104, 101, 114, 101, 32, 105, 115, 32, 110, 111, 32, 115, 117, 99, 104, 32, 99, 97, 98, 105, 110], [116, 104, 101, 32, 99, 97, 98, 105, 110, 32, 105, 115, 32, 110, 111, 116, 32, 97, 116, 32, 97, 32, 115, 116, 97, 116, 105, 111, 110], [116, 104, 101, 114, 101, 32, 105, 115, 32, 110, 111, 32, 115, 117, 99, 104, 32, 115, 116, 97, 116, 105, 111, 110], [116, 104, 101, 32, 112, 105, 99, 107, 101, 114, 32, 119, 97, 105, 116, 115], [110, 111, 98, 111, 100, 121, 32, 119, 97, 105, 116, 115], [119, 97, 105, 116, 32], [59, 116, 117, 114, 110, 59, 99, 97, 112, 97, 99, 105, 116, 121, 32], [116, 104, 101, 32, 112, 114, 111, 103, 114, 97, 109, 32, 98, 117, 102, 102, 101, 114, 32, 105, 115, 32, 102, 117, 108, 108], [112, 105, 99, 107, 101, 114, 32], [32], [62], [114, 101, 109, 111, 118, 101, 32], [115, 108, 111, 112, 101, 32], [61], [116, 117, 114, 110], [99, 97, 112, 97, 99, 105, 116, 121, 32], [119, 97, 105, 116], [59], [116, 104, 101, 32, 116, 101, 120, 116, 32, 105, 115, 32, 110, 111, 116, 32, 97, 32, 112, 114, 111, 103, 114, 97, 109], [97, 32, 99, 111, 109, 109, 97, 110, 100, 32, 111, 102, 32, 116, 104, 101, 32, 112, 114, 111, 103, 114, 97, 109, 32, 102, 97, 105, 108, 101, 100], [59, 112, 105, 99, 107, 101, 114, 32], [59, 115, 108, 111, 112, 101, 32], [110, 111, 32, 99, 104, 97, 110, 103, 101, 32, 99, 97, 110, 32, 98, 101, 32, 117, 110, 100, 111, 110, 101], [110, 111, 32, 115, 116, 97, 116, 101, 32, 119, 97, 115, 32, 115, 97, 118, 101, 100], [59, 119, 97, 105, 116], [59, 114, 101, 109, 111, 118, 101, 32]]
def oj_casts : List (String × String) := [("java/lang/IndexOutOfBoundsException", "java/lang/IndexOutOfBoundsException"), ("java/util/NoSuchElementException", "java/util/NoSuchElementException"), ("java/lang/ArrayIndexOutOfBoundsException", "java/lang/ArrayIndexOutOfBoundsException"), ("java/lang/IllegalArgumentException", "java/lang/IllegalArgumentException"), ("java/lang/IllegalStateException", "java/lang/IllegalStateException"), ("java/lang/UnsupportedOperationException", "java/lang/UnsupportedOperationException"), ("[B", "java/lang/Cloneable"), ("java/lang/ArrayIndexOutOfBoundsException", "java/lang/IndexOutOfBoundsException"), ("OrchardRopeway", "java/lang/Object"), ("OrchardRopeway$Line", "java/lang/Object"), ("OrchardRopeway$Crowd", "java/lang/Object"), ("OrchardRopeway$History", "java/lang/Object"), ("OrchardRopeway$OutputLine", "java/lang/Object"), ("OrchardRopeway$Program", "java/lang/Object"), ("java/lang/ArrayIndexOutOfBoundsException", "java/lang/Object"), ("java/lang/IndexOutOfBoundsException", "java/lang/Object"), ("java/lang/IllegalArgumentException", "java/lang/Object"), ("java/lang/IllegalStateException", "java/lang/Object"), ("java/lang/UnsupportedOperationException", "java/lang/Object"), ("java/util/NoSuchElementException", "java/lang/Object"), ("java/lang/StringBuilder", "java/lang/Object"), ("java/lang/String", "java/lang/Object"), ("java/lang/Throwable", "java/lang/Object")]
def oj_ncasts : List (String × String) := [("java/lang/IllegalArgumentException", "java/lang/IndexOutOfBoundsException"), ("java/lang/IllegalStateException", "java/lang/IndexOutOfBoundsException"), ("java/lang/UnsupportedOperationException", "java/lang/IndexOutOfBoundsException"), ("java/util/NoSuchElementException", "java/lang/IndexOutOfBoundsException"), ("java/lang/ArrayIndexOutOfBoundsException", "java/lang/IllegalArgumentException"), ("java/lang/IndexOutOfBoundsException", "java/lang/IllegalArgumentException"), ("java/lang/IllegalStateException", "java/lang/IllegalArgumentException"), ("java/lang/UnsupportedOperationException", "java/lang/IllegalArgumentException"), ("java/util/NoSuchElementException", "java/lang/IllegalArgumentException"), ("java/lang/ArrayIndexOutOfBoundsException", "java/lang/IllegalStateException"), ("java/lang/IndexOutOfBoundsException", "java/lang/IllegalStateException"), ("java/lang/IllegalArgumentException", "java/lang/IllegalStateException"), ("java/lang/UnsupportedOperationException", "java/lang/IllegalStateException"), ("java/util/NoSuchElementException", "java/lang/IllegalStateException"), ("java/lang/ArrayIndexOutOfBoundsException", "java/util/NoSuchElementException"), ("java/lang/IndexOutOfBoundsException", "java/util/NoSuchElementException"), ("java/lang/IllegalArgumentException", "java/util/NoSuchElementException"), ("java/lang/IllegalStateException", "java/util/NoSuchElementException"), ("java/lang/UnsupportedOperationException", "java/util/NoSuchElementException"), ("java/lang/ArrayIndexOutOfBoundsException", "java/lang/UnsupportedOperationException"), ("java/lang/IndexOutOfBoundsException", "java/lang/UnsupportedOperationException"), ("java/lang/IllegalArgumentException", "java/lang/UnsupportedOperationException"), ("java/lang/IllegalStateException", "java/lang/UnsupportedOperationException"), ("java/util/NoSuchElementException", "java/lang/UnsupportedOperationException")]
def oj_nests : List (String × Nat × MethodName × String) := [("OrchardRopeway$Line", 17, ⟨"OrchardRopeway$Crowd", "<init>", "()V"⟩, "OrchardRopeway"), ("OrchardRopeway", 35, ⟨"OrchardRopeway$OutputLine", "<init>", "()V"⟩, "OrchardRopeway"), ("OrchardRopeway", 42, ⟨"OrchardRopeway$Program", "<init>", "()V"⟩, "OrchardRopeway"), ("OrchardRopeway$Line", 112, ⟨"OrchardRopeway", "isSegment", "(I)Z"⟩, "OrchardRopeway"), ("OrchardRopeway$Line", 99, ⟨"OrchardRopeway", "isStation", "(I)Z"⟩, "OrchardRopeway")]
def oj_decls : List MethodName := [⟨"java/lang/RuntimeException", "<init>", "(Ljava/lang/String;)V"⟩, ⟨"java/lang/Exception", "<init>", "(Ljava/lang/String;)V"⟩, ⟨"java/lang/Throwable", "<init>", "(Ljava/lang/String;)V"⟩]
/-! THE ABSTRACT MACHINE: cells by abstract addresses; J: from an abstract state of a method's frame, the machine comes to its end with Q -/
abbrev AC : Type := (Nat × vp_A) ⊕ (Nat × List Value)
abbrev AHp : Type := Nat → AC
def nilc : AC := .inr (99, [])
def oj_v (ad : Nat → Nat) (v : Value) : Value := match v with
  | .ref a => .ref (ad a)
  | w => w
def oj_c (ad : Nat → Nat) (tyA : Nat → ClassId) (x : AC) : va_E := match x with
  | .inl (t, n, .inr (.inr (.inr (.inr f)))) => .inl (tyA t, n, .inr (.inr (.inr (.inr (fun j => if j < n then (f j).map ad else none)))))
  | .inl (t, y) => .inl (tyA t, y)
  | .inr (ci, fs) => .inr (ci, fs.map (oj_v ad))
def oj_w (ad : Nat → Nat) (tyA : Nat → ClassId) (L : List Nat) (h : AHp) : va_W := L.map fun a => (ad a, oj_c ad tyA (h a))
def oj_up (h : AHp) (a : Nat) (x : AC) : AHp := fun j => if j = a then x else h j
def oj_tys (tyA : Nat → ClassId) : List (ClassId × FieldType) := [(tyA 0, .int), (tyA 1, .char), (tyA 2, .byte), (tyA 3, .byte), (tyA 4, .object RX2)]
/-- where a text constant stands -/
def oj_sa (i : Nat) : Nat := 1000000 + i
theorem oj_sa_ge (i : Nat) : 999999 ≤ oj_sa i := by unfold oj_sa; omega
def oj_W (D : va_G) (tyA : Nat → ClassId) (A : Nat → Prop) (b : Nat) (scr : Nat → (Nat → Int32) → Prop) (adK : Nat → Nat) (ad : Nat → Nat) (L : List Nat) (h : AHp) (H : Heap) : Prop :=
  va_P D vwCl (oj_w ad tyA L h) H ∧ va_D A (oj_w ad tyA L h) ∧ (∀ a, h a ≠ nilc → a ∈ L ∨ a = 999999) ∧ (∀ i, ad (oj_sa i) = adK i) ∧ ad 999999 = b ∧ (h 999999 = nilc ∨ ∃ N xs, h 999999 = .inl (9, N, .inl xs) ∧ scr N xs) ∧ (∀ a ∈ L, a < 999999 ∧ h a ≠ nilc)
/-- which addresses and lists of cells may stand in place of those of the start -/
def oj_ok (al : Bool) (ad0 : Nat → Nat) (L0 : List Nat) (ad : Nat → Nat) (L : List Nat) : Prop := (al = false → ad = ad0 ∧ L = L0) ∧ (∀ a, a ∈ L0 ∨ 999999 ≤ a → ad a = ad0 a) ∧ ∀ a ∈ L0, a ∈ L
def lwG : List Cond := lw_tbl.filter goodWord
def oj_S (adK adV : Nat → Nat) (A : Nat → Prop) (U : State) (H : Heap) : Prop :=
  vk_S 32 oj_len oj_byt adK adV A U H ∧ (∀ q ∈ oj_strs, vk_R q.1 q.2.1 q.2.2.1 (adK q.2.2.2) U) ∧ (∀ q ∈ oj_casts, va_Nw (.castable q.1 q.2) U) ∧ (∀ q ∈ oj_ncasts, va_Nc q.1 q.2 U) ∧ (∀ q ∈ oj_nests, va_Nw (.methodLinkNest q.1 q.2.1 q.2.2.1 q.2.2.2) U) ∧
  vx_Zq Bundle.tN "UNASSIGNED_STACK" Bundle.steD A U H ∧ vx_Zq Bundle.tN "SUPPRESSED_SENTINEL" Bundle.listD A U H ∧ (∃ v : Value, (v = .null ∨ v = .ref (adK 2000)) ∧ va_Z "jdk/internal/util/Preconditions" "SIOOBE_FORMATTER" "Ljava/util/function/BiFunction;" v A U H) ∧ va_Z RJ0 "COMPACT_STRINGS" "Z" (.int 1) A U H ∧ (∀ y ∈ oj_decls, va_Nw (.declares y) U) ∧ (∀ i, i < 32 → adK (1000 + i) = adV i) ∧ va_AO RX2 U ∧ (va_Z RJ6 "DigitOnes" "[B" (.ref (adK 3000)) A U H ∧ va_T .byte (adK 3000) 100 (fun j => .int (nI (48 + j % 10))) A U H) ∧ va_Z RJ6 "DigitTens" "[B" (.ref (adK 3001)) A U H ∧ va_T .byte (adK 3001) 100 (fun j => .int (nI (48 + j / 10))) A U H
abbrev QT : Type := (Option Value ⊕ String) → AHp → Prop
def oj_XC (Q : QT) (A : Nat → Prop) (D : va_G) (tyA : Nat → ClassId) (adK : Nat → Nat) (b : Nat) (scr : Nat → (Nat → Int32) → Prop) (ad : Nat → Nat) (L : List Nat) : String → State → State → Prop := fun E st t => (∃ h' : AHp, Q (.inr E) h' ∧ oj_W D tyA A b scr adK ad L h' t.heap) ∧ va_F A st t
def oj_QC (al : Bool) (Q : QT) (A : Nat → Prop) (D : va_G) (tyA : Nat → ClassId) (adK : Nat → Nat) (b : Nat) (scr : Nat → (Nat → Int32) → Prop) (ad : Nat → Nat) (L : List Nat) : Array Value → State → Outcome → State → Prop := fun _ st oc t => (∃ (v : Option Value) (h' : AHp) (ad' : Nat → Nat) (L' : List Nat), oc = .returned (v.map (oj_v ad')) ∧ Q (.inl v) h' ∧ oj_ok al ad L ad' L' ∧ oj_W D tyA A b scr adK ad' L' h' t.heap) ∧ va_F A st t
/-- what a return instruction may give back -/
def oj_rets (r : Option FieldType) (i : Instr) (v : Option Value) : Bool := match i, v with
  | .ireturn, some (.int x) => (match r with | some ty => decide (narrow ty (.int x) = .int x) | none => false)
  | .lreturn, some (.long _) => decide (r = some .long)
  | .freturn, some (.float _) => decide (r = some .float)
  | .dreturn, some (.double _) => decide (r = some .double)
  | .areturn, some (.ref _) => (match r with | some (.object _) => true | some (.array _) => true | _ => false)
  | .areturn, some .null => (match r with | some (.object _) => true | some (.array _) => true | _ => false)
  | .return_, none => decide (r = none)
  | _, _ => false
/-- where a frame may end: at a return instruction, or (a method without handlers) by an exception -/
def oj_end (μ : MI) (mc ms : Nat) (Q : QT) (p : Program) (l : Launch) (e : Env) (R : Room) (s : State) (m : MethodId) (args : Array Value) (below : List Frame) (meth : Method) (c : Code) (A : Nat → Prop) (D : va_G) (tyA : Nat → ClassId) (adK : Nat → Nat) (b : Nat) (scr : Nat → (Nat → Int32) → Prop) (ad0 : Nat → Nat) (L0 : List Nat) (Qc : State → Prop) : Prop :=
  (∀ (ad : Nat → Nat) (L : List Nat) (H : Heap) (locs : List Loc) (h : AHp) (pc : Nat) (lsc : Array Slot) (i : Instr) (v : Option Value), oj_ok (mA μ) ad0 L0 ad L → oj_W D tyA A b scr adK ad L h H → va_S A s.heap H locs → decode (mC μ) pc = .ok (i, 1) → oj_rets (mR μ) i v = true → Q (.inl v) h → W p l e R s m args below meth c H locs mc ms Qc (F0 m pc lsc (v.map (oj_v ad)).toList)) ∧
  (mA μ = false → mH μ = [] → ∃ Qc', Qc = vx_MQ below Qc' (oj_XC Q A D tyA adK b scr ad0 L0) args s mc ms A)
def oj_ctx (μ : MI) (d mc ms : Nat) (Q : QT) (p : Program) (l : Launch) (e : Env) (R : Room) (s : State) (m : MethodId) (args : Array Value) (below : List Frame) (meth : Method) (c : Code) (A : Nat → Prop) (D : va_G) (tyA : Nat → ClassId) (adK adV : Nat → Nat) (b : Nat) (scr : Nat → (Nat → Int32) → Prop) (ad0 : Nat → Nat) (L0 : List Nat) (Qc : State → Prop) : Prop :=
  p.tables.exec = Jvm.exec ∧ c.code = mC μ ∧ oj_good μ ∧ c.maxLocals = mL μ ∧ s.vm.findClass (oj_cls (mO μ)) = some m.cls ∧ (∀ w ∈ lwG, w.before args s = true) ∧ meth.locks = false ∧ ((mY μ).name = "<init>" → meth.name = "<init>") ∧ va_K D vwCl (oj_tys tyA) s ∧ oj_S adK adV A s s.heap ∧ (∀ q, s.heap.size ≤ q → A q) ∧ l.stackTraces = false ∧ (d ≤ R.frames ∧ 40 * d ≤ R.locals ∧ mc ≤ R.cells ∧ ms ≤ R.slots) ∧ c.exceptionTable.toList = tableOf (mH μ) ∧
  (∀ N xs, scr N xs → va_X b N xs s s.heap ∧ b < s.heap.size ∧ ¬ A b) ∧ oj_end μ mc ms Q p l e R s m args below meth c A D tyA adK b scr ad0 L0 Qc
def oj_L (ad : Nat → Nat) (nL : Nat) (ls : List (Option Value)) (lsc : Array Slot) : Prop := lsc.size = nL ∧ ls.length = nL ∧ lv_wf lsc ∧ ∀ (i : Nat) (v : Value), ls[i]? = some (some v) → lsc[i]? = some (.val (oj_v ad v))
def J (μ : MI) (d mc ms : Nat) (Q : QT) (k n pc : Nat) (ls : List (Option Value)) (st : List Value) (h : AHp) : Prop :=
  ∀ (p : Program) (l : Launch) (e : Env) (R : Room) (s : State) (m : MethodId) (args : Array Value) (below : List Frame) (meth : Method) (c : Code) (A : Nat → Prop) (D : va_G) (tyA : Nat → ClassId) (adK adV : Nat → Nat) (b : Nat) (scr : Nat → (Nat → Int32) → Prop) (ad0 : Nat → Nat) (L0 : List Nat) (Qc : State → Prop),
    oj_ctx μ d mc ms Q p l e R s m args below meth c A D tyA adK adV b scr ad0 L0 Qc →
    ∀ (ad : Nat → Nat) (L : List Nat) (H : Heap) (locs : List Loc) (lsc : Array Slot), oj_ok (mA μ) ad0 L0 ad L → oj_W D tyA A b scr adK ad L h H → va_S A s.heap H locs → oj_L ad (mL μ) ls lsc →
      W p l e R s m args below meth c H locs k n Qc (F0 m pc lsc (st.map (oj_v ad)))
/-! locals -/
def oj_get (ls : List (Option Value)) (i : Nat) : Option Value := match ls, i with
  | [], _ => none
  | x :: _, 0 => x
  | _ :: xs, i + 1 => oj_get xs i
def oj_kill (x : Option Value) : Option Value := match x with
  | some (.long _) => none
  | some (.double _) => none
  | y => y
def oj_clr (v : Value) (xs : List (Option Value)) : List (Option Value) := match v, xs with
  | .long _, _ :: ys => none :: ys
  | .double _, _ :: ys => none :: ys
  | _, ys => ys
def oj_set : List (Option Value) → Nat → Option Value → List (Option Value)
  | [], _, _ => []
  | _ :: xs, 0, some v => some v :: oj_clr v xs
  | _ :: xs, 0, none => none :: xs
  | x :: xs, 1, v => oj_kill x :: oj_set xs 0 v
  | x :: xs, i + 2, v => x :: oj_set xs (i + 1) v
theorem oj_get_eq (ls : List (Option Value)) (i : Nat) (v : Value) (h : oj_get ls i = some v) : ls[i]? = some (some v) := by
  induction ls generalizing i with
  | nil => cases h
  | cons x xs ih =>
    cases i with
    | zero => have h' : x = some v := h
              rw [h']; rfl
    | succ i => exact ih i h
theorem oj_set_len (ls : List (Option Value)) (i : Nat) (v : Option Value) : (oj_set ls i v).length = ls.length := by
  induction ls generalizing i with
  | nil => rfl
  | cons x xs ih =>
    match i with
    | 0 => cases v with
      | none => rfl
      | some v => cases xs with
        | nil => cases v <;> rfl
        | cons y ys => cases v <;> rfl
    | 1 => show (oj_set xs 0 v).length + 1 = _; rw [ih]; rfl
    | i + 2 => show (oj_set xs (i + 1) v).length + 1 = _; rw [ih]; rfl
theorem oj_set_spec (ls : List (Option Value)) (i : Nat) (v : Option Value) (j : Nat) (w : Value) (h : (oj_set ls i v)[j]? = some (some w)) :
    (j = i ∧ v = some w) ∨ (j ≠ i ∧ ls[j]? = some (some w) ∧ ¬ (j + 1 = i ∧ w.category = 2) ∧ (∀ u, v = some u → u.category = 2 → j ≠ i + 1)) := by
  induction ls generalizing i j with
  | nil => cases h
  | cons x xs ih =>
    match i with
    | 0 =>
      cases v with
      | none =>
        cases j with
        | zero => cases h
        | succ j => exact Or.inr ⟨by omega, h, by omega, fun u hu => by cases hu⟩
      | some v =>
        cases j with
        | zero =>
          have h' : some (some v) = some (some w) := h
          exact Or.inl ⟨rfl, Option.some.inj h'⟩
        | succ j =>
          have h' : (oj_clr v xs)[j]? = some (some w) := h
          refine Or.inr ⟨by omega, ?_, by omega, fun u hu hc => ?_⟩
          · cases xs with
            | nil => cases v <;> exact h'
            | cons y ys => cases v <;> first | exact h' | (cases j with
                | zero => cases h'
                | succ j => exact h')
          · cases hu
            cases xs with
            | nil => cases v <;> cases h'
            | cons y ys => cases v <;> first | (cases hc; done) | (cases j with
                | zero => cases h'
                | succ j => omega)
    | 1 =>
      cases j with
      | zero =>
        have h' : some (oj_kill x) = some (some w) := h
        have h2 := Option.some.inj h'
        refine Or.inr ⟨by omega, ?_, ?_, fun _ _ _ => by omega⟩
        · show some x = some (some w)
          cases x with
          | none => cases h2
          | some x => cases x <;> first | (cases h2; done) | (rw [← h2]; rfl)
        · cases x with
          | none => cases h2
          | some x => cases x <;> first | (cases h2; done) | (rw [← Option.some.inj h2]; simp [Value.category])
      | succ j =>
        have h' : (oj_set xs 0 v)[j]? = some (some w) := h
        rcases ih 0 j h' with ⟨h1, h2⟩ | ⟨h1, h2, h3, h4⟩
        · exact Or.inl ⟨by omega, h2⟩
        · exact Or.inr ⟨by omega, h2, by omega, fun u hu hc => by have := h4 u hu hc; omega⟩
    | i + 2 =>
      cases j with
      | zero => exact Or.inr ⟨by omega, h, by omega, fun _ _ _ => by omega⟩
      | succ j =>
        have h' : (oj_set xs (i + 1) v)[j]? = some (some w) := h
        rcases ih (i + 1) j h' with ⟨h1, h2⟩ | ⟨h1, h2, h3, h4⟩
        · exact Or.inl ⟨by omega, h2⟩
        · refine Or.inr ⟨by omega, h2, fun hh => h3 ⟨by omega, hh.2⟩, fun u hu hc => by have := h4 u hu hc; omega⟩
/-- the kit's list of what the locals hold -/
def oj_lv (ad : Nat → Nat) (ls : List (Option Value)) : List (Nat × Value) := (List.range ls.length).filterMap fun i => (ls[i]?.getD none).map fun v => (i, oj_v ad v)
theorem oj_lv_mem {ad : Nat → Nat} {ls : List (Option Value)} {i : Nat} {v : Value} (h : ls[i]? = some (some v)) : (i, oj_v ad v) ∈ oj_lv ad ls :=
  List.mem_filterMap.mpr ⟨i, List.mem_range.mpr (List.getElem?_eq_some_iff.mp h).1, by rw [h]; rfl⟩
theorem oj_lv_has {ad : Nat → Nat} {nL : Nat} {ls : List (Option Value)} {lsc : Array Slot} (h : oj_L ad nL ls lsc) : lv_has lsc nL (oj_lv ad ls) := by
  refine ⟨h.1, h.2.2.1, fun q hq => ?_⟩
  obtain ⟨i, -, hi⟩ := List.mem_filterMap.mp hq
  cases hx : ls[i]? with
  | none => rw [hx] at hi; cases hi
  | some x =>
    cases x with
    | none => rw [hx] at hi; cases hi
    | some v => rw [hx] at hi; cases hi; exact h.2.2.2 i v hx
theorem oj_v_cat (ad : Nat → Nat) (v : Value) : (oj_v ad v).category = v.category := by cases v <;> rfl
theorem oj_L_of {ad : Nat → Nat} {nL : Nat} {ls : List (Option Value)} {lsc lsc' : Array Slot} (h : oj_L ad nL ls lsc) {i : Nat} {v : Value} (hc : v.category ≠ 2) (h' : lv_has lsc' nL ((i, oj_v ad v) :: (oj_lv ad ls).filter (fun q => !(q.1 == i) && !(q.1 + 1 == i && q.2.category == 2)))) : oj_L ad nL (oj_set ls i (some v)) lsc' := by
  refine ⟨h'.1, (oj_set_len ls i _).trans h.2.1, h'.2.1, fun j w hw => ?_⟩
  rcases oj_set_spec ls i _ j w hw with ⟨h1, h2⟩ | ⟨h1, h2, h3, h4⟩
  · subst h1; cases h2
    exact h'.2.2 _ List.mem_cons_self
  · refine h'.2.2 (j, oj_v ad w) (List.mem_cons_of_mem _ (List.mem_filter.mpr ⟨oj_lv_mem h2, ?_⟩))
    simp only [Bool.and_eq_true, Bool.not_eq_true', beq_eq_false_iff_ne, ne_eq, Bool.and_eq_false_iff, oj_v_cat]
    refine ⟨h1, ?_⟩
    by_cases q : j + 1 = i
    · exact Or.inr fun q2 => h3 ⟨q, q2⟩
    · exact Or.inl q
theorem oj_L_none {ad : Nat → Nat} {nL : Nat} {ls : List (Option Value)} {lsc lsc' : Array Slot} (h : oj_L ad nL ls lsc) {i : Nat} {v : Value} (h' : lv_has lsc' nL ((i, v) :: (oj_lv ad ls).filter (fun q => !(q.1 == i) && !(q.1 + 1 == i && q.2.category == 2)))) : oj_L ad nL (oj_set ls i none) lsc' := by
  refine ⟨h'.1, (oj_set_len ls i _).trans h.2.1, h'.2.1, fun j w hw => ?_⟩
  rcases oj_set_spec ls i _ j w hw with ⟨h1, h2⟩ | ⟨h1, h2, h3, h4⟩
  · cases h2
  · refine h'.2.2 (j, oj_v ad w) (List.mem_cons_of_mem _ (List.mem_filter.mpr ⟨oj_lv_mem h2, ?_⟩))
    simp only [Bool.and_eq_true, Bool.not_eq_true', beq_eq_false_iff_ne, ne_eq, Bool.and_eq_false_iff, oj_v_cat]
    refine ⟨h1, ?_⟩
    by_cases q : j + 1 = i
    · exact Or.inr fun q2 => h3 ⟨q, q2⟩
    · exact Or.inl q
theorem oj_L_of2 {ad : Nat → Nat} {nL : Nat} {ls : List (Option Value)} {lsc lsc' : Array Slot} (h : oj_L ad nL ls lsc) {i : Nat} {v : Value} (hc : v.category = 2) (h' : lv_has lsc' nL ((i, oj_v ad v) :: (oj_lv ad ls).filter (fun q => !(q.1 == i) && (!(q.1 == i + 1) && !(q.1 + 1 == i && q.2.category == 2))))) : oj_L ad nL (oj_set ls i (some v)) lsc' := by
  refine ⟨h'.1, (oj_set_len ls i _).trans h.2.1, h'.2.1, fun j w hw => ?_⟩
  rcases oj_set_spec ls i _ j w hw with ⟨h1, h2⟩ | ⟨h1, h2, h3, h4⟩
  · subst h1; cases h2
    exact h'.2.2 _ List.mem_cons_self
  · refine h'.2.2 (j, oj_v ad w) (List.mem_cons_of_mem _ (List.mem_filter.mpr ⟨oj_lv_mem h2, ?_⟩))
    simp only [Bool.and_eq_true, Bool.not_eq_true', beq_eq_false_iff_ne, ne_eq, Bool.and_eq_false_iff, oj_v_cat]
    refine ⟨h1, h4 v rfl hc, ?_⟩
    by_cases q : j + 1 = i
    · exact Or.inr fun q2 => h3 ⟨q, q2⟩
    · exact Or.inl q
/-! the world -/
theorem oj_idx {D : va_G} {tyA : Nat → ClassId} {A : Nat → Prop} {b : Nat} {scr : Nat → (Nat → Int32) → Prop} {adK ad : Nat → Nat} {L : List Nat} {h : AHp} {H : Heap} (hW : oj_W D tyA A b scr adK ad L h H) {a : Nat} (ha : h a ≠ nilc) (h9 : ∀ N y, h a ≠ .inl (9, N, y)) : ∃ i : Nat, L[i]? = some a ∧ (oj_w ad tyA L h)[i]? = some (ad a, oj_c ad tyA (h a)) := by
  have hm : a ∈ L := by
    rcases hW.2.2.1 a ha with q | q
    · exact q
    · subst q
      rcases hW.2.2.2.2.2.1 with q | ⟨N, xs, q, -⟩
      · exact absurd q ha
      · exact absurd q (h9 N _)
  obtain ⟨i, hi⟩ := List.getElem?_of_mem hm
  exact ⟨i, hi, by rw [oj_w, List.getElem?_map, hi]; rfl⟩
theorem oj_upd {A : Nat → Prop} {tyA : Nat → ClassId} {ad : Nat → Nat} {L : List Nat} {h : AHp} (hD : va_D A (oj_w ad tyA L h)) {i a : Nat} (hi : L[i]? = some a) (x : AC) : (oj_w ad tyA L h).set i (ad a, oj_c ad tyA x) = oj_w ad tyA L (oj_up h a x) := by
  apply List.ext_getElem?
  intro j
  rw [List.getElem?_set]
  have hlt : i < L.length := (List.getElem?_eq_some_iff.mp hi).1
  by_cases hj : i = j
  · subst hj
    rw [if_pos rfl, if_pos (by rw [oj_w, List.length_map]; exact hlt), oj_w, List.getElem?_map, hi]
    simp [oj_up]
  · rw [if_neg hj, oj_w, oj_w, List.getElem?_map, List.getElem?_map]
    cases hjj : L[j]? with
    | none => rfl
    | some a' =>
      have hne : a' ≠ a := fun q => by
        subst q
        exact hj (hD.1 i j (ad a', oj_c ad tyA (h a')) (ad a', oj_c ad tyA (h a')) (by rw [oj_w, List.getElem?_map, hi]; rfl) (by rw [oj_w, List.getElem?_map, hjj]; rfl) rfl)
      simp [oj_up, hne]
theorem oj_W.put {D : va_G} {tyA : Nat → ClassId} {A : Nat → Prop} {b : Nat} {scr : Nat → (Nat → Int32) → Prop} {adK ad : Nat → Nat} {L : List Nat} {h : AHp} {H H1 : Heap} (hW : oj_W D tyA A b scr adK ad L h H) {i a : Nat} (hi : L[i]? = some a) {x : AC} (hx : x ≠ nilc) (hP : va_P D vwCl ((oj_w ad tyA L h).set i (ad a, oj_c ad tyA x)) H1) (hD : va_D A ((oj_w ad tyA L h).set i (ad a, oj_c ad tyA x))) : oj_W D tyA A b scr adK ad L (oj_up h a x) H1 := by
  obtain ⟨h1, h2, h3, h4, h5, h6, h7⟩ := hW
  rw [oj_upd h2 hi] at hP hD
  have ham : a ∈ L := List.mem_of_getElem? hi
  have ha9 : a ≠ 999999 := Nat.ne_of_lt (h7 a ham).1
  refine ⟨hP, hD, fun a' ha' => ?_, h4, h5, ?_, fun a' ha' => ⟨(h7 a' ha').1, ?_⟩⟩
  · by_cases q : a' = a
    · subst q; exact Or.inl ham
    · simp only [oj_up, if_neg q] at ha'
      exact h3 a' ha'
  · simp only [oj_up, if_neg (Ne.symm ha9)]
    exact h6
  · by_cases q : a' = a
    · subst q; simp only [oj_up, if_true]; exact hx
    · simp only [oj_up, if_neg q]; exact (h7 a' ha').2
/-- what an instruction without choices does to a frame -/
def oj_st (i : Instr) (nx : Nat) (c : Int32) (t : Nat) (ls : List (Option Value)) (st : List Value) : Option (Nat × List (Option Value) × List Value) := match i with
  | .iconst _ | .bipush _ | .sipush _ => some (nx, ls, .int c :: st)
  | .lconst q => some (nx, ls, .long (Int64.ofNat (q : Nat)) :: st)
  | .iload _ | .iload_n _ => (match oj_get ls t with
    | some (.int x) => some (nx, ls, .int x :: st)
    | _ => none)
  | .istore _ | .istore_n _ => (match st with
    | .int x :: st => bif Nat.blt t ls.length then some (nx, oj_set ls t (some (.int x)), st) else none
    | _ => none)
  | .aload _ | .aload_n _ => (match oj_get ls t with
    | some (.ref x) => some (nx, ls, .ref x :: st)
    | _ => none)
  | .astore _ | .astore_n _ => (match st with
    | .ref x :: st => bif Nat.blt t ls.length then some (nx, oj_set ls t (some (.ref x)), st) else none
    | _ => none)
  | .dload _ | .dload_n _ => (match oj_get ls t with
    | some (.double x) => some (nx, ls, .double x :: st)
    | _ => none)
  | .dstore _ | .dstore_n _ => (match st with
    | .double x :: st => bif Nat.blt (t + 1) ls.length then some (nx, oj_set ls t (some (.double x)), st) else none
    | _ => none)
  | .iinc _ _ => (match oj_get ls t with
    | some (.int x) => some (nx, oj_set ls t (some (.int (x + c))), st)
    | _ => none)
  | .iadd => (match st with
    | .int y :: .int x :: st => some (nx, ls, .int (x + y) :: st)
    | _ => none)
  | .isub => (match st with
    | .int y :: .int x :: st => some (nx, ls, .int (x - y) :: st)
    | _ => none)
  | .imul => (match st with
    | .int y :: .int x :: st => some (nx, ls, .int (x * y) :: st)
    | _ => none)
  | .iand => (match st with
    | .int y :: .int x :: st => some (nx, ls, .int (x &&& y) :: st)
    | _ => none)
  | .ixor => (match st with
    | .int y :: .int x :: st => some (nx, ls, .int (x ^^^ y) :: st)
    | _ => none)
  | .ishl => (match st with
    | .int y :: .int x :: st => some (nx, ls, .int (x <<< (y &&& 31)) :: st)
    | _ => none)
  | .iushr => (match st with
    | .int y :: .int x :: st => some (nx, ls, .int (x.toUInt32 >>> (y.toUInt32 &&& Int32.toUInt32 31)).toInt32 :: st)
    | _ => none)
  | .ladd => (match st with
    | .long y :: .long x :: st => some (nx, ls, .long (x + y) :: st)
    | _ => none)
  | .lcmp => (match st with
    | .long y :: .long x :: st => some (nx, ls, .int (lg_cmp x y) :: st)
    | _ => none)
  | .ineg => (match st with
    | .int x :: st => some (nx, ls, .int (-x) :: st)
    | _ => none)
  | .i2l => (match st with
    | .int x :: st => some (nx, ls, .long (x.toInt64) :: st)
    | _ => none)
  | .l2i => (match st with
    | .long x :: st => some (nx, ls, .int (x.toInt32) :: st)
    | _ => none)
  | .i2c => (match st with
    | .int x :: st => some (nx, ls, .int ((x.toUInt32 % 65536).toInt32) :: st)
    | _ => none)
  | .i2f => (match st with
    | .int x :: st => some (nx, ls, .float (FP.i2f x) :: st)
    | _ => none)
  | .i2d => (match st with
    | .int x :: st => some (nx, ls, .double (FP.i2d x) :: st)
    | _ => none)
  | .l2d => (match st with
    | .long x :: st => some (nx, ls, .double (FP.l2d x) :: st)
    | _ => none)
  | .dcmp op => (match st with
    | .double y :: .double x :: st => some (nx, ls, .int (Op.cmpValue (FP.dcmp x y) op) :: st)
    | _ => none)
  | .dup => (match st with
    | .int x :: st => some (nx, ls, .int x :: .int x :: st)
    | .ref x :: st => some (nx, ls, .ref x :: .ref x :: st)
    | _ => none)
  | .dup2 => (match st with
    | .int y :: .ref x :: st => some (nx, ls, .int y :: .ref x :: .int y :: .ref x :: st)
    | _ => none)
  | .aconst_null => some (nx, ls, .null :: st)
  | .pop => (match st with
    | .int _ :: st => some (nx, ls, st)
    | .ref _ :: st => some (nx, ls, st)
    | _ => none)
  | .goto _ => some (t, ls, st)
  | _ => none
section OJ1
variable {μ : MI} {d mc ms : Nat} {Q : QT} {k n pc : Nat} {ls : List (Option Value)} {st : List Value} {h : AHp} {i : Instr} {len nx : Nat} {c : Int32} {t : Nat}
set_option maxHeartbeats 4000000 in
theorem J_step {pc' : Nat} {ls' : List (Option Value)} {st' : List Value} (he : mT μ pc = some (i, len, nx, c, t)) (hf : oj_st i nx c t ls st = some (pc', ls', st')) (kk : J μ d mc ms Q k n pc' ls' st' h) : J μ d mc ms Q k n pc ls st h := by
  intro p l e R s m args below meth c1 A D tyA adK adV b scr ad0 L0 Qc C ad L H locs lsc ho hW hS hL
  obtain ⟨hx, hb, hg, -⟩ := id C
  obtain ⟨hd, hl, hn, hc, ht⟩ := oj_okE_spec (hg pc _ he)
  have KK := fun lsc' hL' => kk p l e R s m args below meth c1 A D tyA adK adV b scr ad0 L0 Qc C ad L H locs lsc' ho hW hS hL'
  cases i
  case iconst q =>
    simp only [oj_st] at hf
    cases hf
    obtain rfl : len = 1 := of_decide_eq_true hl
    subst hn
    exact lv_iconst hx hb hd (of_decide_eq_true hc) (KK lsc hL)
  case bipush q =>
    simp only [oj_st] at hf
    cases hf
    obtain rfl : len = 2 := of_decide_eq_true hl
    subst hn
    exact lv_bipush hx hb hd (of_decide_eq_true hc) (KK lsc hL)
  case sipush q =>
    simp only [oj_st] at hf
    cases hf
    obtain rfl : len = 3 := of_decide_eq_true hl
    subst hn
    exact lv_sipush hx hb hd (of_decide_eq_true hc) (KK lsc hL)
  case lconst q =>
    simp only [oj_st] at hf
    cases hf
    obtain rfl : len = 1 := of_decide_eq_true hl
    subst hn
    exact lv_lconst hx hb hd rfl (KK lsc hL)
  case iload q =>
    simp only [oj_st] at hf
    obtain rfl : q = t := of_decide_eq_true ht
    split at hf
    · rename_i x hq
      cases hf
      obtain rfl : len = 2 := of_decide_eq_true hl
      subst hn
      exact lv_iload hx hb hd (hL.2.2.2 _ _ (oj_get_eq _ _ _ hq)) (KK lsc hL)
    · cases hf
  case iload_n q =>
    simp only [oj_st] at hf
    have hq0 : (q : Nat) = t := of_decide_eq_true ht
    split at hf
    · rename_i x hq
      cases hf
      obtain rfl : len = 1 := of_decide_eq_true hl
      subst hn
      exact lv_iload_n hx hb hd hq0 (hL.2.2.2 _ _ (oj_get_eq _ _ _ hq)) (KK lsc hL)
    · cases hf
  case istore q =>
    simp only [oj_st] at hf
    obtain rfl : q = t := of_decide_eq_true ht
    split at hf
    · rename_i x st0
      cases hbt : Nat.blt q ls.length with
      | false => rw [hbt] at hf; cases hf
      | true =>
        rw [hbt] at hf
        cases hf
        obtain rfl : len = 2 := of_decide_eq_true hl
        subst hn
        exact lv_istore hx hb hd (oj_lv_has hL) (Nat.lt_of_lt_of_eq (Nat.le_of_ble_eq_true hbt) hL.2.1) rfl (fun ls' hl' => KK ls' (oj_L_of hL (by simp [Value.category]) hl'))
    · cases hf
  case istore_n q =>
    simp only [oj_st] at hf
    have hq0 : (q : Nat) = t := of_decide_eq_true ht
    split at hf
    · rename_i x st0
      cases hbt : Nat.blt t ls.length with
      | false => rw [hbt] at hf; cases hf
      | true =>
        rw [hbt] at hf
        cases hf
        obtain rfl : len = 1 := of_decide_eq_true hl
        subst hn
        exact lv_istore_n hx hb hd hq0 (oj_lv_has hL) (Nat.lt_of_lt_of_eq (Nat.le_of_ble_eq_true hbt) hL.2.1) rfl (fun ls' hl' => KK ls' (oj_L_of hL (by simp [Value.category]) hl'))
    · cases hf
  case aload q =>
    simp only [oj_st] at hf
    obtain rfl : q = t := of_decide_eq_true ht
    split at hf
    · rename_i x hq
      cases hf
      obtain rfl : len = 2 := of_decide_eq_true hl
      subst hn
      exact lv_aload hx hb hd (hL.2.2.2 _ _ (oj_get_eq _ _ _ hq)) (KK lsc hL)
    · cases hf
  case aload_n q =>
    simp only [oj_st] at hf
    have hq0 : (q : Nat) = t := of_decide_eq_true ht
    split at hf
    · rename_i x hq
      cases hf
      obtain rfl : len = 1 := of_decide_eq_true hl
      subst hn
      exact lv_aload_n hx hb hd hq0 (hL.2.2.2 _ _ (oj_get_eq _ _ _ hq)) (KK lsc hL)
    · cases hf
  case astore q =>
    simp only [oj_st] at hf
    obtain rfl : q = t := of_decide_eq_true ht
    split at hf
    · rename_i x st0
      cases hbt : Nat.blt q ls.length with
      | false => rw [hbt] at hf; cases hf
      | true =>
        rw [hbt] at hf
        cases hf
        obtain rfl : len = 2 := of_decide_eq_true hl
        subst hn
        exact lv_astore hx hb hd (oj_lv_has hL) (Nat.lt_of_lt_of_eq (Nat.le_of_ble_eq_true hbt) hL.2.1) rfl (fun ls' hl' => KK ls' (oj_L_of hL (by simp [Value.category]) hl'))
    · cases hf
  case astore_n q =>
    simp only [oj_st] at hf
    have hq0 : (q : Nat) = t := of_decide_eq_true ht
    split at hf
    · rename_i x st0
      cases hbt : Nat.blt t ls.length with
      | false => rw [hbt] at hf; cases hf
      | true =>
        rw [hbt] at hf
        cases hf
        obtain rfl : len = 1 := of_decide_eq_true hl
        subst hn
        exact lv_astore_n hx hb hd hq0 (oj_lv_has hL) (Nat.lt_of_lt_of_eq (Nat.le_of_ble_eq_true hbt) hL.2.1) rfl (fun ls' hl' => KK ls' (oj_L_of hL (by simp [Value.category]) hl'))
    · cases hf
  case dload q =>
    simp only [oj_st] at hf
    obtain rfl : q = t := of_decide_eq_true ht
    split at hf
    · rename_i x hq
      cases hf
      obtain rfl : len = 2 := of_decide_eq_true hl
      subst hn
      exact lv_dload hx hb hd (hL.2.2.2 _ _ (oj_get_eq _ _ _ hq)) (KK lsc hL)
    · cases hf
  case dload_n q =>
    simp only [oj_st] at hf
    have hq0 : (q : Nat) = t := of_decide_eq_true ht
    split at hf
    · rename_i x hq
      cases hf
      obtain rfl : len = 1 := of_decide_eq_true hl
      subst hn
      exact lv_dload_n hx hb hd hq0 (hL.2.2.2 _ _ (oj_get_eq _ _ _ hq)) (KK lsc hL)
    · cases hf
  case dstore q =>
    simp only [oj_st] at hf
    obtain rfl : q = t := of_decide_eq_true ht
    split at hf
    · rename_i x st0
      cases hbt : Nat.blt (q + 1) ls.length with
      | false => rw [hbt] at hf; cases hf
      | true =>
        rw [hbt] at hf
        cases hf
        obtain rfl : len = 2 := of_decide_eq_true hl
        subst hn
        exact lv_dstore hx hb hd (oj_lv_has hL) (Nat.lt_of_lt_of_eq (Nat.le_of_ble_eq_true hbt) hL.2.1) rfl (fun ls' hl' => KK ls' (oj_L_of2 hL (by simp [Value.category]) hl'))
    · cases hf
  case dstore_n q =>
    simp only [oj_st] at hf
    have hq0 : (q : Nat) = t := of_decide_eq_true ht
    split at hf
    · rename_i x st0
      cases hbt : Nat.blt (t + 1) ls.length with
      | false => rw [hbt] at hf; cases hf
      | true =>
        rw [hbt] at hf
        cases hf
        obtain rfl : len = 1 := of_decide_eq_true hl
        subst hn
        exact lv_dstore_n hx hb hd hq0 (oj_lv_has hL) (Nat.lt_of_lt_of_eq (Nat.le_of_ble_eq_true hbt) hL.2.1) rfl (fun ls' hl' => KK ls' (oj_L_of2 hL (by simp [Value.category]) hl'))
    · cases hf
  case iinc q w =>
    simp only [oj_st] at hf
    obtain rfl : q = t := of_decide_eq_true ht
    obtain rfl : Int32.ofInt w = c := of_decide_eq_true hc
    split at hf
    · rename_i x hq
      cases hf
      obtain rfl : len = 3 := of_decide_eq_true hl
      subst hn
      have hg9 := oj_get_eq _ _ _ hq
      obtain ⟨k9, hk9⟩ := List.getElem?_of_mem (oj_lv_mem (ad := ad) hg9)
      exact lv_iinc hx hb hd (oj_lv_has hL) hk9 rfl (Nat.lt_of_lt_of_eq (List.getElem?_eq_some_iff.mp hg9).1 hL.2.1) rfl (fun ls' hl' => KK ls' (oj_L_of hL (by simp [Value.category]) hl'))
    · cases hf
  case iadd =>
    simp only [oj_st] at hf
    split at hf
    · cases hf
      obtain rfl : len = 1 := of_decide_eq_true hl
      subst hn
      exact lv_iadd hx hb hd (KK lsc hL)
    · cases hf
  case isub =>
    simp only [oj_st] at hf
    split at hf
    · cases hf
      obtain rfl : len = 1 := of_decide_eq_true hl
      subst hn
      exact lv_isub hx hb hd (KK lsc hL)
    · cases hf
  case imul =>
    simp only [oj_st] at hf
    split at hf
    · cases hf
      obtain rfl : len = 1 := of_decide_eq_true hl
      subst hn
      exact lv_imul hx hb hd (KK lsc hL)
    · cases hf
  case iand =>
    simp only [oj_st] at hf
    split at hf
    · cases hf
      obtain rfl : len = 1 := of_decide_eq_true hl
      subst hn
      exact lv_iand hx hb hd (KK lsc hL)
    · cases hf
  case ixor =>
    simp only [oj_st] at hf
    split at hf
    · cases hf
      obtain rfl : len = 1 := of_decide_eq_true hl
      subst hn
      exact lv_ixor hx hb hd (KK lsc hL)
    · cases hf
  case ishl =>
    simp only [oj_st] at hf
    split at hf
    · cases hf
      obtain rfl : len = 1 := of_decide_eq_true hl
      subst hn
      exact lv_ishl hx hb hd (KK lsc hL)
    · cases hf
  case iushr =>
    simp only [oj_st] at hf
    split at hf
    · cases hf
      obtain rfl : len = 1 := of_decide_eq_true hl
      subst hn
      exact lv_iushr hx hb hd rfl (KK lsc hL)
    · cases hf
  case ladd =>
    simp only [oj_st] at hf
    split at hf
    · cases hf
      obtain rfl : len = 1 := of_decide_eq_true hl
      subst hn
      exact lv_ladd hx hb hd (KK lsc hL)
    · cases hf
  case lcmp =>
    simp only [oj_st] at hf
    split at hf
    · cases hf
      obtain rfl : len = 1 := of_decide_eq_true hl
      subst hn
      exact W.lcmp hx hb hd (KK lsc hL)
    · cases hf
  case ineg =>
    simp only [oj_st] at hf
    split at hf
    · cases hf
      obtain rfl : len = 1 := of_decide_eq_true hl
      subst hn
      exact lv_ineg hx hb hd (KK lsc hL)
    · cases hf
  case i2l =>
    simp only [oj_st] at hf
    split at hf
    · cases hf
      obtain rfl : len = 1 := of_decide_eq_true hl
      subst hn
      exact lv_i2l hx hb hd rfl (KK lsc hL)
    · cases hf
  case l2i =>
    simp only [oj_st] at hf
    split at hf
    · cases hf
      obtain rfl : len = 1 := of_decide_eq_true hl
      subst hn
      exact lv_l2i hx hb hd rfl (KK lsc hL)
    · cases hf
  case i2c =>
    simp only [oj_st] at hf
    split at hf
    · cases hf
      obtain rfl : len = 1 := of_decide_eq_true hl
      subst hn
      exact lv_i2c hx hb hd rfl (KK lsc hL)
    · cases hf
  case i2f =>
    simp only [oj_st] at hf
    split at hf
    · cases hf
      obtain rfl : len = 1 := of_decide_eq_true hl
      subst hn
      exact lv_i2f hx hb hd (KK lsc hL)
    · cases hf
  case i2d =>
    simp only [oj_st] at hf
    split at hf
    · cases hf
      obtain rfl : len = 1 := of_decide_eq_true hl
      subst hn
      exact lv_i2d hx hb hd (KK lsc hL)
    · cases hf
  case l2d =>
    simp only [oj_st] at hf
    split at hf
    · cases hf
      obtain rfl : len = 1 := of_decide_eq_true hl
      subst hn
      exact lv_l2d hx hb hd (KK lsc hL)
    · cases hf
  case dcmp op =>
    simp only [oj_st] at hf
    split at hf
    · cases hf
      obtain rfl : len = 1 := of_decide_eq_true hl
      subst hn
      exact lv_dcmp hx hb hd (KK lsc hL)
    · cases hf
  case dup =>
    simp only [oj_st] at hf
    split at hf
    · cases hf
      obtain rfl : len = 1 := of_decide_eq_true hl
      subst hn
      exact lv_dup hx hb hd rfl (KK lsc hL)
    · cases hf
      obtain rfl : len = 1 := of_decide_eq_true hl
      subst hn
      exact lv_dup hx hb hd rfl (KK lsc hL)
    · cases hf
  case dup2 =>
    simp only [oj_st] at hf
    split at hf
    · cases hf
      obtain rfl : len = 1 := of_decide_eq_true hl
      subst hn
      exact lv_dup2_11 hx hb hd rfl rfl (KK lsc hL)
    · cases hf
  case aconst_null =>
    simp only [oj_st] at hf
    cases hf
    obtain rfl : len = 1 := of_decide_eq_true hl
    subst hn
    exact lv_null hx hb hd (KK lsc hL)
  case pop =>
    simp only [oj_st] at hf
    split at hf
    · cases hf
      obtain rfl : len = 1 := of_decide_eq_true hl
      subst hn
      exact lv_pop hx hb hd rfl (KK lsc hL)
    · cases hf
      obtain rfl : len = 1 := of_decide_eq_true hl
      subst hn
      exact lv_pop hx hb hd rfl (KK lsc hL)
    · cases hf
  case goto o =>
    simp only [oj_st] at hf
    cases hf
    obtain rfl : len = 3 := of_decide_eq_true hl
    exact lv_goto hx hb hd (of_decide_eq_true ht) (KK lsc hL)
  all_goals (exact absurd hf (by simp [oj_st]))
def oj_cz (c : ClassFile.Cond) (x : Int32) : Prop := match c with
  | .eq => x = 0
  | .ne => ¬ x = 0
  | .lt => x < 0
  | .ge => 0 ≤ x
  | .gt => 0 < x
  | .le => x ≤ 0
def oj_cc (c : ClassFile.Cond) (x y : Int32) : Prop := match c with
  | .eq => x = y
  | .ne => ¬ x = y
  | .lt => x < y
  | .ge => y ≤ x
  | .gt => y < x
  | .le => x ≤ y
theorem J_if {cd : ClassFile.Cond} {off : Int} {x y : Int32} (he : mT μ pc = some (.ifCond cd off, len, nx, c, t)) (kt : oj_cz cd x → J μ d mc ms Q k n t ls st h) (kf : ¬ oj_cz cd x → J μ d mc ms Q k n nx ls st h) : J μ d mc ms Q k n pc ls (.int x :: st) h := by
  intro p l e R s m args below meth c1 A D tyA adK adV b scr ad0 L0 Qc C ad L H locs lsc ho hW hS hL
  obtain ⟨hx, hb, hg, -⟩ := id C
  obtain ⟨hd, hl, hn, hc, ht⟩ := oj_okE_spec (hg pc _ he)
  obtain rfl : len = 3 := of_decide_eq_true hl
  subst hn
  have KT := fun hq => kt hq p l e R s m args below meth c1 A D tyA adK adV b scr ad0 L0 Qc C ad L H locs lsc ho hW hS hL
  have KF := fun hq => kf hq p l e R s m args below meth c1 A D tyA adK adV b scr ad0 L0 Qc C ad L H locs lsc ho hW hS hL
  cases cd
  case eq => exact lv_if_eq hx hb hd (of_decide_eq_true ht) KT KF
  case ne => exact lv_if_ne hx hb hd (of_decide_eq_true ht) KT (fun hq => KF (fun hz => hz hq))
  case lt => exact lv_if_lt hx hb hd (of_decide_eq_true ht) KT KF
  case ge => exact lv_if_ge hx hb hd (of_decide_eq_true ht) KT KF
  case gt => exact lv_if_gt hx hb hd (of_decide_eq_true ht) KT KF
  case le => exact lv_if_le hx hb hd (of_decide_eq_true ht) KT KF
theorem J_ic {cd : ClassFile.Cond} {off : Int} {x y : Int32} (he : mT μ pc = some (.if_icmp cd off, len, nx, c, t)) (kt : oj_cc cd x y → J μ d mc ms Q k n t ls st h) (kf : ¬ oj_cc cd x y → J μ d mc ms Q k n nx ls st h) : J μ d mc ms Q k n pc ls (.int y :: .int x :: st) h := by
  intro p l e R s m args below meth c1 A D tyA adK adV b scr ad0 L0 Qc C ad L H locs lsc ho hW hS hL
  obtain ⟨hx, hb, hg, -⟩ := id C
  obtain ⟨hd, hl, hn, hc, ht⟩ := oj_okE_spec (hg pc _ he)
  obtain rfl : len = 3 := of_decide_eq_true hl
  subst hn
  have KT := fun hq => kt hq p l e R s m args below meth c1 A D tyA adK adV b scr ad0 L0 Qc C ad L H locs lsc ho hW hS hL
  have KF := fun hq => kf hq p l e R s m args below meth c1 A D tyA adK adV b scr ad0 L0 Qc C ad L H locs lsc ho hW hS hL
  cases cd
  case eq => exact lv_icmp_eq hx hb hd (of_decide_eq_true ht) KT KF
  case ne => exact lv_icmp_ne hx hb hd (of_decide_eq_true ht) KT (fun hq => KF (fun hz => hz hq))
  case lt => exact lv_icmp_lt hx hb hd (of_decide_eq_true ht) KT KF
  case ge => exact lv_icmp_ge hx hb hd (of_decide_eq_true ht) KT KF
  case gt => exact lv_icmp_gt hx hb hd (of_decide_eq_true ht) KT KF
  case le => exact lv_icmp_le hx hb hd (of_decide_eq_true ht) KT KF
theorem J_idiv {x y : Int32} (he : mT μ pc = some (.idiv, len, nx, c, t)) (h0 : ¬ y = 0) (kk : J μ d mc ms Q k n nx ls (.int (x / y) :: st) h) : J μ d mc ms Q k n pc ls (.int y :: .int x :: st) h := by
  intro p l e R s m args below meth c1 A D tyA adK adV b scr ad0 L0 Qc C ad L H locs lsc ho hW hS hL
  obtain ⟨hx, hb, hg, -⟩ := id C
  obtain ⟨hd, hl, hn, hc, ht⟩ := oj_okE_spec (hg pc _ he)
  have KK := fun lsc' hL' => kk p l e R s m args below meth c1 A D tyA adK adV b scr ad0 L0 Qc C ad L H locs lsc' ho hW hS hL'
  obtain rfl : len = 1 := of_decide_eq_true hl
  subst hn
  exact lv_idiv hx hb hd h0 (KK lsc hL)
theorem J_irem {x y : Int32} (he : mT μ pc = some (.irem, len, nx, c, t)) (h0 : ¬ y = 0) (kk : J μ d mc ms Q k n nx ls (.int (x - x / y * y) :: st) h) : J μ d mc ms Q k n pc ls (.int y :: .int x :: st) h := by
  intro p l e R s m args below meth c1 A D tyA adK adV b scr ad0 L0 Qc C ad L H locs lsc ho hW hS hL
  obtain ⟨hx, hb, hg, -⟩ := id C
  obtain ⟨hd, hl, hn, hc, ht⟩ := oj_okE_spec (hg pc _ he)
  have KK := fun lsc' hL' => kk p l e R s m args below meth c1 A D tyA adK adV b scr ad0 L0 Qc C ad L H locs lsc' ho hW hS hL'
  obtain rfl : len = 1 := of_decide_eq_true hl
  subst hn
  exact lv_irem hx hb hd h0 (KK lsc hL)
theorem J_fdiv {x y : UInt32} (he : mT μ pc = some (.fdiv, len, nx, c, t)) (h0 : vf_n32 (FP.fdiv x y)) (kk : J μ d mc ms Q k n nx ls (.float (FP.fdiv x y) :: st) h) : J μ d mc ms Q k n pc ls (.float y :: .float x :: st) h := by
  intro p l e R s m args below meth c1 A D tyA adK adV b scr ad0 L0 Qc C ad L H locs lsc ho hW hS hL
  obtain ⟨hx, hb, hg, -⟩ := id C
  obtain ⟨hd, hl, hn, hc, ht⟩ := oj_okE_spec (hg pc _ he)
  have KK := fun lsc' hL' => kk p l e R s m args below meth c1 A D tyA adK adV b scr ad0 L0 Qc C ad L H locs lsc' ho hW hS hL'
  obtain rfl : len = 1 := of_decide_eq_true hl
  subst hn
  exact lv_fdiv hx hb hd h0 (KK lsc hL)
theorem J_ddiv {x y : UInt64} (he : mT μ pc = some (.ddiv, len, nx, c, t)) (h0 : vf_n64 (FP.ddiv x y)) (kk : J μ d mc ms Q k n nx ls (.double (FP.ddiv x y) :: st) h) : J μ d mc ms Q k n pc ls (.double y :: .double x :: st) h := by
  intro p l e R s m args below meth c1 A D tyA adK adV b scr ad0 L0 Qc C ad L H locs lsc ho hW hS hL
  obtain ⟨hx, hb, hg, -⟩ := id C
  obtain ⟨hd, hl, hn, hc, ht⟩ := oj_okE_spec (hg pc _ he)
  have KK := fun lsc' hL' => kk p l e R s m args below meth c1 A D tyA adK adV b scr ad0 L0 Qc C ad L H locs lsc' ho hW hS hL'
  obtain rfl : len = 1 := of_decide_eq_true hl
  subst hn
  exact lv_ddiv hx hb hd h0 (KK lsc hL)
theorem J_f2d {x : UInt32} (he : mT μ pc = some (.f2d, len, nx, c, t)) (h0 : vf_n64 (FP.f2d x)) (kk : J μ d mc ms Q k n nx ls (.double (FP.f2d x) :: st) h) : J μ d mc ms Q k n pc ls (.float x :: st) h := by
  intro p l e R s m args below meth c1 A D tyA adK adV b scr ad0 L0 Qc C ad L H locs lsc ho hW hS hL
  obtain ⟨hx, hb, hg, -⟩ := id C
  obtain ⟨hd, hl, hn, hc, ht⟩ := oj_okE_spec (hg pc _ he)
  have KK := fun lsc' hL' => kk p l e R s m args below meth c1 A D tyA adK adV b scr ad0 L0 Qc C ad L H locs lsc' ho hW hS hL'
  obtain rfl : len = 1 := of_decide_eq_true hl
  subst hn
  exact lv_f2d hx hb hd h0 (KK lsc hL)
theorem J_fconst0 (he : mT μ pc = some (.fconst 0, len, nx, c, t)) (kk : J μ d mc ms Q k n nx ls (.float FP.fconst0 :: st) h) : J μ d mc ms Q k n pc ls (st) h := by
  intro p l e R s m args below meth c1 A D tyA adK adV b scr ad0 L0 Qc C ad L H locs lsc ho hW hS hL
  obtain ⟨hx, hb, hg, -⟩ := id C
  obtain ⟨hd, hl, hn, hc, ht⟩ := oj_okE_spec (hg pc _ he)
  have KK := fun lsc' hL' => kk p l e R s m args below meth c1 A D tyA adK adV b scr ad0 L0 Qc C ad L H locs lsc' ho hW hS hL'
  obtain rfl : len = 1 := of_decide_eq_true hl
  subst hn
  exact lv_fconst0 hx hb hd (KK lsc hL)
theorem J_ifnull {a : Nat} {off : Int} (he : mT μ pc = some (.ifnull off, len, nx, c, t)) (kk : J μ d mc ms Q k n nx ls (st) h) : J μ d mc ms Q k n pc ls (.ref a :: st) h := by
  intro p l e R s m args below meth c1 A D tyA adK adV b scr ad0 L0 Qc C ad L H locs lsc ho hW hS hL
  obtain ⟨hx, hb, hg, -⟩ := id C
  obtain ⟨hd, hl, hn, hc, ht⟩ := oj_okE_spec (hg pc _ he)
  have KK := fun lsc' hL' => kk p l e R s m args below meth c1 A D tyA adK adV b scr ad0 L0 Qc C ad L H locs lsc' ho hW hS hL'
  obtain rfl : len = 3 := of_decide_eq_true hl
  subst hn
  exact lv_ifnull hx hb hd (KK lsc hL)
theorem J_ifnullN {off : Int} (he : mT μ pc = some (.ifnull off, len, nx, c, t)) (kk : J μ d mc ms Q k n t ls st h) : J μ d mc ms Q k n pc ls (.null :: st) h := by
  intro p l e R s m args below meth c1 A D tyA adK adV b scr ad0 L0 Qc C ad L H locs lsc ho hW hS hL
  obtain ⟨hx, hb, hg, -⟩ := id C
  obtain ⟨hd, hl, hn, hc, ht⟩ := oj_okE_spec (hg pc _ he)
  have KK := fun lsc' hL' => kk p l e R s m args below meth c1 A D tyA adK adV b scr ad0 L0 Qc C ad L H locs lsc' ho hW hS hL'
  obtain rfl : len = 3 := of_decide_eq_true hl
  exact lv_ifnullN hx hb hd (of_decide_eq_true ht) (KK lsc hL)
theorem J_tswIn {dflt lo hi : Int} {offs : Array Int} {x : Int32} {off : Int} {tgt : Nat} (he : mT μ pc = some (.tableswitch dflt lo hi offs, len, nx, c, t)) (h1 : ¬ x.toInt < lo) (h2 : ¬ hi < x.toInt) (ho1 : offs[(x.toInt - lo).toNat]? = some off) (ht1 : (pc : Int) + off = (tgt : Int)) (kk : J μ d mc ms Q k n tgt ls st h) : J μ d mc ms Q k n pc ls (.int x :: st) h := by
  intro p l e R s m args below meth c1 A D tyA adK adV b scr ad0 L0 Qc C ad L H locs lsc ho hW hS hL
  obtain ⟨hx, hb, hg, -⟩ := id C
  obtain ⟨hd, hl, hn, hc, ht⟩ := oj_okE_spec (hg pc _ he)
  have KK := fun lsc' hL' => kk p l e R s m args below meth c1 A D tyA adK adV b scr ad0 L0 Qc C ad L H locs lsc' ho hW hS hL'
  exact lv_tableIn hx hb hd h1 h2 ho1 ht1 (KK lsc hL)
theorem J_tswOut {dflt lo hi : Int} {offs : Array Int} {x : Int32} {tgt : Nat} (he : mT μ pc = some (.tableswitch dflt lo hi offs, len, nx, c, t)) (h1 : x.toInt < lo ∨ hi < x.toInt) (ht1 : (pc : Int) + dflt = (tgt : Int)) (kk : J μ d mc ms Q k n tgt ls st h) : J μ d mc ms Q k n pc ls (.int x :: st) h := by
  intro p l e R s m args below meth c1 A D tyA adK adV b scr ad0 L0 Qc C ad L H locs lsc ho hW hS hL
  obtain ⟨hx, hb, hg, -⟩ := id C
  obtain ⟨hd, hl, hn, hc, ht⟩ := oj_okE_spec (hg pc _ he)
  have KK := fun lsc' hL' => kk p l e R s m args below meth c1 A D tyA adK adV b scr ad0 L0 Qc C ad L H locs lsc' ho hW hS hL'
  exact lv_tableOut hx hb hd h1 ht1 (KK lsc hL)
theorem J_lsw {dflt : Int} {ps : Array (Int × Int)} {x : Int32} {off : Int} {tgt : Nat} (he : mT μ pc = some (.lookupswitch dflt ps, len, nx, c, t)) (hp : (ps.toList.zip (ps.toList.drop 1)).all (fun (a, next) => a.1 < next.1) = true) (ho1 : Op.lookupswitch.offset ps.toList dflt x.toInt = off) (ht1 : (pc : Int) + off = (tgt : Int)) (kk : J μ d mc ms Q k n tgt ls st h) : J μ d mc ms Q k n pc ls (.int x :: st) h := by
  intro p l e R s m args below meth c1 A D tyA adK adV b scr ad0 L0 Qc C ad L H locs lsc ho hW hS hL
  obtain ⟨hx, hb, hg, -⟩ := id C
  obtain ⟨hd, hl, hn, hc, ht⟩ := oj_okE_spec (hg pc _ he)
  have KK := fun lsc' hL' => kk p l e R s m args below meth c1 A D tyA adK adV b scr ad0 L0 Qc C ad L H locs lsc' ho hW hS hL'
  exact lv_lookup hx hb hd hp ho1 ht1 (KK lsc hL)
theorem J_widen {k' n' : Nat} (h1 : k ≤ k') (h2 : n ≤ n') (kk : J μ d mc ms Q k' n' pc ls st h) : J μ d mc ms Q k n pc ls st h := by
  intro p l e R s m args below meth c1 A D tyA adK adV b scr ad0 L0 Qc C ad L H locs lsc ho hW hS hL
  exact W.widen h1 h2 (kk p l e R s m args below meth c1 A D tyA adK adV b scr ad0 L0 Qc C ad L H locs lsc ho hW hS hL)
theorem J_fewer {ls' : List (Option Value)} (hlen : ls'.length = ls.length) (hs : ∀ (i : Nat) (v : Value), ls'[i]? = some (some v) → ls[i]? = some (some v)) (kk : J μ d mc ms Q k n pc ls' st h) : J μ d mc ms Q k n pc ls st h := by
  intro p l e R s m args below meth c1 A D tyA adK adV b scr ad0 L0 Qc C ad L H locs lsc ho hW hS hL
  exact kk p l e R s m args below meth c1 A D tyA adK adV b scr ad0 L0 Qc C ad L H locs lsc ho hW hS ⟨hL.1, hlen.trans hL.2.1, hL.2.2.1, fun i v hv => hL.2.2.2 i v (hs i v hv)⟩
theorem J_iald {a N : Nat} {f : Nat → Int32} {x : Int32} (he : mT μ pc = some (.iaload, len, nx, c, t)) (ha : h a = .inl (0, N, .inl f)) (hin : vp_in x N) (kk : J μ d mc ms Q k n nx ls (.int (f x.toNatClampNeg) :: st) h) : J μ d mc ms Q k n pc ls (.int x :: .ref a :: st) h := by
  intro p l e R s m args below meth c1 A D tyA adK adV b scr ad0 L0 Qc C ad L H locs lsc ho hW hS hL
  obtain ⟨hx, hb, hg, -⟩ := id C
  obtain ⟨hd, hl, hn, hc, ht⟩ := oj_okE_spec (hg pc _ he)
  have KK := fun lsc' hL' => kk p l e R s m args below meth c1 A D tyA adK adV b scr ad0 L0 Qc C ad L H locs lsc' ho hW hS hL'
  obtain rfl : len = 1 := of_decide_eq_true hl
  subst hn
  obtain ⟨-, -, -, -, -, -, -, -, hK, -⟩ := id C
  obtain ⟨i9, hi9, hw9⟩ := oj_idx hW (a := a) (by rw [ha]; intro z; cases z) (by rw [ha]; intro N9 y9 z; cases z)
  rw [ha] at hw9
  exact va_iald hx hb hK hW.1 i9 0 hw9 rfl hin hd (KK lsc hL)
theorem J_cald {a N : Nat} {f : Nat → Int32} {x : Int32} (he : mT μ pc = some (.caload, len, nx, c, t)) (ha : h a = .inl (1, N, .inl f)) (hin : vp_in x N) (kk : J μ d mc ms Q k n nx ls (.int (f x.toNatClampNeg) :: st) h) : J μ d mc ms Q k n pc ls (.int x :: .ref a :: st) h := by
  intro p l e R s m args below meth c1 A D tyA adK adV b scr ad0 L0 Qc C ad L H locs lsc ho hW hS hL
  obtain ⟨hx, hb, hg, -⟩ := id C
  obtain ⟨hd, hl, hn, hc, ht⟩ := oj_okE_spec (hg pc _ he)
  have KK := fun lsc' hL' => kk p l e R s m args below meth c1 A D tyA adK adV b scr ad0 L0 Qc C ad L H locs lsc' ho hW hS hL'
  obtain rfl : len = 1 := of_decide_eq_true hl
  subst hn
  obtain ⟨-, -, -, -, -, -, -, -, hK, -⟩ := id C
  obtain ⟨i9, hi9, hw9⟩ := oj_idx hW (a := a) (by rw [ha]; intro z; cases z) (by rw [ha]; intro N9 y9 z; cases z)
  rw [ha] at hw9
  exact va_cald hx hb hK hW.1 i9 1 hw9 rfl hin hd (KK lsc hL)
theorem J_bald {a N : Nat} {f : Nat → Int32} {x : Int32} (he : mT μ pc = some (.baload, len, nx, c, t)) (ha : h a = .inl (2, N, .inl f)) (hin : vp_in x N) (kk : J μ d mc ms Q k n nx ls (.int (f x.toNatClampNeg) :: st) h) : J μ d mc ms Q k n pc ls (.int x :: .ref a :: st) h := by
  intro p l e R s m args below meth c1 A D tyA adK adV b scr ad0 L0 Qc C ad L H locs lsc ho hW hS hL
  obtain ⟨hx, hb, hg, -⟩ := id C
  obtain ⟨hd, hl, hn, hc, ht⟩ := oj_okE_spec (hg pc _ he)
  have KK := fun lsc' hL' => kk p l e R s m args below meth c1 A D tyA adK adV b scr ad0 L0 Qc C ad L H locs lsc' ho hW hS hL'
  obtain rfl : len = 1 := of_decide_eq_true hl
  subst hn
  obtain ⟨-, -, -, -, -, -, -, -, hK, -⟩ := id C
  obtain ⟨i9, hi9, hw9⟩ := oj_idx hW (a := a) (by rw [ha]; intro z; cases z) (by rw [ha]; intro N9 y9 z; cases z)
  rw [ha] at hw9
  exact va_bald hx hb hK hW.1 i9 2 hw9 rfl hin hd (KK lsc hL)
theorem J_aald {a N b1 : Nat} {f : Nat → Option Nat} {x : Int32} (he : mT μ pc = some (.aaload, len, nx, c, t)) (ha : h a = .inl (4, N, .inr (.inr (.inr (.inr f))))) (hin : vp_in x N) (hb1 : f x.toNatClampNeg = some b1) (kk : J μ d mc ms Q k n nx ls (.ref b1 :: st) h) : J μ d mc ms Q k n pc ls (.int x :: .ref a :: st) h := by
  intro p l e R s m args below meth c1 A D tyA adK adV b scr ad0 L0 Qc C ad L H locs lsc ho hW hS hL
  obtain ⟨hx, hb, hg, -⟩ := id C
  obtain ⟨hd, hl, hn, hc, ht⟩ := oj_okE_spec (hg pc _ he)
  have KK := fun lsc' hL' => kk p l e R s m args below meth c1 A D tyA adK adV b scr ad0 L0 Qc C ad L H locs lsc' ho hW hS hL'
  obtain rfl : len = 1 := of_decide_eq_true hl
  subst hn
  obtain ⟨-, -, -, -, -, -, -, -, hK, -⟩ := id C
  obtain ⟨i9, hi9, hw9⟩ := oj_idx hW (a := a) (by rw [ha]; intro z; cases z) (by rw [ha]; intro N9 y9 z; cases z)
  rw [ha] at hw9
  refine va_aldq hx hb hK hW.1 i9 4 hw9 rfl hin hd ?_
  rw [if_pos (Nat.lt_of_not_le fun z => hin (Or.inr z)), hb1]
  exact KK lsc hL
theorem J_iast {a N : Nat} {f : Nat → Int32} {x : Int32} {v : Int32} (he : mT μ pc = some (.iastore, len, nx, c, t)) (ha : h a = .inl (0, N, .inl f)) (hin : vp_in x N) (kk : J μ d mc ms Q k n nx ls st (oj_up h a (.inl (0, N, .inl (upd f x.toNatClampNeg v))))) : J μ d mc ms Q k n pc ls (.int v :: .int x :: .ref a :: st) h := by
  intro p l e R s m args below meth c1 A D tyA adK adV b scr ad0 L0 Qc C ad L H locs lsc ho hW hS hL
  obtain ⟨hx, hb, hg, -⟩ := id C
  obtain ⟨hd, hl, hn, hc, ht⟩ := oj_okE_spec (hg pc _ he)
  have KK := fun H1 locs1 hW1 hS1 => kk p l e R s m args below meth c1 A D tyA adK adV b scr ad0 L0 Qc C ad L H1 locs1 lsc ho hW1 hS1 hL
  obtain rfl : len = 1 := of_decide_eq_true hl
  subst hn
  obtain ⟨-, -, -, -, -, -, -, -, hK, -⟩ := id C
  obtain ⟨i9, hi9, hw9⟩ := oj_idx hW (a := a) (by rw [ha]; intro z; cases z) (by rw [ha]; intro N9 y9 z; cases z)
  rw [ha] at hw9
  exact va_iast hx hb hK hW.1 hW.2.1 hS i9 0 hw9 rfl hin hd (fun H1 locs1 hP1 hD1 hS1 => KK H1 locs1 (oj_W.put hW hi9 (by intro z; cases z) hP1 hD1) hS1)
theorem J_cast {a N : Nat} {f : Nat → Int32} {x v : Int32} (he : mT μ pc = some (.castore, len, nx, c, t)) (ha : h a = .inl (1, N, .inl f)) (hin : vp_in x N) (kk : J μ d mc ms Q k n nx ls st (oj_up h a (.inl (1, N, .inl (upd f x.toNatClampNeg (vp_nar .char v)))))) : J μ d mc ms Q k n pc ls (.int v :: .int x :: .ref a :: st) h := by
  intro p l e R s m args below meth c1 A D tyA adK adV b scr ad0 L0 Qc C ad L H locs lsc ho hW hS hL
  obtain ⟨hx, hb, hg, -⟩ := id C
  obtain ⟨hd, hl, hn, hc, ht⟩ := oj_okE_spec (hg pc _ he)
  have KK := fun H1 locs1 hW1 hS1 => kk p l e R s m args below meth c1 A D tyA adK adV b scr ad0 L0 Qc C ad L H1 locs1 lsc ho hW1 hS1 hL
  obtain rfl : len = 1 := of_decide_eq_true hl
  subst hn
  obtain ⟨-, -, -, -, -, -, -, -, hK, -⟩ := id C
  obtain ⟨i9, hi9, hw9⟩ := oj_idx hW (a := a) (by rw [ha]; intro z; cases z) (by rw [ha]; intro N9 y9 z; cases z)
  rw [ha] at hw9
  exact va_cast hx hb hK hW.1 hW.2.1 hS i9 1 hw9 rfl hin hd (fun H1 locs1 hP1 hD1 hS1 => KK H1 locs1 (oj_W.put hW hi9 (by intro z; cases z) hP1 hD1) hS1)
theorem J_bast {a N : Nat} {f : Nat → Int32} {x v : Int32} (he : mT μ pc = some (.bastore, len, nx, c, t)) (ha : h a = .inl (2, N, .inl f)) (hin : vp_in x N) (kk : J μ d mc ms Q k n nx ls st (oj_up h a (.inl (2, N, .inl (upd f x.toNatClampNeg (vp_nar .byte v)))))) : J μ d mc ms Q k n pc ls (.int v :: .int x :: .ref a :: st) h := by
  intro p l e R s m args below meth c1 A D tyA adK adV b scr ad0 L0 Qc C ad L H locs lsc ho hW hS hL
  obtain ⟨hx, hb, hg, -⟩ := id C
  obtain ⟨hd, hl, hn, hc, ht⟩ := oj_okE_spec (hg pc _ he)
  have KK := fun H1 locs1 hW1 hS1 => kk p l e R s m args below meth c1 A D tyA adK adV b scr ad0 L0 Qc C ad L H1 locs1 lsc ho hW1 hS1 hL
  obtain rfl : len = 1 := of_decide_eq_true hl
  subst hn
  obtain ⟨-, -, -, -, -, -, -, -, hK, -⟩ := id C
  obtain ⟨i9, hi9, hw9⟩ := oj_idx hW (a := a) (by rw [ha]; intro z; cases z) (by rw [ha]; intro N9 y9 z; cases z)
  rw [ha] at hw9
  exact va_bast hx hb hK hW.1 hW.2.1 hS i9 2 hw9 rfl hin hd (fun H1 locs1 hP1 hD1 hS1 => KK H1 locs1 (oj_W.put hW hi9 (by intro z; cases z) hP1 hD1) hS1)
theorem J_ifnonnull {a : Nat} {off : Int} (he : mT μ pc = some (.ifnonnull off, len, nx, c, t)) (kk : J μ d mc ms Q k n t ls st h) : J μ d mc ms Q k n pc ls (.ref a :: st) h := by
  intro p l e R s m args below meth c1 A D tyA adK adV b scr ad0 L0 Qc C ad L H locs lsc ho hW hS hL
  obtain ⟨hx, hb, hg, -⟩ := id C
  obtain ⟨hd, hl, hn, hc, ht⟩ := oj_okE_spec (hg pc _ he)
  have KK := fun lsc' hL' => kk p l e R s m args below meth c1 A D tyA adK adV b scr ad0 L0 Qc C ad L H locs lsc' ho hW hS hL'
  obtain rfl : len = 3 := of_decide_eq_true hl
  exact lv_ifnonnull hx hb hd (of_decide_eq_true ht) (KK lsc hL)
end OJ1
