def tb0_J_length (pc : Nat) : Option EN := bif Nat.ble 5 pc then (bif Nat.ble 9 pc then (bif Nat.ble 10 pc then (bif Nat.beq pc 10 then some (.ireturn, 1, 11, 0, 0) else none) else (bif Nat.beq pc 9 then some (.ishr, 1, 10, 0, 0) else none)) else (bif Nat.ble 6 pc then (bif Nat.beq pc 6 then some (.invokevirtual 335, 3, 9, 0, 0) else none) else (bif Nat.beq pc 5 then some (.aload_n 0, 1, 6, 0, 0) else none))) else (bif Nat.ble 1 pc then (bif Nat.ble 4 pc then (bif Nat.beq pc 4 then some (.arraylength, 1, 5, 0, 0) else none) else (bif Nat.beq pc 1 then some (.getfield 9, 3, 4, 0, 0) else none)) else (bif Nat.beq pc 0 then some (.aload_n 0, 1, 1, 0, 0) else none))
def tb_J_length (pc : Nat) : Option EN := bif Nat.ble 11 pc then none else tb0_J_length pc
def mi_J_length : MI := (8, yJ0_length_8abf5, cJ0_length_8abf5, 1, (some .int), [], false, tb_J_length)
theorem gd_J_length : oj_good mi_J_length := oj_good_of 11 tb0_J_length (fun _ => rfl) (by decide +kernel)
def tb0_J_coder (pc : Nat) : Option EN := bif Nat.ble 7 pc then (bif Nat.ble 13 pc then (bif Nat.ble 14 pc then (bif Nat.beq pc 14 then some (.ireturn, 1, 15, 0, 0) else none) else (bif Nat.beq pc 13 then some (.iconst 1, 1, 14, 1, 0) else none)) else (bif Nat.ble 10 pc then (bif Nat.beq pc 10 then some (.goto 4, 3, 13, 0, 14) else none) else (bif Nat.beq pc 7 then some (.getfield 15, 3, 10, 0, 0) else none))) else (bif Nat.ble 3 pc then (bif Nat.ble 6 pc then (bif Nat.beq pc 6 then some (.aload_n 0, 1, 7, 0, 0) else none) else (bif Nat.beq pc 3 then some (.ifCond .eq 10, 3, 6, 0, 13) else none)) else (none))
def tb_J_coder (pc : Nat) : Option EN := bif Nat.ble 15 pc then none else tb0_J_coder pc
def mi_J_coder : MI := (8, yJ0_coder_7d493, cJ0_coder_7d493, 1, (some .byte), [], false, tb_J_coder)
theorem gd_J_coder : oj_good mi_J_coder := oj_good_of 15 tb0_J_coder (fun _ => rfl) (by decide +kernel)
def tb0_J_charAt (pc : Nat) : Option EN := bif Nat.ble 12 pc then (bif Nat.ble 17 pc then (bif Nat.ble 21 pc then (bif Nat.ble 24 pc then (bif Nat.beq pc 24 then some (.ireturn, 1, 25, 0, 0) else none) else (bif Nat.beq pc 21 then some (.invokestatic 498, 3, 24, 0, 0) else none)) else (bif Nat.ble 20 pc then (bif Nat.beq pc 20 then some (.iload_n 1, 1, 21, 0, 1) else none) else (bif Nat.beq pc 17 then some (.getfield 9, 3, 20, 0, 0) else none))) else (bif Nat.ble 15 pc then (bif Nat.ble 16 pc then (bif Nat.beq pc 16 then some (.aload_n 0, 1, 17, 0, 0) else none) else (bif Nat.beq pc 15 then some (.ireturn, 1, 16, 0, 0) else none)) else (bif Nat.beq pc 12 then some (.invokestatic 495, 3, 15, 0, 0) else none))) else (bif Nat.ble 7 pc then (bif Nat.ble 8 pc then (bif Nat.ble 11 pc then (bif Nat.beq pc 11 then some (.iload_n 1, 1, 12, 0, 1) else none) else (bif Nat.beq pc 8 then some (.getfield 9, 3, 11, 0, 0) else none)) else (bif Nat.beq pc 7 then some (.aload_n 0, 1, 8, 0, 0) else none)) else (bif Nat.ble 1 pc then (bif Nat.ble 4 pc then (bif Nat.beq pc 4 then some (.ifCond .eq 12, 3, 7, 0, 16) else none) else (bif Nat.beq pc 1 then some (.invokevirtual 492, 3, 4, 0, 0) else none)) else (bif Nat.beq pc 0 then some (.aload_n 0, 1, 1, 0, 0) else none)))
def tb_J_charAt (pc : Nat) : Option EN := bif Nat.ble 25 pc then none else tb0_J_charAt pc
def mi_J_charAt : MI := (8, yJ0_charAt_5068e, cJ0_charAt_5068e, 2, (some .char), [], false, tb_J_charAt)
theorem gd_J_charAt : oj_good mi_J_charAt := oj_good_of 25 tb0_J_charAt (fun _ => rfl) (by decide +kernel)
def tb0_J_isLatin1 (pc : Nat) : Option EN := bif Nat.ble 10 pc then (bif Nat.ble 14 pc then (bif Nat.ble 17 pc then (bif Nat.ble 18 pc then (bif Nat.beq pc 18 then some (.ireturn, 1, 19, 0, 0) else none) else (bif Nat.beq pc 17 then some (.iconst 0, 1, 18, 0, 0) else none)) else (bif Nat.beq pc 14 then some (.goto 4, 3, 17, 0, 18) else none)) else (bif Nat.ble 13 pc then (bif Nat.beq pc 13 then some (.iconst 1, 1, 14, 1, 0) else none) else (bif Nat.beq pc 10 then some (.ifCond .ne 7, 3, 13, 0, 17) else none))) else (bif Nat.ble 6 pc then (bif Nat.ble 7 pc then (bif Nat.beq pc 7 then some (.getfield 15, 3, 10, 0, 0) else none) else (bif Nat.beq pc 6 then some (.aload_n 0, 1, 7, 0, 0) else none)) else (bif Nat.ble 3 pc then (bif Nat.beq pc 3 then some (.ifCond .eq 14, 3, 6, 0, 17) else none) else (none)))
def tb_J_isLatin1 (pc : Nat) : Option EN := bif Nat.ble 19 pc then none else tb0_J_isLatin1 pc
def mi_J_isLatin1 : MI := (8, yJ0_isLatin1_aae02, cJ0_isLatin1_aae02, 1, (some .boolean), [], false, tb_J_isLatin1)
theorem gd_J_isLatin1 : oj_good mi_J_isLatin1 := oj_good_of 19 tb0_J_isLatin1 (fun _ => rfl) (by decide +kernel)
def tb0_J_chk (pc : Nat) : Option EN := bif Nat.ble 5 pc then (bif Nat.ble 8 pc then (bif Nat.ble 9 pc then (bif Nat.beq pc 9 then some (.return_, 1, 10, 0, 0) else none) else (bif Nat.beq pc 8 then some (.pop, 1, 9, 0, 0) else none)) else (bif Nat.beq pc 5 then some (.invokestatic 1059, 3, 8, 0, 0) else none)) else (bif Nat.ble 1 pc then (bif Nat.ble 2 pc then (none) else (bif Nat.beq pc 1 then some (.iload_n 1, 1, 2, 0, 1) else none)) else (bif Nat.beq pc 0 then some (.iload_n 0, 1, 1, 0, 0) else none))
def tb_J_chk (pc : Nat) : Option EN := bif Nat.ble 10 pc then none else tb0_J_chk pc
def mi_J_chk : MI := (8, yJ0_checkIndex_df160, cJ0_checkIndex_df160, 2, none, [], false, tb_J_chk)
theorem gd_J_chk : oj_good mi_J_chk := oj_good_of 10 tb0_J_chk (fun _ => rfl) (by decide +kernel)
def tb0_J_lat (pc : Nat) : Option EN := bif Nat.ble 7 pc then (bif Nat.ble 12 pc then (bif Nat.ble 13 pc then (bif Nat.ble 14 pc then (bif Nat.beq pc 14 then some (.ireturn, 1, 15, 0, 0) else none) else (bif Nat.beq pc 13 then some (.i2c, 1, 14, 0, 0) else none)) else (bif Nat.beq pc 12 then some (.iand, 1, 13, 0, 0) else none)) else (bif Nat.ble 8 pc then (bif Nat.ble 9 pc then (bif Nat.beq pc 9 then some (.sipush 255, 3, 12, 255, 0) else none) else (bif Nat.beq pc 8 then some (.baload, 1, 9, 0, 0) else none)) else (bif Nat.beq pc 7 then some (.iload_n 1, 1, 8, 0, 1) else none))) else (bif Nat.ble 2 pc then (bif Nat.ble 3 pc then (bif Nat.ble 6 pc then (bif Nat.beq pc 6 then some (.aload_n 0, 1, 7, 0, 0) else none) else (bif Nat.beq pc 3 then some (.invokestatic 9, 3, 6, 0, 0) else none)) else (bif Nat.beq pc 2 then some (.arraylength, 1, 3, 0, 0) else none)) else (bif Nat.ble 1 pc then (bif Nat.beq pc 1 then some (.aload_n 0, 1, 2, 0, 0) else none) else (bif Nat.beq pc 0 then some (.iload_n 1, 1, 1, 0, 1) else none)))
def tb_J_lat (pc : Nat) : Option EN := bif Nat.ble 15 pc then none else tb0_J_lat pc
def mi_J_lat : MI := (9, yJ1_charAt_3b067, cJ1_charAt_3b067, 2, (some .char), [], false, tb_J_lat)
theorem gd_J_lat : oj_good mi_J_lat := oj_good_of 15 tb0_J_lat (fun _ => rfl) (by decide +kernel)
def tb0_J_pre (pc : Nat) : Option EN := bif Nat.ble 10 pc then (bif Nat.ble 15 pc then (bif Nat.ble 16 pc then (bif Nat.ble 17 pc then (bif Nat.beq pc 17 then some (.ireturn, 1, 18, 0, 0) else none) else (bif Nat.beq pc 16 then some (.iload_n 0, 1, 17, 0, 0) else none)) else (bif Nat.beq pc 15 then some (.athrow, 1, 16, 0, 0) else none)) else (bif Nat.ble 11 pc then (bif Nat.ble 12 pc then (bif Nat.beq pc 12 then some (.invokestatic 95, 3, 15, 0, 0) else none) else (bif Nat.beq pc 11 then some (.iload_n 1, 1, 12, 0, 1) else none)) else (bif Nat.beq pc 10 then some (.iload_n 0, 1, 11, 0, 0) else none))) else (bif Nat.ble 5 pc then (bif Nat.ble 6 pc then (bif Nat.ble 9 pc then (bif Nat.beq pc 9 then some (.aload_n 2, 1, 10, 0, 2) else none) else (bif Nat.beq pc 6 then some (.if_icmp .lt 10, 3, 9, 0, 16) else none)) else (bif Nat.beq pc 5 then some (.iload_n 1, 1, 6, 0, 1) else none)) else (bif Nat.ble 1 pc then (bif Nat.ble 4 pc then (bif Nat.beq pc 4 then some (.iload_n 0, 1, 5, 0, 0) else none) else (bif Nat.beq pc 1 then some (.ifCond .lt 8, 3, 4, 0, 9) else none)) else (bif Nat.beq pc 0 then some (.iload_n 0, 1, 1, 0, 0) else none)))
def tb_J_pre (pc : Nat) : Option EN := bif Nat.ble 18 pc then none else tb0_J_pre pc
def mi_J_pre : MI := (10, yJ3_checkIndex_8e157, cJ3_checkIndex_8e157, 3, (some .int), [], false, tb_J_pre)
theorem gd_J_pre : oj_good mi_J_pre := oj_good_of 18 tb0_J_pre (fun _ => rfl) (by decide +kernel)
section OJ12B
variable {μ : MI} {d mc ms : Nat} {Q : QT} {k n pc : Nat} {ls : List (Option Value)} {st : List Value} {h : AHp} {i : Instr} {len nx : Nat} {c : Int32} {t : Nat}
theorem J_ishr {x y : Int32} (he : mT μ pc = some (.ishr, len, nx, c, t)) (kk : J μ d mc ms Q k n nx ls (.int (x >>> (y &&& 31)) :: st) h) : J μ d mc ms Q k n pc ls (.int y :: .int x :: st) h := by
  intro p l e R s m args below meth c1 A D tyA adK adV b scr ad0 L0 Qc C ad L H locs lsc ho hW hS hL
  obtain ⟨hx, hb, hg, -⟩ := id C
  obtain ⟨hd, hl, hn, hc, ht⟩ := oj_okE_spec (hg pc _ he)
  obtain rfl : len = 1 := of_decide_eq_true hl
  subst hn
  exact lv_ishr hx hb hd (kk p l e R s m args below meth c1 A D tyA adK adV b scr ad0 L0 Qc C ad L H locs lsc ho hW hS hL)
theorem J_dconst0 (he : mT μ pc = some (.dconst 0, len, nx, c, t)) (kk : J μ d mc ms Q k n nx ls (.double 0 :: st) h) : J μ d mc ms Q k n pc ls st h := by
  intro p l e R s m args below meth c1 A D tyA adK adV b scr ad0 L0 Qc C ad L H locs lsc ho hW hS hL
  obtain ⟨hx, hb, hg, -⟩ := id C
  obtain ⟨hd, hl, hn, hc, ht⟩ := oj_okE_spec (hg pc _ he)
  obtain rfl : len = 1 := of_decide_eq_true hl
  subst hn
  exact lv_dconst0 hx hb hd (kk p l e R s m args below meth c1 A D tyA adK adV b scr ad0 L0 Qc C ad L H locs lsc ho hW hS hL)
theorem oj_vl {D : va_G} {tyA : Nat → ClassId} {A : Nat → Prop} {b : Nat} {scr : Nat → (Nat → Int32) → Prop} {adK ad : Nat → Nat} {L : List Nat} {h : AHp} {H : Heap} (hW : oj_W D tyA A b scr adK ad L h H) (j : Nat) : oj_v ad (.ref (oj_sa j)) = .ref (adK j) := congrArg Value.ref (hW.2.2.2.1 j)
theorem J_strv {q : Nat} (hq : q < 32) (he : mT μ pc = some (.getfield 9, len, nx, c, t)) (ho8 : mO μ = 8) (kk : J μ d mc ms Q k n nx ls (.ref (oj_sa (1000 + q)) :: st) h) : J μ d mc ms Q k n pc ls (.ref (oj_sa q) :: st) h := by
  intro p l e R s m args below meth c1 A D tyA adK adV b scr ad0 L0 Qc C ad L H locs lsc ho hW hS hL
  obtain ⟨hx, hb, hg, hml, hown, hts, hlocks, -, hK, hSt, -⟩ := id C
  obtain ⟨hd, hl, hn, hc, ht⟩ := oj_okE_spec (hg pc _ he)
  have K := kk p l e R s m args below meth c1 A D tyA adK adV b scr ad0 L0 Qc C ad L H locs lsc ho hW hS hL
  obtain rfl : len = 3 := of_decide_eq_true hl
  subst hn
  rw [ho8] at hown
  have hv := hSt.2.2.2.2.2.2.2.2.2.2.1 q hq
  rw [List.map_cons, oj_vl hW, hv] at K
  rw [List.map_cons, oj_vl hW]
  exact vk_getf hx hb (hSt.1.1 q hq).2.2.1 hS hown (hts (.fieldLink RJ0 9 "java/lang/String" "value" "[B") (by decide +kernel)) (fun _ h => h) hd K
theorem J_strc {q : Nat} (hq : q < 32) (he : mT μ pc = some (.getfield 15, len, nx, c, t)) (ho8 : mO μ = 8) (kk : J μ d mc ms Q k n nx ls (.int 0 :: st) h) : J μ d mc ms Q k n pc ls (.ref (oj_sa q) :: st) h := by
  intro p l e R s m args below meth c1 A D tyA adK adV b scr ad0 L0 Qc C ad L H locs lsc ho hW hS hL
  obtain ⟨hx, hb, hg, hml, hown, hts, hlocks, -, hK, hSt, -⟩ := id C
  obtain ⟨hd, hl, hn, hc, ht⟩ := oj_okE_spec (hg pc _ he)
  have K := kk p l e R s m args below meth c1 A D tyA adK adV b scr ad0 L0 Qc C ad L H locs lsc ho hW hS hL
  obtain rfl : len = 3 := of_decide_eq_true hl
  subst hn
  rw [ho8] at hown
  rw [List.map_cons, oj_vl hW]
  exact vk_getf hx hb (hSt.1.1 q hq).2.1 hS hown (hts (.fieldLink RJ0 15 "java/lang/String" "coder" "B") (by decide +kernel)) (fun _ h => h) hd K
theorem J_strcs (hd : decode (mC μ) pc = .ok (.getstatic 38, 3)) (ho8 : mO μ = 8) (kk : J μ d mc ms Q k n (pc + 3) ls (.int 1 :: st) h) : J μ d mc ms Q k n pc ls st h := by
  intro p l e R s m args below meth c1 A D tyA adK adV b scr ad0 L0 Qc C ad L H locs lsc ho hW hS hL
  obtain ⟨hx, hb, hg, hml, hown, hts, hlocks, -, hK, hSt, -⟩ := id C
  have K := kk p l e R s m args below meth c1 A D tyA adK adV b scr ad0 L0 Qc C ad L H locs lsc ho hW hS hL
  rw [ho8] at hown
  exact va_gets hx hb hSt.2.2.2.2.2.2.2.2.1 hS hown (hts (.fieldLink RJ0 38 "java/lang/String" "COMPACT_STRINGS" "Z") (by decide +kernel)) (fun _ h => h) hd K
theorem J_strf (hd : decode (mC μ) pc = .ok (.getstatic 1053, 3)) (ho8 : mO μ = 8) (k1 : J μ d mc ms Q k n (pc + 3) ls (.null :: st) h) (k2 : J μ d mc ms Q k n (pc + 3) ls (.ref (oj_sa 2000) :: st) h) : J μ d mc ms Q k n pc ls st h := by
  intro p l e R s m args below meth c1 A D tyA adK adV b scr ad0 L0 Qc C ad L H locs lsc ho hW hS hL
  obtain ⟨hx, hb, hg, hml, hown, hts, hlocks, -, hK, hSt, -⟩ := id C
  have K1 := k1 p l e R s m args below meth c1 A D tyA adK adV b scr ad0 L0 Qc C ad L H locs lsc ho hW hS hL
  have K2 := k2 p l e R s m args below meth c1 A D tyA adK adV b scr ad0 L0 Qc C ad L H locs lsc ho hW hS hL
  rw [ho8] at hown
  obtain ⟨v, hv, hZ⟩ := hSt.2.2.2.2.2.2.2.1
  rw [List.map_cons, oj_vl hW] at K2
  rcases hv with rfl | rfl
  · exact va_gets hx hb hZ hS hown (hts (.fieldLink RJ0 1053 "jdk/internal/util/Preconditions" "SIOOBE_FORMATTER" "Ljava/util/function/BiFunction;") (by decide +kernel)) (fun _ h => h) hd K1
  · exact va_gets hx hb hZ hS hown (hts (.fieldLink RJ0 1053 "jdk/internal/util/Preconditions" "SIOOBE_FORMATTER" "Ljava/util/function/BiFunction;") (by decide +kernel)) (fun _ h => h) hd K2
theorem J_stral {q : Nat} (hq : q < 32) (he : mT μ pc = some (.arraylength, len, nx, c, t)) (kk : J μ d mc ms Q k n nx ls (.int (nI (oj_len.getD q 0)) :: st) h) : J μ d mc ms Q k n pc ls (.ref (oj_sa (1000 + q)) :: st) h := by
  intro p l e R s m args below meth c1 A D tyA adK adV b scr ad0 L0 Qc C ad L H locs lsc ho hW hS hL
  obtain ⟨hx, hb, hg, hml, hown, hts, hlocks, -, hK, hSt, -⟩ := id C
  obtain ⟨hd, hl, hn, hc, ht⟩ := oj_okE_spec (hg pc _ he)
  have K := kk p l e R s m args below meth c1 A D tyA adK adV b scr ad0 L0 Qc C ad L H locs lsc ho hW hS hL
  obtain rfl : len = 1 := of_decide_eq_true hl
  subst hn
  have hv := hSt.2.2.2.2.2.2.2.2.2.2.1 q hq
  rw [List.map_cons, oj_vl hW, hv]
  exact va_tlen hx hb (hSt.1.1 q hq).2.2.2 hS rfl hd K
theorem J_strb {q j : Nat} (hq : q < 32) (hj : j < oj_len.getD q 0) (hj2 : j < 100) (hlq : oj_len.getD q 0 < 2 ^ 31) (he : mT μ pc = some (.baload, len, nx, c, t)) (kk : J μ d mc ms Q k n nx ls (.int ((oj_byt.getD q []).getD j 0) :: st) h) : J μ d mc ms Q k n pc ls (.int (nI j) :: .ref (oj_sa (1000 + q)) :: st) h := by
  intro p l e R s m args below meth c1 A D tyA adK adV b scr ad0 L0 Qc C ad L H locs lsc ho hW hS hL
  obtain ⟨hx, hb, hg, hml, hown, hts, hlocks, -, hK, hSt, -⟩ := id C
  obtain ⟨hd, hl, hn, hc, ht⟩ := oj_okE_spec (hg pc _ he)
  have K := kk p l e R s m args below meth c1 A D tyA adK adV b scr ad0 L0 Qc C ad L H locs lsc ho hW hS hL
  obtain rfl : len = 1 := of_decide_eq_true hl
  subst hn
  have hv := hSt.2.2.2.2.2.2.2.2.2.2.1 q hq
  rw [List.map_cons, List.map_cons, oj_vl hW, hv]
  exact va_tb hx hb (hSt.1.1 q hq).2.2.2 hS (vp_in_nI hj hlq) (by rw [nI_clamp (by omega)]; rfl) hd K
/-- an instance method of a text constant -/
theorem J_callT {μ' : MI} {idx d' q : Nat} {As rest : List Value} {Q' : QT} (hq : q < 32) (he : mT μ pc = some (.invokevirtual idx, len, nx, c, t)) {na : Nat} (hna : As.length = na) (hsp : oj_spV st As.length = some (As, oj_sa q, rest)) (w0 : Cond.methodLink (oj_cls (mO μ)) idx (mY μ') ∈ lwG) (w1 : Cond.instanceMethod (mY μ') ∈ lwG) (w2 : Cond.selects (mY μ').cls (mY μ') (mY μ') ∈ lwG) (w3 : Cond.initialized (mY μ').cls ∈ lwG) (w4 : oj_cw μ' ∈ lwG) (g1 : (mY μ').cls ≠ "java/lang/invoke/MethodHandle" ∧ (mY μ').cls ≠ "java/lang/invoke/VarHandle" ∧ (parseMethodDescriptor (mY μ').desc).map (fun d => d.parameters.length) = some na) (g4 : mL μ' ≤ 21) (g5 : (mY μ').cls = "java/lang/String") (hH : mH μ' = []) (hal : mA μ' = false) (hd : Nat.ble (d' + 1) d = true) (hcat : Nat.ble ((rest.map fun v => v.category).sum) 8 = true)
    (hM : JM μ' d' 0 0 (.ref (oj_sa q) :: As) h Q') (hmc : k ≤ mc) (hms : n ≤ ms)
    (kx : ∀ (E : String) (h' : AHp), ¬ Q' (.inr E) h')
    (kr : ∀ (v : Option Value) (h' : AHp), Q' (.inl v) h' → J μ d mc ms Q k n nx ls (v.toList ++ rest) h') : J μ d mc ms Q k n pc ls st h := by
  subst hna
  intro p l e R s m args below meth c1 A D tyA adK adV b scr ad0 L0 Qc C ad L H locs lsc ho hW hS hL
  obtain ⟨hx, hb, hg, hml, hown, hts, hlocks, -, hK, hSt, -, hls, ⟨hR1, hR2, hR3, hR4⟩, -⟩ := id C
  obtain ⟨hdc, hl, hn, -, -⟩ := oj_okE_spec (hg pc _ he)
  obtain rfl : len = 3 := of_decide_eq_true hl
  subst hn
  obtain ⟨hst, -⟩ := oj_spV_eq hsp
  have hcode : oj_cw μ' = .code (mY μ') (mC μ') (mL μ') (mR μ') := by unfold oj_cw; rw [hH]
  have hd1 := Nat.le_of_ble_eq_true hd
  have cw : CallW R s args (oj_cls (mO μ)) (mY μ').cls idx (mY μ') (mC μ') (mL μ') (mR μ') (oj_cw μ' :: lwG) (oj_rm d' 0 0) 0 0 As.length :=
    ⟨callB_of As.length hts (oj_good_in w4) (by rw [hcode]) rfl rfl (hts _ w3) (hts _ w0) g1 ⟨by show d' + 1 ≤ _; omega, by show 8 + (mL μ' + 11) + 40 * d' ≤ _; omega⟩, hts _ w1, hts _ w2⟩
  have hrc := vk_recv hSt.1 hq hS
  rw [← g5] at hrc
  have hpp := oj_pre C hW hS (.ref (oj_sa q) :: As)
  rw [List.map_cons, oj_vl hW] at hpp
  have hM2 := hM l hls D tyA adK adV b scr ad L H.size
  have hr := vx_runV (e := e) (below := below) (meth := meth) (locs := locs) (As := As.map (oj_v ad)) (rest := rest.map (oj_v ad)) (b := adK q) (g := F0 m pc lsc (st.map (oj_v ad))) ⟨hx, hb, hml, hown, hts⟩ hM2 cw ⟨oj_blind, hrc, hpp⟩ rfl (List.length_map _) hL.1 (by rw [hst]; simp [oj_vl hW]) (lv_room (by rw [List.map_map]; simpa [Function.comp_def, oj_v_cat] using Nat.le_of_ble_eq_true hcat)) hdc ⟨Nat.le_trans hmc hR3, Nat.le_trans hms hR4⟩
  refine oj_back C ho hW hS hL hr (fun z => absurd (hal.symm.trans z) (by decide)) hmc hms kr (fun E h' hh => absurd hh (kx E h'))
/-- a static method of the JDK -/
theorem J_callP {μ' : MI} {idx d' : Nat} {As rest : List Value} {Q' : QT} (he : mT μ pc = some (.invokestatic idx, len, nx, c, t)) {na : Nat} (hna : As.length = na) (hsp : oj_spS st As.length = some (As, rest)) (w0 : Cond.methodLink (oj_cls (mO μ)) idx (mY μ') ∈ lwG) (w1 : Cond.static (mY μ') ∈ lwG) (w3 : Cond.initialized (mY μ').cls ∈ lwG) (w4 : oj_cw μ' ∈ lwG) (g1 : (mY μ').cls ≠ "java/lang/invoke/MethodHandle" ∧ (mY μ').cls ≠ "java/lang/invoke/VarHandle" ∧ (parseMethodDescriptor (mY μ').desc).map (fun d => d.parameters.length) = some na) (g4 : mL μ' ≤ 21) (hH : mH μ' = []) (hal : mA μ' = false) (hd : Nat.ble (d' + 1) d = true) (hcat : Nat.ble ((rest.map fun v => v.category).sum) 8 = true)
    (hM : JM μ' d' 0 0 As h Q') (hmc : k ≤ mc) (hms : n ≤ ms)
    (kx : ∀ (E : String) (h' : AHp), ¬ Q' (.inr E) h')
    (kr : ∀ (v : Option Value) (h' : AHp), Q' (.inl v) h' → J μ d mc ms Q k n nx ls (v.toList ++ rest) h') : J μ d mc ms Q k n pc ls st h := by
  subst hna
  intro p l e R s m args below meth c1 A D tyA adK adV b scr ad0 L0 Qc C ad L H locs lsc ho hW hS hL
  obtain ⟨hx, hb, hg, hml, hown, hts, hlocks, -, hK, hSt, -, hls, ⟨hR1, hR2, hR3, hR4⟩, -⟩ := id C
  obtain ⟨hdc, hl, hn, -, -⟩ := oj_okE_spec (hg pc _ he)
  obtain rfl : len = 3 := of_decide_eq_true hl
  subst hn
  obtain ⟨hst, -⟩ := oj_spS_eq hsp
  have hcode : oj_cw μ' = .code (mY μ') (mC μ') (mL μ') (mR μ') := by unfold oj_cw; rw [hH]
  have hd1 := Nat.le_of_ble_eq_true hd
  have hpp := oj_pre C hW hS As
  have hstk : (F0 m pc lsc (st.map (oj_v ad))).stack = (As.map (oj_v ad)).reverse ++ rest.map (oj_v ad) := by show st.map (oj_v ad) = _; rw [hst]; simp
  have hWr : 2 * (F0 m pc lsc (st.map (oj_v ad))).monitorRoom + ((rest.map (oj_v ad)).map fun v => v.category).sum ≤ 8 := lv_room (by rw [List.map_map]; simpa [Function.comp_def, oj_v_cat] using Nat.le_of_ble_eq_true hcat)
  have hRR : (oj_rm d' 0 0).frames + 1 ≤ R.frames ∧ 8 + (mL μ' + 11) + (oj_rm d' 0 0).locals ≤ R.locals := ⟨by show d' + 1 ≤ _; omega, by show 8 + (mL μ' + 11) + 40 * d' ≤ _; omega⟩
  have K := vx_runS (e := e) (below := below) (meth := meth) (locs := locs) (As := As.map (oj_v ad)) (rest := rest.map (oj_v ad)) (g := F0 m pc lsc (st.map (oj_v ad))) ⟨hx, hb, hml, hown, hts⟩ (hM l hls D tyA adK adV b scr ad L H.size) ⟨callB_of As.length hts (oj_good_in w4) (by rw [hcode]) rfl rfl (hts _ w3) (hts _ w0) g1 hRR, hts _ w1⟩ ⟨oj_blind, hpp⟩ rfl (List.length_map _) hL.1 hstk hWr hdc ⟨Nat.le_trans hmc hR3, Nat.le_trans hms hR4⟩
  refine oj_back C ho hW hS hL K (fun z => absurd (hal.symm.trans z) (by decide)) hmc hms kr (fun E h' hh => absurd hh (kx E h'))
theorem J_cret {x : Int32} {ty : FieldType} (he : mT μ pc = some (.ireturn, len, nx, c, t)) (hr : mR μ = some ty) (hk : Nat.ble k mc = true) (hn : Nat.ble n ms = true) (hx : narrow ty (.int x) = .int x) (hq : Q (.inl (some (.int x))) h) : J μ d mc ms Q k n pc ls [.int x] h :=
  J_ret (v := some (.int x)) he (by rw [hr]; exact decide_eq_true hx) (Nat.le_of_ble_eq_true hk) (Nat.le_of_ble_eq_true hn) hq rfl
end OJ12B
