section OJ9
variable {μ : MI} {d mc ms : Nat} {Q : QT} {k n pc : Nat} {ls : List (Option Value)} {st : List Value} {h : AHp} {i : Instr} {len nx : Nat} {c : Int32} {t : Nat}
theorem J_ldcS {is sn : Nat} {text : String} (he : mT μ pc = some (.ldc is, len, nx, c, t)) (hs : (oj_cls (mO μ), is, text, sn) ∈ oj_strs) (kk : J μ d mc ms Q k n nx ls (.ref (oj_sa sn) :: st) h) : J μ d mc ms Q k n pc ls st h := by
  intro p l e R s m args below meth c1 A D tyA adK adV b scr ad0 L0 Qc C ad L H locs lsc ho hW hS hL
  obtain ⟨hx, hb, hg, hml, hown, hts, hlocks, -, hK, hSt, -⟩ := id C
  obtain ⟨hd, hl, hn, hc, ht⟩ := oj_okE_spec (hg pc _ he)
  obtain rfl : len = 2 := of_decide_eq_true hl
  subst hn
  have := kk p l e R s m args below meth c1 A D tyA adK adV b scr ad0 L0 Qc C ad L H locs lsc ho hW hS hL
  have h2 : oj_v ad (.ref (oj_sa sn)) = .ref (adK sn) := congrArg Value.ref (hW.2.2.2.1 sn)
  rw [List.map_cons, h2] at this
  have hR : vk_R (oj_cls (mO μ)) is text (adK sn) s := hSt.2.1 (oj_cls (mO μ), is, text, sn) hs
  generalize adK sn = q9 at this hR
  generalize oj_cls (mO μ) = o9 at hown hR
  exact va_ldcS hx hb hown hR hd this
end OJ9
