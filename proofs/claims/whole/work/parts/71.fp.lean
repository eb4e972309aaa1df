theorem fp_qmin : FP.Core.Fmt.qmin FP.Core.b64 = -1074 := by decide +kernel
theorem fp_qmax : FP.Core.Fmt.qmax FP.Core.b64 = 971 := by decide +kernel
theorem fp_tails : FP.Core.Fmt.tails FP.Core.b64 = 4503599627370496 := by decide +kernel
theorem fp_exps : FP.Core.Fmt.exps FP.Core.b64 = 2048 := by decide +kernel
theorem fp_p : (2 : Nat) ^ FP.Core.b64.p = 9007199254740992 := by decide +kernel
theorem enc_fin {s : Bool} {c : Nat} {q : Int} (hc : c < 9007199254740992) (h1 : -1074 ≤ q) (h2 : q ≤ 971) : FP.Core.encode FP.Core.b64 (.fin s c q) % 9223372036854775808 ≤ 9218868437227405312 := by
  unfold FP.Core.encode
  simp only [FP.Core.assemble, fp_tails, fp_exps, fp_qmin]
  split
  · cases s
    · show ((0 * 2048 + 0) * 4503599627370496 + c) % 9223372036854775808 ≤ _
      omega
    · show ((1 * 2048 + 0) * 4503599627370496 + c) % 9223372036854775808 ≤ _
      omega
  · have he : (q - -1074).toNat + 1 ≤ 2046 := by omega
    generalize (q - -1074).toNat + 1 = e at he
    cases s
    · show ((0 * 2048 + e) * 4503599627370496 + (c - 4503599627370496)) % 9223372036854775808 ≤ _
      omega
    · show ((1 * 2048 + e) * 4503599627370496 + (c - 4503599627370496)) % 9223372036854775808 ≤ _
      omega
theorem enc_inf {s : Bool} : FP.Core.encode FP.Core.b64 (.inf s) % 9223372036854775808 ≤ 9218868437227405312 := by
  cases s <;> decide +kernel
theorem enc_bound {s : Bool} {c : Nat} {q : Int} (hc : c < 9007199254740992) (h1 : -1074 ≤ q) : FP.Core.encode FP.Core.b64 (FP.Core.bound FP.Core.b64 s c q) % 9223372036854775808 ≤ 9218868437227405312 := by
  unfold FP.Core.bound
  rw [fp_qmax]
  split
  · rename_i h2
    exact enc_fin hc h1 h2
  · exact enc_inf
theorem enc_settle {s : Bool} {c : Nat} {q : Int} (h1 : -1074 ≤ q) : FP.Core.encode FP.Core.b64 (FP.Core.settle FP.Core.b64 s c q) % 9223372036854775808 ≤ 9218868437227405312 := by
  unfold FP.Core.settle
  rw [fp_p, fp_tails]
  split
  · rename_i h2
    exact enc_bound h2 h1
  · exact enc_bound (by decide) (by omega)
theorem enc_ratio {s : Bool} {num den : Nat} {e : Int} : FP.Core.encode FP.Core.b64 (FP.Core.roundRatio FP.Core.b64 s num den e) % 9223372036854775808 ≤ 9218868437227405312 := by
  unfold FP.Core.roundRatio
  split
  · rw [fp_qmin]
    exact enc_fin (by decide) (by decide) (by decide)
  · unfold FP.Core.roundAt
    refine enc_settle ?_
    unfold FP.Core.quantum
    rw [fp_qmin]
    exact Int.le_max_left _ _
theorem dec_num {m : Nat} (h : m % 9223372036854775808 ≤ 9218868437227405312) : FP.Core.decode FP.Core.b64 m ≠ .nan := by
  unfold FP.Core.decode
  simp only [FP.Core.fieldE, FP.Core.fieldT, fp_tails, fp_exps]
  split
  · split
    · intro z; cases z
    · omega
  · split
    · intro z; cases z
    · intro z; cases z
theorem vf_of {n : Nat} (h : n % 9223372036854775808 ≤ 9218868437227405312) : vf_n64 (UInt64.ofNat n) := by
  unfold vf_n64
  rw [UInt64.le_iff_toNat_le, UInt64.toNat_and]
  have h1 : (0x7fffffffffffffff : UInt64).toNat = 2 ^ 63 - 1 := by decide
  have h2 : (0x7ff0000000000000 : UInt64).toNat = 9218868437227405312 := by decide
  rw [h1, h2, Nat.and_two_pow_sub_one_eq_mod, UInt64.toNat_ofNat']
  omega
theorem i2d_num (a : Int32) : (FP.i2d a).toNat % 9223372036854775808 ≤ 9218868437227405312 := by
  show (UInt64.ofNat (FP.Core.encode FP.Core.b64 (FP.Core.roundRatio FP.Core.b64 (decide (a.toInt < 0)) a.toInt.natAbs 1 0))).toNat % _ ≤ _
  have := enc_ratio (s := decide (a.toInt < 0)) (num := a.toInt.natAbs) (den := 1) (e := 0)
  rw [UInt64.toNat_ofNat']
  omega
def dnz (x : UInt64) : Bool := match FP.Core.decode FP.Core.b64 x.toNat with
  | .fin _ d _ => d != 0
  | _ => false
theorem i2d_nz : ∀ a, a ≤ 30 → ∀ b, b < 20 → 0 < 20 * a + b → dnz (FP.i2d (nI (20 * a + b))) = true := by decide +kernel
theorem ddiv_num {x y : UInt64} (hx : x.toNat % 9223372036854775808 ≤ 9218868437227405312) (hy : dnz y = true) : vf_n64 (FP.ddiv x y) := by
  show vf_n64 (UInt64.ofNat (FP.Core.encode FP.Core.b64 (FP.Core.quotient FP.Core.b64 (FP.Core.decode FP.Core.b64 x.toNat) (FP.Core.decode FP.Core.b64 y.toNat))))
  refine vf_of ?_
  have hn := dec_num hx
  unfold dnz at hy
  cases hd : FP.Core.decode FP.Core.b64 y.toNat with
  | nan => rw [hd] at hy; cases hy
  | inf s => rw [hd] at hy; cases hy
  | fin t d r =>
    rw [hd] at hy
    have hd0 : ¬ d = 0 := by simpa using hy
    cases hc : FP.Core.decode FP.Core.b64 x.toNat with
    | nan => exact absurd hc hn
    | inf s => exact enc_inf
    | fin s c q =>
      show FP.Core.encode FP.Core.b64 (if d = 0 then _ else FP.Core.roundRatio FP.Core.b64 (s != t) c d (q - r)) % _ ≤ _
      rw [if_neg hd0]
      exact enc_ratio
theorem mean_num {jo : Int32} {ar : Nat} (h0 : 0 < ar) (h : ar ≤ 600) : vf_n64 (FP.ddiv (FP.i2d jo) (FP.i2d (nI ar))) := by
  refine ddiv_num (i2d_num _) ?_
  have := i2d_nz (ar / 20) (by omega) (ar % 20) (by omega) (by omega)
  rw [show 20 * (ar / 20) + ar % 20 = ar by omega] at this
  exact this
theorem l2d_eq {jo : Nat} (h : jo < 2 ^ 31) : FP.l2d (lN jo) = FP.i2d (nI jo) := by
  show UInt64.ofNat (FP.Core.fromInt FP.Core.b64 (lN jo).toInt) = UInt64.ofNat (FP.Core.fromInt FP.Core.b64 (nI jo).toInt)
  rw [lN_toInt h, nI_toInt h]
theorem occ_num : ∀ a, a ≤ 12 → ∀ c, c ≤ 6 → 0 < c → vf_n32 (FP.fdiv (FP.i2f (nI a)) (FP.i2f (2 * nI c))) := by unfold vf_n32; decide +kernel
theorem occ_f2d : ∀ a, a ≤ 12 → ∀ c, c ≤ 6 → 0 < c → vf_n64 (FP.f2d (FP.fdiv (FP.i2f (nI a)) (FP.i2f (2 * nI c)))) := by unfold vf_n64; decide +kernel
