set_option maxRecDepth 100000 in
def oj_na (pc : Nat) : Option Nat := bif Nat.ble 5348 pc then (bif Nat.ble 7304 pc then (bif Nat.ble 7385 pc then (bif Nat.ble 7416 pc then (bif Nat.ble 7437 pc then (bif Nat.ble 7445 pc then (bif Nat.ble 7448 pc then (bif Nat.ble 7450 pc then (bif Nat.beq pc 7450 then some 1 else none) else (bif Nat.beq pc 7448 then some 1 else none)) else (bif Nat.beq pc 7445 then some 0 else none)) else (bif Nat.ble 7439 pc then (bif Nat.ble 7442 pc then (bif Nat.beq pc 7442 then some 1 else none) else (bif Nat.beq pc 7439 then some 0 else none)) else (bif Nat.beq pc 7437 then some 1 else none))) else (bif Nat.ble 7424 pc then (bif Nat.ble 7428 pc then (bif Nat.ble 7433 pc then (bif Nat.beq pc 7433 then some 2 else none) else (bif Nat.beq pc 7428 then some 3 else none)) else (bif Nat.beq pc 7424 then some 1 else none)) else (bif Nat.ble 7420 pc then (bif Nat.beq pc 7420 then some 1 else none) else (bif Nat.beq pc 7416 then some 1 else none)))) else (bif Nat.ble 7399 pc then (bif Nat.ble 7407 pc then (bif Nat.ble 7410 pc then (bif Nat.ble 7413 pc then (bif Nat.beq pc 7413 then some 0 else none) else (bif Nat.beq pc 7410 then some 0 else none)) else (bif Nat.beq pc 7407 then some 0 else none)) else (bif Nat.ble 7401 pc then (bif Nat.ble 7404 pc then (bif Nat.beq pc 7404 then some 0 else none) else (bif Nat.beq pc 7401 then some 0 else none)) else (bif Nat.beq pc 7399 then some 3 else none))) else (bif Nat.ble 7391 pc then (bif Nat.ble 7393 pc then (bif Nat.ble 7396 pc then (bif Nat.beq pc 7396 then some 2 else none) else (bif Nat.beq pc 7393 then some 2 else none)) else (bif Nat.beq pc 7391 then some 2 else none)) else (bif Nat.ble 7388 pc then (bif Nat.beq pc 7388 then some 1 else none) else (bif Nat.beq pc 7385 then some 1 else none))))) else (bif Nat.ble 7355 pc then (bif Nat.ble 7369 pc then (bif Nat.ble 7377 pc then (bif Nat.ble 7380 pc then (bif Nat.ble 7382 pc then (bif Nat.beq pc 7382 then some 1 else none) else (bif Nat.beq pc 7380 then some 3 else none)) else (bif Nat.beq pc 7377 then some 1 else none)) else (bif Nat.ble 7372 pc then (bif Nat.ble 7375 pc then (bif Nat.beq pc 7375 then some 2 else none) else (bif Nat.beq pc 7372 then some 1 else none)) else (bif Nat.beq pc 7369 then some 1 else none))) else (bif Nat.ble 7361 pc then (bif Nat.ble 7364 pc then (bif Nat.ble 7367 pc then (bif Nat.beq pc 7367 then some 2 else none) else (bif Nat.beq pc 7364 then some 1 else none)) else (bif Nat.beq pc 7361 then some 1 else none)) else (bif Nat.ble 7358 pc then (bif Nat.beq pc 7358 then some 0 else none) else (bif Nat.beq pc 7355 then some 0 else none)))) else (bif Nat.ble 7335 pc then (bif Nat.ble 7345 pc then (bif Nat.ble 7348 pc then (bif Nat.ble 7351 pc then (bif Nat.beq pc 7351 then some 0 else none) else (bif Nat.beq pc 7348 then some 0 else none)) else (bif Nat.beq pc 7345 then some 0 else none)) else (bif Nat.ble 7338 pc then (bif Nat.ble 7341 pc then (bif Nat.beq pc 7341 then some 1 else none) else (bif Nat.beq pc 7338 then some 1 else none)) else (bif Nat.beq pc 7335 then some 0 else none))) else (bif Nat.ble 7326 pc then (bif Nat.ble 7329 pc then (bif Nat.ble 7332 pc then (bif Nat.beq pc 7332 then some 0 else none) else (bif Nat.beq pc 7329 then some 0 else none)) else (bif Nat.beq pc 7326 then some 0 else none)) else (bif Nat.ble 7322 pc then (bif Nat.beq pc 7322 then some 2 else none) else (bif Nat.beq pc 7304 then some 0 else none)))))) else (bif Nat.ble 7224 pc then (bif Nat.ble 7267 pc then (bif Nat.ble 7283 pc then (bif Nat.ble 7292 pc then (bif Nat.ble 7295 pc then (bif Nat.ble 7299 pc then (bif Nat.beq pc 7299 then some 1 else none) else (bif Nat.beq pc 7295 then some 1 else none)) else (bif Nat.beq pc 7292 then some 0 else none)) else (bif Nat.ble 7286 pc then (bif Nat.ble 7288 pc then (bif Nat.beq pc 7288 then some 1 else none) else (bif Nat.beq pc 7286 then some 2 else none)) else (bif Nat.beq pc 7283 then some 0 else none))) else (bif Nat.ble 7274 pc then (bif Nat.ble 7277 pc then (bif Nat.ble 7280 pc then (bif Nat.beq pc 7280 then some 2 else none) else (bif Nat.beq pc 7277 then some 2 else none)) else (bif Nat.beq pc 7274 then some 4 else none)) else (bif Nat.ble 7271 pc then (bif Nat.beq pc 7271 then some 3 else none) else (bif Nat.beq pc 7267 then some 3 else none)))) else (bif Nat.ble 7242 pc then (bif Nat.ble 7258 pc then (bif Nat.ble 7263 pc then (bif Nat.ble 7266 pc then (bif Nat.beq pc 7266 then some 0 else none) else (bif Nat.beq pc 7263 then some 1 else none)) else (bif Nat.beq pc 7258 then some 1 else none)) else (bif Nat.ble 7249 pc then (bif Nat.ble 7254 pc then (bif Nat.beq pc 7254 then some 1 else none) else (bif Nat.beq pc 7249 then some 0 else none)) else (bif Nat.beq pc 7242 then some 2 else none))) else (bif Nat.ble 7232 pc then (bif Nat.ble 7235 pc then (bif Nat.ble 7238 pc then (bif Nat.beq pc 7238 then some 0 else none) else (bif Nat.beq pc 7235 then some 0 else none)) else (bif Nat.beq pc 7232 then some 0 else none)) else (bif Nat.ble 7227 pc then (bif Nat.beq pc 7227 then some 0 else none) else (bif Nat.beq pc 7224 then some 1 else none))))) else (bif Nat.ble 5441 pc then (bif Nat.ble 7205 pc then (bif Nat.ble 7214 pc then (bif Nat.ble 7217 pc then (bif Nat.ble 7220 pc then (bif Nat.beq pc 7220 then some 0 else none) else (bif Nat.beq pc 7217 then some 2 else none)) else (bif Nat.beq pc 7214 then some 1 else none)) else (bif Nat.ble 7208 pc then (bif Nat.ble 7211 pc then (bif Nat.beq pc 7211 then some 2 else none) else (bif Nat.beq pc 7208 then some 1 else none)) else (bif Nat.beq pc 7205 then some 1 else none))) else (bif Nat.ble 7192 pc then (bif Nat.ble 7198 pc then (bif Nat.ble 7202 pc then (bif Nat.beq pc 7202 then some 1 else none) else (bif Nat.beq pc 7198 then some 2 else none)) else (bif Nat.beq pc 7192 then some 1 else none)) else (bif Nat.ble 7177 pc then (bif Nat.beq pc 7177 then some 3 else none) else (bif Nat.beq pc 5441 then some 1 else none)))) else (bif Nat.ble 5390 pc then (bif Nat.ble 5408 pc then (bif Nat.ble 5411 pc then (bif Nat.ble 5414 pc then (bif Nat.beq pc 5414 then some 4 else none) else (bif Nat.beq pc 5411 then some 1 else none)) else (bif Nat.beq pc 5408 then some 4 else none)) else (bif Nat.ble 5403 pc then (bif Nat.beq pc 5403 then some 1 else none) else (bif Nat.beq pc 5390 then some 1 else none))) else (bif Nat.ble 5370 pc then (bif Nat.ble 5373 pc then (bif Nat.ble 5382 pc then (bif Nat.beq pc 5382 then some 0 else none) else (bif Nat.beq pc 5373 then some 0 else none)) else (bif Nat.beq pc 5370 then some 0 else none)) else (bif Nat.ble 5367 pc then (bif Nat.beq pc 5367 then some 1 else none) else (bif Nat.beq pc 5348 then some 1 else none))))))) else (bif Nat.ble 4140 pc then (bif Nat.ble 5236 pc then (bif Nat.ble 5295 pc then (bif Nat.ble 5331 pc then (bif Nat.ble 5339 pc then (bif Nat.ble 5342 pc then (bif Nat.ble 5345 pc then (bif Nat.beq pc 5345 then some 1 else none) else (bif Nat.beq pc 5342 then some 0 else none)) else (bif Nat.beq pc 5339 then some 0 else none)) else (bif Nat.ble 5334 pc then (bif Nat.ble 5336 pc then (bif Nat.beq pc 5336 then some 0 else none) else (bif Nat.beq pc 5334 then some 0 else none)) else (bif Nat.beq pc 5331 then some 0 else none))) else (bif Nat.ble 5322 pc then (bif Nat.ble 5325 pc then (bif Nat.ble 5328 pc then (bif Nat.beq pc 5328 then some 1 else none) else (bif Nat.beq pc 5325 then some 0 else none)) else (bif Nat.beq pc 5322 then some 0 else none)) else (bif Nat.ble 5301 pc then (bif Nat.beq pc 5301 then some 0 else none) else (bif Nat.beq pc 5295 then some 1 else none)))) else (bif Nat.ble 5261 pc then (bif Nat.ble 5273 pc then (bif Nat.ble 5287 pc then (bif Nat.ble 5290 pc then (bif Nat.beq pc 5290 then some 2 else none) else (bif Nat.beq pc 5287 then some 1 else none)) else (bif Nat.beq pc 5273 then some 1 else none)) else (bif Nat.ble 5264 pc then (bif Nat.ble 5267 pc then (bif Nat.beq pc 5267 then some 2 else none) else (bif Nat.beq pc 5264 then some 2 else none)) else (bif Nat.beq pc 5261 then some 1 else none))) else (bif Nat.ble 5248 pc then (bif Nat.ble 5254 pc then (bif Nat.ble 5258 pc then (bif Nat.beq pc 5258 then some 1 else none) else (bif Nat.beq pc 5254 then some 2 else none)) else (bif Nat.beq pc 5248 then some 1 else none)) else (bif Nat.ble 5243 pc then (bif Nat.beq pc 5243 then some 1 else none) else (bif Nat.beq pc 5236 then some 1 else none))))) else (bif Nat.ble 5155 pc then (bif Nat.ble 5202 pc then (bif Nat.ble 5220 pc then (bif Nat.ble 5224 pc then (bif Nat.ble 5227 pc then (bif Nat.beq pc 5227 then some 0 else none) else (bif Nat.beq pc 5224 then some 1 else none)) else (bif Nat.beq pc 5220 then some 1 else none)) else (bif Nat.ble 5212 pc then (bif Nat.ble 5216 pc then (bif Nat.beq pc 5216 then some 1 else none) else (bif Nat.beq pc 5212 then some 1 else none)) else (bif Nat.beq pc 5202 then some 0 else none))) else (bif Nat.ble 5174 pc then (bif Nat.ble 5178 pc then (bif Nat.ble 5185 pc then (bif Nat.beq pc 5185 then some 1 else none) else (bif Nat.beq pc 5178 then some 1 else none)) else (bif Nat.beq pc 5174 then some 4 else none)) else (bif Nat.ble 5162 pc then (bif Nat.beq pc 5162 then some 0 else none) else (bif Nat.beq pc 5155 then some 0 else none)))) else (bif Nat.ble 4177 pc then (bif Nat.ble 4188 pc then (bif Nat.ble 5129 pc then (bif Nat.ble 5148 pc then (bif Nat.beq pc 5148 then some 0 else none) else (bif Nat.beq pc 5129 then some 0 else none)) else (bif Nat.beq pc 4188 then some 1 else none)) else (bif Nat.ble 4180 pc then (bif Nat.ble 4185 pc then (bif Nat.beq pc 4185 then some 1 else none) else (bif Nat.beq pc 4180 then some 0 else none)) else (bif Nat.beq pc 4177 then some 0 else none))) else (bif Nat.ble 4147 pc then (bif Nat.ble 4153 pc then (bif Nat.ble 4157 pc then (bif Nat.beq pc 4157 then some 2 else none) else (bif Nat.beq pc 4153 then some 2 else none)) else (bif Nat.beq pc 4147 then some 1 else none)) else (bif Nat.ble 4144 pc then (bif Nat.beq pc 4144 then some 0 else none) else (bif Nat.beq pc 4140 then some 1 else none)))))) else (bif Nat.ble 2160 pc then (bif Nat.ble 2201 pc then (bif Nat.ble 2217 pc then (bif Nat.ble 2226 pc then (bif Nat.ble 3092 pc then (bif Nat.ble 4134 pc then (bif Nat.beq pc 4134 then some 0 else none) else (bif Nat.beq pc 3092 then some 1 else none)) else (bif Nat.beq pc 2226 then some 2 else none)) else (bif Nat.ble 2220 pc then (bif Nat.ble 2223 pc then (bif Nat.beq pc 2223 then some 2 else none) else (bif Nat.beq pc 2220 then some 1 else none)) else (bif Nat.beq pc 2217 then some 1 else none))) else (bif Nat.ble 2207 pc then (bif Nat.ble 2210 pc then (bif Nat.ble 2214 pc then (bif Nat.beq pc 2214 then some 1 else none) else (bif Nat.beq pc 2210 then some 4 else none)) else (bif Nat.beq pc 2207 then some 1 else none)) else (bif Nat.ble 2204 pc then (bif Nat.beq pc 2204 then some 3 else none) else (bif Nat.beq pc 2201 then some 1 else none)))) else (bif Nat.ble 2177 pc then (bif Nat.ble 2187 pc then (bif Nat.ble 2190 pc then (bif Nat.ble 2193 pc then (bif Nat.beq pc 2193 then some 0 else none) else (bif Nat.beq pc 2190 then some 1 else none)) else (bif Nat.beq pc 2187 then some 0 else none)) else (bif Nat.ble 2181 pc then (bif Nat.ble 2184 pc then (bif Nat.beq pc 2184 then some 0 else none) else (bif Nat.beq pc 2181 then some 1 else none)) else (bif Nat.beq pc 2177 then some 1 else none))) else (bif Nat.ble 2167 pc then (bif Nat.ble 2170 pc then (bif Nat.ble 2173 pc then (bif Nat.beq pc 2173 then some 5 else none) else (bif Nat.beq pc 2170 then some 1 else none)) else (bif Nat.beq pc 2167 then some 0 else none)) else (bif Nat.ble 2163 pc then (bif Nat.beq pc 2163 then some 0 else none) else (bif Nat.beq pc 2160 then some 1 else none))))) else (bif Nat.ble 2117 pc then (bif Nat.ble 2135 pc then (bif Nat.ble 2144 pc then (bif Nat.ble 2147 pc then (bif Nat.ble 2154 pc then (bif Nat.beq pc 2154 then some 1 else none) else (bif Nat.beq pc 2147 then some 1 else none)) else (bif Nat.beq pc 2144 then some 1 else none)) else (bif Nat.ble 2138 pc then (bif Nat.ble 2141 pc then (bif Nat.beq pc 2141 then some 1 else none) else (bif Nat.beq pc 2138 then some 2 else none)) else (bif Nat.beq pc 2135 then some 1 else none))) else (bif Nat.ble 2125 pc then (bif Nat.ble 2129 pc then (bif Nat.ble 2132 pc then (bif Nat.beq pc 2132 then some 3 else none) else (bif Nat.beq pc 2129 then some 1 else none)) else (bif Nat.beq pc 2125 then some 0 else none)) else (bif Nat.ble 2121 pc then (bif Nat.beq pc 2121 then some 2 else none) else (bif Nat.beq pc 2117 then some 1 else none)))) else (bif Nat.ble 1045 pc then (bif Nat.ble 2065 pc then (bif Nat.ble 2109 pc then (bif Nat.ble 2113 pc then (bif Nat.beq pc 2113 then some 3 else none) else (bif Nat.beq pc 2109 then some 1 else none)) else (bif Nat.beq pc 2065 then some 0 else none)) else (bif Nat.ble 1046 pc then (bif Nat.beq pc 1046 then some 1 else none) else (bif Nat.beq pc 1045 then some 0 else none))) else (bif Nat.ble 48 pc then (bif Nat.ble 52 pc then (bif Nat.ble 55 pc then (bif Nat.beq pc 55 then some 1 else none) else (bif Nat.beq pc 52 then some 1 else none)) else (bif Nat.beq pc 48 then some 2 else none)) else (bif Nat.ble 44 pc then (bif Nat.beq pc 44 then some 1 else none) else (bif Nat.beq pc 40 then some 3 else none)))))))
/-! contracts -/
def oj_cw (μ : MI) : Cond := match mH μ with
  | [] => .code (mY μ) (mC μ) (mL μ) (mR μ)
  | x :: xs => .codeWith (mY μ) (mC μ) (mL μ) (mR μ) (x :: xs)
def oj_rm (d mc ms : Nat) : Room := { frames := d, cells := mc, slots := ms, locals := 40 * d }
def oj_Pc (av : List Value) (D : va_G) (tyA : Nat → ClassId) (adK adV : Nat → Nat) (b : Nat) (scr : Nat → (Nat → Int32) → Prop) (ad : Nat → Nat) (L : List Nat) (h : AHp) (sz : Nat) : Array Value → State → Prop :=
  va_Pc (av.map (oj_v ad)) (fun U => U.heap.size = sz ∧ oj_W D tyA (va_A (oj_w ad tyA L h) sz) b scr adK ad L h U.heap ∧ va_K D vwCl (oj_tys tyA) U ∧ oj_S adK adV (va_A (oj_w ad tyA L h) sz) U U.heap ∧ ∀ N xs, scr N xs → va_X b N xs U U.heap ∧ b < U.heap.size ∧ ¬ va_A (oj_w ad tyA L h) sz b)
/-- method μ, called with av over h, in d frames and room for mc cells of ms slots: it ends with Q -/
def JM (μ : MI) (d mc ms : Nat) (av : List Value) (h : AHp) (Q : QT) : Prop :=
  ∀ (l : Launch), l.stackTraces = false → ∀ (D : va_G) (tyA : Nat → ClassId) (adK adV : Nat → Nat) (b : Nat) (scr : Nat → (Nat → Int32) → Prop) (ad : Nat → Nat) (L : List Nat) (sz : Nat),
    vx_Met l (mY μ) (oj_cw μ :: lwG) (oj_rm d mc ms) (oj_Pc av D tyA adK adV b scr ad L h sz) (oj_QC (mA μ) Q (va_A (oj_w ad tyA L h) sz) D tyA adK b scr ad L) (oj_XC Q (va_A (oj_w ad tyA L h) sz) D tyA adK b scr ad L) mc ms (va_A (oj_w ad tyA L h) sz)
theorem oj_S.to {adK adV : Nat → Nat} {A B : Nat → Prop} {s U : State} {H : Heap} {locs : List Loc} (h : oj_S adK adV A s s.heap) (hS : va_S A s.heap H locs) (hAB : ∀ q, B q → A q) (hW : s.WarmedH U.vm) (hU : U.heap = H) : oj_S adK adV B U U.heap := by
  obtain ⟨h1, h2, h3, h4, h5, h6, h7, ⟨v8, hv8, h8⟩, h9, h10, h11, h12, ⟨h13, h14⟩, h15, h16⟩ := h
  rw [hU]
  exact ⟨((h1.kept hS.2.1).moved hW.alike).narrow hAB, fun q hq => vk_R.warm hW (h2 q hq), fun q hq => va_Nw.warmC hW (h3 q hq), fun q hq => va_Nc.moved hW.alike (h4 q hq), fun q hq => va_Nw.warmM hW (h5 q hq),
    ((h6.kept hS.2.1).moved hW.alike).narrow hAB, ((h7.kept hS.2.1).moved hW.alike).narrow hAB, ⟨v8, hv8, ((h8.kept hS.2.1).moved hW.alike).narrow hAB⟩, ((h9.kept hS.2.1).moved hW.alike).narrow hAB, fun y hy => va_Nw.warmD hW (h10 y hy), h11, h12.moved hW.alike, ⟨((h13.kept hS.2.1).moved hW.alike).narrow hAB, ((h14.kept hS.2.1).moved hW.alike).narrow hAB⟩, ((h15.kept hS.2.1).moved hW.alike).narrow hAB, ((h16.kept hS.2.1).moved hW.alike).narrow hAB⟩
theorem oj_S.same {adK adV : Nat → Nat} {A : Nat → Prop} {u U : State} (hv : U.vm = u.vm) (hh : U.heap = u.heap) (h : oj_S adK adV A u u.heap) : oj_S adK adV A U U.heap := by
  obtain ⟨h1, h2, h3, h4, h5, h6, h7, ⟨v8, hv8, h8⟩, h9, h10, h11, h12, ⟨h13, h14⟩, h15, h16⟩ := h
  have hA : u.vm.Alike U.vm := by rw [hv]; exact Vm.Alike.refl u.vm
  rw [hh]
  exact ⟨h1.moved hA, fun q hq => vk_R.same hv (h2 q hq), fun q hq => va_Nw.same rfl hv.symm (h3 q hq), fun q hq => va_Nc.moved hA (h4 q hq), fun q hq => va_Nw.same rfl hv.symm (h5 q hq), h6.moved hA, h7.moved hA, ⟨v8, hv8, h8.moved hA⟩, h9.moved hA, fun y hy => va_Nw.same rfl hv.symm (h10 y hy), h11, h12.moved hA, ⟨h13.moved hA, h14.moved hA⟩, h15.moved hA, h16.moved hA⟩
theorem oj_blind {av : List Value} {D : va_G} {tyA : Nat → ClassId} {adK adV : Nat → Nat} {b : Nat} {scr : Nat → (Nat → Int32) → Prop} {ad : Nat → Nat} {L : List Nat} {h : AHp} {sz : Nat} : FrameBlind (oj_Pc av D tyA adK adV b scr ad L h sz) :=
  fun a U g mk q => ⟨q.1, q.2.1, q.2.2.1, va_K.moved (u := U) (U := U.calling g mk a) (Vm.Alike.refl U.vm) q.2.2.2.1, oj_S.same (u := U) (U := U.calling g mk a) rfl rfl q.2.2.2.2.1, fun N xs hs => ⟨va_X.moved (u := U) (U := U.calling g mk a) (Vm.Alike.refl U.vm) (q.2.2.2.2.2 N xs hs).1, (q.2.2.2.2.2 N xs hs).2⟩⟩
def oj_ent (av : List Value) (nL : Nat) : List (Option Value) := av.map some ++ List.replicate (nL - av.length) none
theorem oj_args_mem (ad : Nat → Nat) : ∀ (av : List Value) (j i : Nat) (v : Value), (∀ v ∈ av, v.category = 1) → av[i]? = some v → (j + i, oj_v ad v) ∈ lv_args j (av.map (oj_v ad))
  | [], _, _, _, _, h => by cases h
  | w :: ws, j, 0, v, hc, h => by
    cases h
    exact List.mem_cons_self
  | w :: ws, j, i + 1, v, hc, h => by
    have h1 := oj_args_mem ad ws (j + 1) i v (fun v hv => hc v (List.mem_cons_of_mem _ hv)) h
    have h2 : (oj_v ad w).category = 1 := (oj_v_cat ad w).trans (hc w List.mem_cons_self)
    show (j + (i + 1), oj_v ad v) ∈ (j, oj_v ad w) :: lv_args (if (oj_v ad w).category = 2 then j + 2 else j + 1) (ws.map (oj_v ad))
    rw [if_neg (by rw [h2]; decide), show j + (i + 1) = j + 1 + i by omega]
    exact List.mem_cons_of_mem _ h1
theorem oj_lgsl (ad : Nat → Nat) : ∀ av : List Value, (∀ v ∈ av, v.category = 1) → (lg_sl (av.map (oj_v ad))).length = av.length
  | [], _ => rfl
  | w :: ws, hc => by
    have h2 : (oj_v ad w).category = 1 := (oj_v_cat ad w).trans (hc w List.mem_cons_self)
    have ih := oj_lgsl ad ws fun v hv => hc v (List.mem_cons_of_mem _ hv)
    unfold lg_sl at ih ⊢
    rw [List.map_cons, List.flatMap_cons, if_neg (by rw [h2]; decide), List.length_append, ih, List.length_cons, List.length_cons]
    simp only [List.length_nil]
    omega
theorem oj_entry {ad : Nat → Nat} {av : List Value} {nL : Nat} (hc : ∀ v ∈ av, v.category = 1) (hl : av.length ≤ nL) : oj_L ad nL (oj_ent av nL) ((lg_sl (av.map (oj_v ad)) ++ List.replicate (nL - (lg_sl (av.map (oj_v ad))).length) Slot.unset).toArray) := by
  have h := lv_entry (av.map (oj_v ad)) (n := nL) (by rw [oj_lgsl ad av hc]; exact hl)
  refine ⟨h.1, ?_, h.2.1, fun i v hv => ?_⟩
  · rw [oj_ent, List.length_append, List.length_map, List.length_replicate]; omega
  · have h1 : av[i]? = some v := by
      rw [oj_ent] at hv
      by_cases hi : i < (av.map some).length
      · rw [List.getElem?_append_left hi, List.getElem?_map] at hv
        cases hx : av[i]? with
        | none => rw [hx] at hv; cases hv
        | some w => rw [hx] at hv; cases hv; rfl
      · rw [List.getElem?_append_right (by omega)] at hv
        have := List.eq_of_mem_replicate (List.mem_of_getElem? hv)
        cases this
    have h2 := oj_args_mem ad av 0 i v hc h1
    rw [Nat.zero_add] at h2
    exact h.2.2 _ h2
section OJ3
variable {μ : MI} {d mc ms : Nat} {Q : QT} {k n pc : Nat} {ls : List (Option Value)} {st : List Value} {h : AHp} {i : Instr} {len nx : Nat} {c : Int32} {t : Nat}
set_option maxHeartbeats 1000000 in
theorem JM_of {av : List Value} (hg : oj_good μ) (hcls : (mY μ).cls = oj_cls (mO μ)) (hpl : plainName (mY μ).cls = true) (hlen : av.length ≤ mL μ) (hcat : ∀ v ∈ av, v.category = 1) (hlaw : mA μ = true → mO μ ≠ 7) (hj : J μ d mc ms Q 0 0 0 (oj_ent av (mL μ)) [] h) : JM μ d mc ms av h Q := by
  intro l hl D tyA adK adV b scr ad L sz
  have body : ∀ p e s m args below meth c s₁, BodyLoose p l (mY μ) (headSpec (oj_cw μ :: lwG) (oj_rm d mc ms)) (mC μ) (mL μ) (mR μ) e s m args below meth c s₁ → c.maxLocals = mL μ → c.exceptionTable.toList = tableOf (mH μ) → oj_Pc av D tyA adK adV b scr ad L h sz args s →
      W p l e (headSpec (oj_cw μ :: lwG) (oj_rm d mc ms)).room s m args below meth c s.heap [] 0 0 (vx_MQ below (oj_QC (mA μ) Q (va_A (oj_w ad tyA L h) sz) D tyA adK b scr ad L) (oj_XC Q (va_A (oj_w ad tyA L h) sz) D tyA adK b scr ad L) args s mc ms (va_A (oj_w ad tyA L h) sz)) (entryFrame m args (mL μ)) := by
    intro p e s m args below meth c s₁ B hml hxt hv
    obtain ⟨rfl, hsz, hW, hK, hS, hSc⟩ := hv
    have hr := B.returns
    have hts := atoms_spec (ws := oj_cw μ :: lwG) B.pre
    have hown : s.vm.findClass (mY μ).cls = some m.cls := findClass_of_methodNamed B.named
    have hlocks := B.notSynchronized
    have hname := (name_of_methodNamed B.named B.method).1
    have hx := B.exec
    have hb := B.bytes
    rw [lg_entry_eq]
    have hlo := oj_entry (ad := ad) (nL := mL μ) hcat hlen
    refine hj p l e _ s m _ below meth c (va_A (oj_w ad tyA L h) sz) D tyA adK adV b scr ad L _ ⟨hx, hb, hg, hml, by rw [← hcls]; exact hown, fun w hw => hts w (List.mem_cons_of_mem _ hw), hlocks, fun q => hname.trans q, hK, hS, fun q hq => Or.inr (by rw [← hsz]; exact hq), hl, ⟨Nat.le_refl _, Nat.le_refl _, Nat.le_refl _, Nat.le_refl _⟩, hxt, hSc, ?_, fun _ _ => ⟨_, rfl⟩⟩ ad L s.heap [] _ ⟨fun _ => ⟨rfl, rfl⟩, fun _ _ => rfl, fun _ q => q⟩ hW va_S.rf hlo
    intro ad' L' H locs h' pc' lsc i v hok hW' hS' hd hrets hQ
    have hq : ∀ (t : State) (v' : Option Value), v' = v.map (oj_v ad') → t.heap = H → s.WarmedH t.vm → oj_QC (mA μ) Q (va_A (oj_w ad tyA L h) sz) D tyA adK b scr ad L (av.map (oj_v ad)).toArray s (.returned v') t := fun t v' hv' ht _ => ⟨⟨v, h', ad', L', by rw [hv'], hQ, hok, by rw [ht]; exact hW'⟩, hS'.F ht⟩
    refine vx_ret ?_
    cases i
    case ireturn =>
      cases v with
      | none => exact absurd hrets (by simp [oj_rets])
      | some v =>
        cases v with
        | int x =>
          cases hret : mR μ with
          | none => rw [hret] at hrets; exact absurd hrets (by simp [oj_rets])
          | some ty =>
            rw [hret] at hrets hr
            exact W.zret hx hb hr (of_decide_eq_true hrets) (fun t ht hW => hq t _ rfl ht hW) hS'.2.2 hd
        | _ => exact absurd hrets (by simp [oj_rets])
    case lreturn =>
      cases v with
      | none => exact absurd hrets (by simp [oj_rets])
      | some v =>
        cases v with
        | long x => exact W.lret hx hb (hr.trans (of_decide_eq_true hrets)) (fun t ht hW => hq t _ rfl ht hW) hS'.2.2 hd
        | _ => exact absurd hrets (by simp [oj_rets])
    case freturn =>
      cases v with
      | none => exact absurd hrets (by simp [oj_rets])
      | some v =>
        cases v with
        | float x => exact W.fret hx hb (hr.trans (of_decide_eq_true hrets)) (fun t ht hW => hq t _ rfl ht hW) hS'.2.2 hd
        | _ => exact absurd hrets (by simp [oj_rets])
    case dreturn =>
      cases v with
      | none => exact absurd hrets (by simp [oj_rets])
      | some v =>
        cases v with
        | double x => exact W.dret hx hb (hr.trans (of_decide_eq_true hrets)) (fun t ht hW => hq t _ rfl ht hW) hS'.2.2 hd
        | _ => exact absurd hrets (by simp [oj_rets])
    case areturn =>
      cases hret : mR μ with
      | none =>
        rw [hret] at hrets
        cases v with
        | none => exact absurd hrets (by simp [oj_rets])
        | some v => cases v <;> exact absurd hrets (by simp [oj_rets])
      | some ty =>
        have hrt : (∃ n, ty = .object n) ∨ ∃ t, ty = .array t := by
          rw [hret] at hrets
          cases v with
          | none => exact absurd hrets (by simp [oj_rets])
          | some v =>
            cases v <;> cases ty <;> first
              | exact Or.inl ⟨_, rfl⟩
              | exact Or.inr ⟨_, rfl⟩
              | exact absurd hrets (by simp [oj_rets])
        rw [hret] at hr
        cases v with
        | none => exact absurd hrets (by simp [oj_rets])
        | some v =>
          cases v with
          | ref x => exact W.aret hx hb hr hrt (Or.inr ⟨_, rfl⟩) (fun t ht hW => hq t _ rfl ht hW) hS'.2.2 hd
          | null => exact W.aret hx hb hr hrt (Or.inl rfl) (fun t ht hW => hq t _ rfl ht hW) hS'.2.2 hd
          | _ => exact absurd hrets (by simp [oj_rets])
    case return_ =>
      cases v with
      | none => exact W.vret hx hb (hr.trans (of_decide_eq_true hrets)) (fun t ht hW => hq t _ rfl ht hW) hS'.2.2 hd
      | some v => exact absurd hrets (by simp [oj_rets])
    all_goals exact absurd hrets (by simp [oj_rets])
  cases hH : mH μ with
  | nil =>
    refine vx_ofW (cc := mC μ) (maxL := mL μ) (ret := mR μ) (ws' := lwG) hpl (by unfold oj_cw; rw [hH]) ?_
    intro p e s m args below meth c s₁ B hml ht hv
    refine body p e s m args below meth c s₁ B hml ?_ hv
    rw [hH]
    exact List.eq_nil_iff_forall_not_mem.mpr fun x hx => ht x hx
  | cons x xs =>
    refine vx_ofWH (cc := mC μ) (maxL := mL μ) (ret := mR μ) (hh := x :: xs) (ws' := lwG) hpl (by unfold oj_cw; rw [hH]) ?_
    intro p e s m args below meth c s₁ B hml hv
    refine body p e s m args below meth c s₁ B hml ?_ hv
    rw [hH]
    refine vx_table (x := mY μ) B (y := mY μ) (bytes := mC μ) (maxL' := mL μ) (ret' := mR μ) ?_
    have := atoms_spec (ws := oj_cw μ :: lwG) B.pre _ List.mem_cons_self
    unfold oj_cw at this
    rw [hH] at this
    exact this
end OJ3
