set_option maxRecDepth 100000 in
theorem gl_0 : oj_chunk code tb0_L_law 0 40 = true := by decide +kernel
set_option maxRecDepth 100000 in
theorem gl_1 : oj_chunk code tb0_L_law 40 40 = true := by decide +kernel
set_option maxRecDepth 100000 in
theorem gl_2 : oj_chunk code tb0_L_law 80 40 = true := by decide +kernel
set_option maxRecDepth 100000 in
theorem gl_3 : oj_chunk code tb0_L_law 120 40 = true := by decide +kernel
set_option maxRecDepth 100000 in
theorem gl_4 : oj_chunk code tb0_L_law 160 40 = true := by decide +kernel
set_option maxRecDepth 100000 in
theorem gl_5 : oj_chunk code tb0_L_law 200 40 = true := by decide +kernel
set_option maxRecDepth 100000 in
theorem gl_6 : oj_chunk code tb0_L_law 240 40 = true := by decide +kernel
theorem gl_all : ∀ k, k < 266 / 40 + 1 → oj_chunk code tb0_L_law (40 * k) 40 = true := fun k hk => match k, hk with
  | 0, _ => gl_0
  | 1, _ => gl_1
  | 2, _ => gl_2
  | 3, _ => gl_3
  | 4, _ => gl_4
  | 5, _ => gl_5
  | 6, _ => gl_6
  | k + 7, h => absurd h (by omega)
theorem gd_L_law : oj_good mi_L_law := oj_good_of2 266 40 tb0_L_law (by decide) (fun _ => rfl) gl_all
