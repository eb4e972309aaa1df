set_option maxRecDepth 100000 in
theorem gl_0 : oj_chunk code tb0_L_law 0 40 = true := by decide +kernel
set_option maxRecDepth 100000 in
theorem gl_1 : oj_chunk code tb0_L_law 40 40 = true := by decide +kernel
set_option maxRecDepth 100000 in
theorem gl_2 : oj_chunk code tb0_L_law 80 40 = true := by decide +kernel
set_option maxRecDepth 100000 in
theorem gl_3 : oj_chunk code tb0_L_law 120 40 = true := by decide +kernel
set_option maxRecDepth 100000 in
theorem gl_4 : oj_chunk code tb0_L_law 160 40 = true := by decide +kernel
set_option maxRecDepth 100000 in
theorem gl_5 : oj_chunk code tb0_L_law 200 40 = true := by decide +kernel
set_option maxRecDepth 100000 in
theorem gl_6 : oj_chunk code tb0_L_law 240 40 = true := by decide +kernel
set_option maxRecDepth 100000 in
theorem gl_7 : oj_chunk code tb0_L_law 280 40 = true := by decide +kernel
set_option maxRecDepth 100000 in
theorem gl_8 : oj_chunk code tb0_L_law 320 40 = true := by decide +kernel
set_option maxRecDepth 100000 in
theorem gl_9 : oj_chunk code tb0_L_law 360 40 = true := by decide +kernel
set_option maxRecDepth 100000 in
theorem gl_10 : oj_chunk code tb0_L_law 400 40 = true := by decide +kernel
set_option maxRecDepth 100000 in
theorem gl_11 : oj_chunk code tb0_L_law 440 40 = true := by decide +kernel
set_option maxRecDepth 100000 in
theorem gl_12 : oj_chunk code tb0_L_law 480 40 = true := by decide +kernel
set_option maxRecDepth 100000 in
theorem gl_13 : oj_chunk code tb0_L_law 520 40 = true := by decide +kernel
set_option maxRecDepth 100000 in
theorem gl_14 : oj_chunk code tb0_L_law 560 40 = true := by decide +kernel
set_option maxRecDepth 100000 in
theorem gl_15 : oj_chunk code tb0_L_law 600 40 = true := by decide +kernel
set_option maxRecDepth 100000 in
theorem gl_16 : oj_chunk code tb0_L_law 640 40 = true := by decide +kernel
set_option maxRecDepth 100000 in
theorem gl_17 : oj_chunk code tb0_L_law 680 40 = true := by decide +kernel
set_option maxRecDepth 100000 in
theorem gl_18 : oj_chunk code tb0_L_law 720 40 = true := by decide +kernel
set_option maxRecDepth 100000 in
theorem gl_19 : oj_chunk code tb0_L_law 760 40 = true := by decide +kernel
set_option maxRecDepth 100000 in
theorem gl_20 : oj_chunk code tb0_L_law 800 40 = true := by decide +kernel
set_option maxRecDepth 100000 in
theorem gl_21 : oj_chunk code tb0_L_law 840 40 = true := by decide +kernel
set_option maxRecDepth 100000 in
theorem gl_22 : oj_chunk code tb0_L_law 880 40 = true := by decide +kernel
set_option maxRecDepth 100000 in
theorem gl_23 : oj_chunk code tb0_L_law 920 40 = true := by decide +kernel
set_option maxRecDepth 100000 in
theorem gl_24 : oj_chunk code tb0_L_law 960 40 = true := by decide +kernel
set_option maxRecDepth 100000 in
theorem gl_25 : oj_chunk code tb0_L_law 1000 40 = true := by decide +kernel
set_option maxRecDepth 100000 in
theorem gl_26 : oj_chunk code tb0_L_law 1040 40 = true := by decide +kernel
set_option maxRecDepth 100000 in
theorem gl_27 : oj_chunk code tb0_L_law 1080 40 = true := by decide +kernel
set_option maxRecDepth 100000 in
theorem gl_28 : oj_chunk code tb0_L_law 1120 40 = true := by decide +kernel
set_option maxRecDepth 100000 in
theorem gl_29 : oj_chunk code tb0_L_law 1160 40 = true := by decide +kernel
set_option maxRecDepth 100000 in
theorem gl_30 : oj_chunk code tb0_L_law 1200 40 = true := by decide +kernel
set_option maxRecDepth 100000 in
theorem gl_31 : oj_chunk code tb0_L_law 1240 40 = true := by decide +kernel
set_option maxRecDepth 100000 in
theorem gl_32 : oj_chunk code tb0_L_law 1280 40 = true := by decide +kernel
set_option maxRecDepth 100000 in
theorem gl_33 : oj_chunk code tb0_L_law 1320 40 = true := by decide +kernel
set_option maxRecDepth 100000 in
theorem gl_34 : oj_chunk code tb0_L_law 1360 40 = true := by decide +kernel
set_option maxRecDepth 100000 in
theorem gl_35 : oj_chunk code tb0_L_law 1400 40 = true := by decide +kernel
set_option maxRecDepth 100000 in
theorem gl_36 : oj_chunk code tb0_L_law 1440 40 = true := by decide +kernel
set_option maxRecDepth 100000 in
theorem gl_37 : oj_chunk code tb0_L_law 1480 40 = true := by decide +kernel
set_option maxRecDepth 100000 in
theorem gl_38 : oj_chunk code tb0_L_law 1520 40 = true := by decide +kernel
set_option maxRecDepth 100000 in
theorem gl_39 : oj_chunk code tb0_L_law 1560 40 = true := by decide +kernel
set_option maxRecDepth 100000 in
theorem gl_40 : oj_chunk code tb0_L_law 1600 40 = true := by decide +kernel
set_option maxRecDepth 100000 in
theorem gl_41 : oj_chunk code tb0_L_law 1640 40 = true := by decide +kernel
set_option maxRecDepth 100000 in
theorem gl_42 : oj_chunk code tb0_L_law 1680 40 = true := by decide +kernel
set_option maxRecDepth 100000 in
theorem gl_43 : oj_chunk code tb0_L_law 1720 40 = true := by decide +kernel
set_option maxRecDepth 100000 in
theorem gl_44 : oj_chunk code tb0_L_law 1760 40 = true := by decide +kernel
set_option maxRecDepth 100000 in
theorem gl_45 : oj_chunk code tb0_L_law 1800 40 = true := by decide +kernel
set_option maxRecDepth 100000 in
theorem gl_46 : oj_chunk code tb0_L_law 1840 40 = true := by decide +kernel
set_option maxRecDepth 100000 in
theorem gl_47 : oj_chunk code tb0_L_law 1880 40 = true := by decide +kernel
set_option maxRecDepth 100000 in
theorem gl_48 : oj_chunk code tb0_L_law 1920 40 = true := by decide +kernel
set_option maxRecDepth 100000 in
theorem gl_49 : oj_chunk code tb0_L_law 1960 40 = true := by decide +kernel
set_option maxRecDepth 100000 in
theorem gl_50 : oj_chunk code tb0_L_law 2000 40 = true := by decide +kernel
set_option maxRecDepth 100000 in
theorem gl_51 : oj_chunk code tb0_L_law 2040 40 = true := by decide +kernel
set_option maxRecDepth 100000 in
theorem gl_52 : oj_chunk code tb0_L_law 2080 40 = true := by decide +kernel
set_option maxRecDepth 100000 in
theorem gl_53 : oj_chunk code tb0_L_law 2120 40 = true := by decide +kernel
set_option maxRecDepth 100000 in
theorem gl_54 : oj_chunk code tb0_L_law 2160 40 = true := by decide +kernel
set_option maxRecDepth 100000 in
theorem gl_55 : oj_chunk code tb0_L_law 2200 40 = true := by decide +kernel
set_option maxRecDepth 100000 in
theorem gl_56 : oj_chunk code tb0_L_law 2240 40 = true := by decide +kernel
set_option maxRecDepth 100000 in
theorem gl_57 : oj_chunk code tb0_L_law 2280 40 = true := by decide +kernel
set_option maxRecDepth 100000 in
theorem gl_58 : oj_chunk code tb0_L_law 2320 40 = true := by decide +kernel
set_option maxRecDepth 100000 in
theorem gl_59 : oj_chunk code tb0_L_law 2360 40 = true := by decide +kernel
theorem gl_all : ∀ k, k < 2379 / 40 + 1 → oj_chunk code tb0_L_law (40 * k) 40 = true := fun k hk => match k, hk with
  | 0, _ => gl_0
  | 1, _ => gl_1
  | 2, _ => gl_2
  | 3, _ => gl_3
  | 4, _ => gl_4
  | 5, _ => gl_5
  | 6, _ => gl_6
  | 7, _ => gl_7
  | 8, _ => gl_8
  | 9, _ => gl_9
  | 10, _ => gl_10
  | 11, _ => gl_11
  | 12, _ => gl_12
  | 13, _ => gl_13
  | 14, _ => gl_14
  | 15, _ => gl_15
  | 16, _ => gl_16
  | 17, _ => gl_17
  | 18, _ => gl_18
  | 19, _ => gl_19
  | 20, _ => gl_20
  | 21, _ => gl_21
  | 22, _ => gl_22
  | 23, _ => gl_23
  | 24, _ => gl_24
  | 25, _ => gl_25
  | 26, _ => gl_26
  | 27, _ => gl_27
  | 28, _ => gl_28
  | 29, _ => gl_29
  | 30, _ => gl_30
  | 31, _ => gl_31
  | 32, _ => gl_32
  | 33, _ => gl_33
  | 34, _ => gl_34
  | 35, _ => gl_35
  | 36, _ => gl_36
  | 37, _ => gl_37
  | 38, _ => gl_38
  | 39, _ => gl_39
  | 40, _ => gl_40
  | 41, _ => gl_41
  | 42, _ => gl_42
  | 43, _ => gl_43
  | 44, _ => gl_44
  | 45, _ => gl_45
  | 46, _ => gl_46
  | 47, _ => gl_47
  | 48, _ => gl_48
  | 49, _ => gl_49
  | 50, _ => gl_50
  | 51, _ => gl_51
  | 52, _ => gl_52
  | 53, _ => gl_53
  | 54, _ => gl_54
  | 55, _ => gl_55
  | 56, _ => gl_56
  | 57, _ => gl_57
  | 58, _ => gl_58
  | 59, _ => gl_59
  | k + 60, h => absurd h (by omega)
theorem gd_L_law : oj_good mi_L_law := oj_good_of2 2379 40 tb0_L_law (by decide) (fun _ => rfl) gl_all
