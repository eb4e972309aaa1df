set_option maxRecDepth 100000 in
theorem oj_ck_440 : (List.range 16).all (fun j => oj_chkK (16 * 440 + j)) = true := by decide +kernel
set_option maxRecDepth 100000 in
theorem oj_ck_441 : (List.range 16).all (fun j => oj_chkK (16 * 441 + j)) = true := by decide +kernel
set_option maxRecDepth 100000 in
theorem oj_ck_442 : (List.range 16).all (fun j => oj_chkK (16 * 442 + j)) = true := by decide +kernel
set_option maxRecDepth 100000 in
theorem oj_ck_443 : (List.range 16).all (fun j => oj_chkK (16 * 443 + j)) = true := by decide +kernel
set_option maxRecDepth 100000 in
theorem oj_ck_444 : (List.range 16).all (fun j => oj_chkK (16 * 444 + j)) = true := by decide +kernel
set_option maxRecDepth 100000 in
theorem oj_ck_445 : (List.range 16).all (fun j => oj_chkK (16 * 445 + j)) = true := by decide +kernel
set_option maxRecDepth 100000 in
theorem oj_ck_446 : (List.range 16).all (fun j => oj_chkK (16 * 446 + j)) = true := by decide +kernel
set_option maxRecDepth 100000 in
theorem oj_ck_447 : (List.range 16).all (fun j => oj_chkK (16 * 447 + j)) = true := by decide +kernel
set_option maxRecDepth 100000 in
theorem oj_ck_448 : (List.range 16).all (fun j => oj_chkK (16 * 448 + j)) = true := by decide +kernel
set_option maxRecDepth 100000 in
theorem oj_ck_449 : (List.range 16).all (fun j => oj_chkK (16 * 449 + j)) = true := by decide +kernel
set_option maxRecDepth 100000 in
theorem oj_ck_450 : (List.range 16).all (fun j => oj_chkK (16 * 450 + j)) = true := by decide +kernel
set_option maxRecDepth 100000 in
theorem oj_ck_451 : (List.range 16).all (fun j => oj_chkK (16 * 451 + j)) = true := by decide +kernel
set_option maxRecDepth 100000 in
theorem oj_ck_452 : (List.range 16).all (fun j => oj_chkK (16 * 452 + j)) = true := by decide +kernel
set_option maxRecDepth 100000 in
theorem oj_ck_453 : (List.range 16).all (fun j => oj_chkK (16 * 453 + j)) = true := by decide +kernel
set_option maxRecDepth 100000 in
theorem oj_ck_454 : (List.range 16).all (fun j => oj_chkK (16 * 454 + j)) = true := by decide +kernel
set_option maxRecDepth 100000 in
theorem oj_ck_455 : (List.range 16).all (fun j => oj_chkK (16 * 455 + j)) = true := by decide +kernel
set_option maxRecDepth 100000 in
theorem oj_ck_456 : (List.range 16).all (fun j => oj_chkK (16 * 456 + j)) = true := by decide +kernel
set_option maxRecDepth 100000 in
theorem oj_ck_457 : (List.range 16).all (fun j => oj_chkK (16 * 457 + j)) = true := by decide +kernel
set_option maxRecDepth 100000 in
theorem oj_ck_458 : (List.range 16).all (fun j => oj_chkK (16 * 458 + j)) = true := by decide +kernel
set_option maxRecDepth 100000 in
theorem oj_ck_459 : (List.range 16).all (fun j => oj_chkK (16 * 459 + j)) = true := by decide +kernel
set_option maxRecDepth 100000 in
theorem oj_ck_460 : (List.range 16).all (fun j => oj_chkK (16 * 460 + j)) = true := by decide +kernel
set_option maxRecDepth 100000 in
theorem oj_ck_461 : (List.range 16).all (fun j => oj_chkK (16 * 461 + j)) = true := by decide +kernel
set_option maxRecDepth 100000 in
theorem oj_ck_462 : (List.range 16).all (fun j => oj_chkK (16 * 462 + j)) = true := by decide +kernel
set_option maxRecDepth 100000 in
theorem oj_ck_463 : (List.range 16).all (fun j => oj_chkK (16 * 463 + j)) = true := by decide +kernel
set_option maxRecDepth 100000 in
theorem oj_ck_464 : (List.range 16).all (fun j => oj_chkK (16 * 464 + j)) = true := by decide +kernel
set_option maxRecDepth 100000 in
theorem oj_ck_465 : (List.range 16).all (fun j => oj_chkK (16 * 465 + j)) = true := by decide +kernel
set_option maxRecDepth 100000 in
theorem oj_ck_466 : (List.range 16).all (fun j => oj_chkK (16 * 466 + j)) = true := by decide +kernel
set_option maxRecDepth 100000 in
theorem oj_ck_467 : (List.range 16).all (fun j => oj_chkK (16 * 467 + j)) = true := by decide +kernel
set_option maxRecDepth 100000 in
theorem oj_ck_468 : (List.range 16).all (fun j => oj_chkK (16 * 468 + j)) = true := by decide +kernel
set_option maxRecDepth 100000 in
theorem oj_ck_469 : (List.range 16).all (fun j => oj_chkK (16 * 469 + j)) = true := by decide +kernel
set_option maxRecDepth 100000 in
theorem oj_ck_470 : (List.range 16).all (fun j => oj_chkK (16 * 470 + j)) = true := by decide +kernel
set_option maxRecDepth 100000 in
theorem oj_ck_471 : (List.range 16).all (fun j => oj_chkK (16 * 471 + j)) = true := by decide +kernel
set_option maxRecDepth 100000 in
theorem oj_ck_472 : (List.range 16).all (fun j => oj_chkK (16 * 472 + j)) = true := by decide +kernel
set_option maxRecDepth 100000 in
theorem oj_ck_473 : (List.range 16).all (fun j => oj_chkK (16 * 473 + j)) = true := by decide +kernel
set_option maxRecDepth 100000 in
theorem oj_ck_474 : (List.range 16).all (fun j => oj_chkK (16 * 474 + j)) = true := by decide +kernel
set_option maxRecDepth 100000 in
theorem oj_ck_475 : (List.range 16).all (fun j => oj_chkK (16 * 475 + j)) = true := by decide +kernel
set_option maxRecDepth 100000 in
theorem oj_ck_476 : (List.range 16).all (fun j => oj_chkK (16 * 476 + j)) = true := by decide +kernel
set_option maxRecDepth 100000 in
theorem oj_ck_477 : (List.range 16).all (fun j => oj_chkK (16 * 477 + j)) = true := by decide +kernel
set_option maxRecDepth 100000 in
theorem oj_ck_478 : (List.range 16).all (fun j => oj_chkK (16 * 478 + j)) = true := by decide +kernel
set_option maxRecDepth 100000 in
theorem oj_ck_479 : (List.range 16).all (fun j => oj_chkK (16 * 479 + j)) = true := by decide +kernel
set_option maxRecDepth 100000 in
theorem oj_ck_480 : (List.range 16).all (fun j => oj_chkK (16 * 480 + j)) = true := by decide +kernel
set_option maxRecDepth 100000 in
theorem oj_ck_481 : (List.range 16).all (fun j => oj_chkK (16 * 481 + j)) = true := by decide +kernel
set_option maxRecDepth 100000 in
theorem oj_ck_482 : (List.range 16).all (fun j => oj_chkK (16 * 482 + j)) = true := by decide +kernel
set_option maxRecDepth 100000 in
theorem oj_ck_483 : (List.range 16).all (fun j => oj_chkK (16 * 483 + j)) = true := by decide +kernel
set_option maxRecDepth 100000 in
theorem oj_ck_484 : (List.range 16).all (fun j => oj_chkK (16 * 484 + j)) = true := by decide +kernel
set_option maxRecDepth 100000 in
theorem oj_ck_485 : (List.range 16).all (fun j => oj_chkK (16 * 485 + j)) = true := by decide +kernel
set_option maxRecDepth 100000 in
theorem oj_ck_486 : (List.range 16).all (fun j => oj_chkK (16 * 486 + j)) = true := by decide +kernel
set_option maxRecDepth 100000 in
theorem oj_ck_487 : (List.range 16).all (fun j => oj_chkK (16 * 487 + j)) = true := by decide +kernel
set_option maxRecDepth 100000 in
theorem oj_ck_488 : (List.range 16).all (fun j => oj_chkK (16 * 488 + j)) = true := by decide +kernel
set_option maxRecDepth 100000 in
theorem oj_ck_489 : (List.range 16).all (fun j => oj_chkK (16 * 489 + j)) = true := by decide +kernel
set_option maxRecDepth 100000 in
theorem oj_ck_490 : (List.range 16).all (fun j => oj_chkK (16 * 490 + j)) = true := by decide +kernel
set_option maxRecDepth 100000 in
theorem oj_ck_491 : (List.range 16).all (fun j => oj_chkK (16 * 491 + j)) = true := by decide +kernel
set_option maxRecDepth 100000 in
theorem oj_ck_492 : (List.range 16).all (fun j => oj_chkK (16 * 492 + j)) = true := by decide +kernel
set_option maxRecDepth 100000 in
theorem oj_ck_493 : (List.range 16).all (fun j => oj_chkK (16 * 493 + j)) = true := by decide +kernel
set_option maxRecDepth 100000 in
theorem oj_ck_494 : (List.range 16).all (fun j => oj_chkK (16 * 494 + j)) = true := by decide +kernel
set_option maxRecDepth 100000 in
theorem oj_ck_495 : (List.range 16).all (fun j => oj_chkK (16 * 495 + j)) = true := by decide +kernel
set_option maxRecDepth 100000 in
theorem oj_ck_496 : (List.range 16).all (fun j => oj_chkK (16 * 496 + j)) = true := by decide +kernel
set_option maxRecDepth 100000 in
theorem oj_ck_497 : (List.range 16).all (fun j => oj_chkK (16 * 497 + j)) = true := by decide +kernel
set_option maxRecDepth 100000 in
theorem oj_ck_498 : (List.range 16).all (fun j => oj_chkK (16 * 498 + j)) = true := by decide +kernel
set_option maxRecDepth 100000 in
theorem oj_ck_499 : (List.range 16).all (fun j => oj_chkK (16 * 499 + j)) = true := by decide +kernel
set_option maxRecDepth 100000 in
theorem oj_ck_500 : (List.range 16).all (fun j => oj_chkK (16 * 500 + j)) = true := by decide +kernel
set_option maxRecDepth 100000 in
theorem oj_ck_501 : (List.range 16).all (fun j => oj_chkK (16 * 501 + j)) = true := by decide +kernel
set_option maxRecDepth 100000 in
theorem oj_ck_502 : (List.range 16).all (fun j => oj_chkK (16 * 502 + j)) = true := by decide +kernel
set_option maxRecDepth 100000 in
theorem oj_ck_503 : (List.range 16).all (fun j => oj_chkK (16 * 503 + j)) = true := by decide +kernel
set_option maxRecDepth 100000 in
theorem oj_ck_504 : (List.range 16).all (fun j => oj_chkK (16 * 504 + j)) = true := by decide +kernel
set_option maxRecDepth 100000 in
theorem oj_ck_505 : (List.range 16).all (fun j => oj_chkK (16 * 505 + j)) = true := by decide +kernel
set_option maxRecDepth 100000 in
theorem oj_ck_506 : (List.range 16).all (fun j => oj_chkK (16 * 506 + j)) = true := by decide +kernel
set_option maxRecDepth 100000 in
theorem oj_ck_507 : (List.range 16).all (fun j => oj_chkK (16 * 507 + j)) = true := by decide +kernel
set_option maxRecDepth 100000 in
theorem oj_ck_508 : (List.range 16).all (fun j => oj_chkK (16 * 508 + j)) = true := by decide +kernel
set_option maxRecDepth 100000 in
theorem oj_ck_509 : (List.range 16).all (fun j => oj_chkK (16 * 509 + j)) = true := by decide +kernel
set_option maxRecDepth 100000 in
theorem oj_ck_510 : (List.range 16).all (fun j => oj_chkK (16 * 510 + j)) = true := by decide +kernel
set_option maxRecDepth 100000 in
theorem oj_ck_511 : (List.range 16).all (fun j => oj_chkK (16 * 511 + j)) = true := by decide +kernel
theorem oj_cg_0 : ∀ k, k < 16 → (List.range 16).all (fun j => oj_chkK (16 * (16 * 0 + k) + j)) = true := fun k hk => match k, hk with
  | 0, _ => oj_ck_0
  | 1, _ => oj_ck_1
  | 2, _ => oj_ck_2
  | 3, _ => oj_ck_3
  | 4, _ => oj_ck_4
  | 5, _ => oj_ck_5
  | 6, _ => oj_ck_6
  | 7, _ => oj_ck_7
  | 8, _ => oj_ck_8
  | 9, _ => oj_ck_9
  | 10, _ => oj_ck_10
  | 11, _ => oj_ck_11
  | 12, _ => oj_ck_12
  | 13, _ => oj_ck_13
  | 14, _ => oj_ck_14
  | 15, _ => oj_ck_15
  | k + 16, h => absurd h (by omega)
theorem oj_cg_1 : ∀ k, k < 16 → (List.range 16).all (fun j => oj_chkK (16 * (16 * 1 + k) + j)) = true := fun k hk => match k, hk with
  | 0, _ => oj_ck_16
  | 1, _ => oj_ck_17
  | 2, _ => oj_ck_18
  | 3, _ => oj_ck_19
  | 4, _ => oj_ck_20
  | 5, _ => oj_ck_21
  | 6, _ => oj_ck_22
  | 7, _ => oj_ck_23
  | 8, _ => oj_ck_24
  | 9, _ => oj_ck_25
  | 10, _ => oj_ck_26
  | 11, _ => oj_ck_27
  | 12, _ => oj_ck_28
  | 13, _ => oj_ck_29
  | 14, _ => oj_ck_30
  | 15, _ => oj_ck_31
  | k + 16, h => absurd h (by omega)
theorem oj_cg_2 : ∀ k, k < 16 → (List.range 16).all (fun j => oj_chkK (16 * (16 * 2 + k) + j)) = true := fun k hk => match k, hk with
  | 0, _ => oj_ck_32
  | 1, _ => oj_ck_33
  | 2, _ => oj_ck_34
  | 3, _ => oj_ck_35
  | 4, _ => oj_ck_36
  | 5, _ => oj_ck_37
  | 6, _ => oj_ck_38
  | 7, _ => oj_ck_39
  | 8, _ => oj_ck_40
  | 9, _ => oj_ck_41
  | 10, _ => oj_ck_42
  | 11, _ => oj_ck_43
  | 12, _ => oj_ck_44
  | 13, _ => oj_ck_45
  | 14, _ => oj_ck_46
  | 15, _ => oj_ck_47
  | k + 16, h => absurd h (by omega)
theorem oj_cg_3 : ∀ k, k < 16 → (List.range 16).all (fun j => oj_chkK (16 * (16 * 3 + k) + j)) = true := fun k hk => match k, hk with
  | 0, _ => oj_ck_48
  | 1, _ => oj_ck_49
  | 2, _ => oj_ck_50
  | 3, _ => oj_ck_51
  | 4, _ => oj_ck_52
  | 5, _ => oj_ck_53
  | 6, _ => oj_ck_54
  | 7, _ => oj_ck_55
  | 8, _ => oj_ck_56
  | 9, _ => oj_ck_57
  | 10, _ => oj_ck_58
  | 11, _ => oj_ck_59
  | 12, _ => oj_ck_60
  | 13, _ => oj_ck_61
  | 14, _ => oj_ck_62
  | 15, _ => oj_ck_63
  | k + 16, h => absurd h (by omega)
theorem oj_cg_4 : ∀ k, k < 16 → (List.range 16).all (fun j => oj_chkK (16 * (16 * 4 + k) + j)) = true := fun k hk => match k, hk with
  | 0, _ => oj_ck_64
  | 1, _ => oj_ck_65
  | 2, _ => oj_ck_66
  | 3, _ => oj_ck_67
  | 4, _ => oj_ck_68
  | 5, _ => oj_ck_69
  | 6, _ => oj_ck_70
  | 7, _ => oj_ck_71
  | 8, _ => oj_ck_72
  | 9, _ => oj_ck_73
  | 10, _ => oj_ck_74
  | 11, _ => oj_ck_75
  | 12, _ => oj_ck_76
  | 13, _ => oj_ck_77
  | 14, _ => oj_ck_78
  | 15, _ => oj_ck_79
  | k + 16, h => absurd h (by omega)
theorem oj_cg_5 : ∀ k, k < 16 → (List.range 16).all (fun j => oj_chkK (16 * (16 * 5 + k) + j)) = true := fun k hk => match k, hk with
  | 0, _ => oj_ck_80
  | 1, _ => oj_ck_81
  | 2, _ => oj_ck_82
  | 3, _ => oj_ck_83
  | 4, _ => oj_ck_84
  | 5, _ => oj_ck_85
  | 6, _ => oj_ck_86
  | 7, _ => oj_ck_87
  | 8, _ => oj_ck_88
  | 9, _ => oj_ck_89
  | 10, _ => oj_ck_90
  | 11, _ => oj_ck_91
  | 12, _ => oj_ck_92
  | 13, _ => oj_ck_93
  | 14, _ => oj_ck_94
  | 15, _ => oj_ck_95
  | k + 16, h => absurd h (by omega)
theorem oj_cg_6 : ∀ k, k < 16 → (List.range 16).all (fun j => oj_chkK (16 * (16 * 6 + k) + j)) = true := fun k hk => match k, hk with
  | 0, _ => oj_ck_96
  | 1, _ => oj_ck_97
  | 2, _ => oj_ck_98
  | 3, _ => oj_ck_99
  | 4, _ => oj_ck_100
  | 5, _ => oj_ck_101
  | 6, _ => oj_ck_102
  | 7, _ => oj_ck_103
  | 8, _ => oj_ck_104
  | 9, _ => oj_ck_105
  | 10, _ => oj_ck_106
  | 11, _ => oj_ck_107
  | 12, _ => oj_ck_108
  | 13, _ => oj_ck_109
  | 14, _ => oj_ck_110
  | 15, _ => oj_ck_111
  | k + 16, h => absurd h (by omega)
theorem oj_cg_7 : ∀ k, k < 16 → (List.range 16).all (fun j => oj_chkK (16 * (16 * 7 + k) + j)) = true := fun k hk => match k, hk with
  | 0, _ => oj_ck_112
  | 1, _ => oj_ck_113
  | 2, _ => oj_ck_114
  | 3, _ => oj_ck_115
  | 4, _ => oj_ck_116
  | 5, _ => oj_ck_117
  | 6, _ => oj_ck_118
  | 7, _ => oj_ck_119
  | 8, _ => oj_ck_120
  | 9, _ => oj_ck_121
  | 10, _ => oj_ck_122
  | 11, _ => oj_ck_123
  | 12, _ => oj_ck_124
  | 13, _ => oj_ck_125
  | 14, _ => oj_ck_126
  | 15, _ => oj_ck_127
  | k + 16, h => absurd h (by omega)
theorem oj_cg_8 : ∀ k, k < 16 → (List.range 16).all (fun j => oj_chkK (16 * (16 * 8 + k) + j)) = true := fun k hk => match k, hk with
  | 0, _ => oj_ck_128
  | 1, _ => oj_ck_129
  | 2, _ => oj_ck_130
  | 3, _ => oj_ck_131
  | 4, _ => oj_ck_132
  | 5, _ => oj_ck_133
  | 6, _ => oj_ck_134
  | 7, _ => oj_ck_135
  | 8, _ => oj_ck_136
  | 9, _ => oj_ck_137
  | 10, _ => oj_ck_138
  | 11, _ => oj_ck_139
  | 12, _ => oj_ck_140
  | 13, _ => oj_ck_141
  | 14, _ => oj_ck_142
  | 15, _ => oj_ck_143
  | k + 16, h => absurd h (by omega)
theorem oj_cg_9 : ∀ k, k < 16 → (List.range 16).all (fun j => oj_chkK (16 * (16 * 9 + k) + j)) = true := fun k hk => match k, hk with
  | 0, _ => oj_ck_144
  | 1, _ => oj_ck_145
  | 2, _ => oj_ck_146
  | 3, _ => oj_ck_147
  | 4, _ => oj_ck_148
  | 5, _ => oj_ck_149
  | 6, _ => oj_ck_150
  | 7, _ => oj_ck_151
  | 8, _ => oj_ck_152
  | 9, _ => oj_ck_153
  | 10, _ => oj_ck_154
  | 11, _ => oj_ck_155
  | 12, _ => oj_ck_156
  | 13, _ => oj_ck_157
  | 14, _ => oj_ck_158
  | 15, _ => oj_ck_159
  | k + 16, h => absurd h (by omega)
theorem oj_cg_10 : ∀ k, k < 16 → (List.range 16).all (fun j => oj_chkK (16 * (16 * 10 + k) + j)) = true := fun k hk => match k, hk with
  | 0, _ => oj_ck_160
  | 1, _ => oj_ck_161
  | 2, _ => oj_ck_162
  | 3, _ => oj_ck_163
  | 4, _ => oj_ck_164
  | 5, _ => oj_ck_165
  | 6, _ => oj_ck_166
  | 7, _ => oj_ck_167
  | 8, _ => oj_ck_168
  | 9, _ => oj_ck_169
  | 10, _ => oj_ck_170
  | 11, _ => oj_ck_171
  | 12, _ => oj_ck_172
  | 13, _ => oj_ck_173
  | 14, _ => oj_ck_174
  | 15, _ => oj_ck_175
  | k + 16, h => absurd h (by omega)
theorem oj_cg_11 : ∀ k, k < 16 → (List.range 16).all (fun j => oj_chkK (16 * (16 * 11 + k) + j)) = true := fun k hk => match k, hk with
  | 0, _ => oj_ck_176
  | 1, _ => oj_ck_177
  | 2, _ => oj_ck_178
  | 3, _ => oj_ck_179
  | 4, _ => oj_ck_180
  | 5, _ => oj_ck_181
  | 6, _ => oj_ck_182
  | 7, _ => oj_ck_183
  | 8, _ => oj_ck_184
  | 9, _ => oj_ck_185
  | 10, _ => oj_ck_186
  | 11, _ => oj_ck_187
  | 12, _ => oj_ck_188
  | 13, _ => oj_ck_189
  | 14, _ => oj_ck_190
  | 15, _ => oj_ck_191
  | k + 16, h => absurd h (by omega)
theorem oj_cg_12 : ∀ k, k < 16 → (List.range 16).all (fun j => oj_chkK (16 * (16 * 12 + k) + j)) = true := fun k hk => match k, hk with
  | 0, _ => oj_ck_192
  | 1, _ => oj_ck_193
  | 2, _ => oj_ck_194
  | 3, _ => oj_ck_195
  | 4, _ => oj_ck_196
  | 5, _ => oj_ck_197
  | 6, _ => oj_ck_198
  | 7, _ => oj_ck_199
  | 8, _ => oj_ck_200
  | 9, _ => oj_ck_201
  | 10, _ => oj_ck_202
  | 11, _ => oj_ck_203
  | 12, _ => oj_ck_204
  | 13, _ => oj_ck_205
  | 14, _ => oj_ck_206
  | 15, _ => oj_ck_207
  | k + 16, h => absurd h (by omega)
theorem oj_cg_13 : ∀ k, k < 16 → (List.range 16).all (fun j => oj_chkK (16 * (16 * 13 + k) + j)) = true := fun k hk => match k, hk with
  | 0, _ => oj_ck_208
  | 1, _ => oj_ck_209
  | 2, _ => oj_ck_210
  | 3, _ => oj_ck_211
  | 4, _ => oj_ck_212
  | 5, _ => oj_ck_213
  | 6, _ => oj_ck_214
  | 7, _ => oj_ck_215
  | 8, _ => oj_ck_216
  | 9, _ => oj_ck_217
  | 10, _ => oj_ck_218
  | 11, _ => oj_ck_219
  | 12, _ => oj_ck_220
  | 13, _ => oj_ck_221
  | 14, _ => oj_ck_222
  | 15, _ => oj_ck_223
  | k + 16, h => absurd h (by omega)
theorem oj_cg_14 : ∀ k, k < 16 → (List.range 16).all (fun j => oj_chkK (16 * (16 * 14 + k) + j)) = true := fun k hk => match k, hk with
  | 0, _ => oj_ck_224
  | 1, _ => oj_ck_225
  | 2, _ => oj_ck_226
  | 3, _ => oj_ck_227
  | 4, _ => oj_ck_228
  | 5, _ => oj_ck_229
  | 6, _ => oj_ck_230
  | 7, _ => oj_ck_231
  | 8, _ => oj_ck_232
  | 9, _ => oj_ck_233
  | 10, _ => oj_ck_234
  | 11, _ => oj_ck_235
  | 12, _ => oj_ck_236
  | 13, _ => oj_ck_237
  | 14, _ => oj_ck_238
  | 15, _ => oj_ck_239
  | k + 16, h => absurd h (by omega)
theorem oj_cg_15 : ∀ k, k < 16 → (List.range 16).all (fun j => oj_chkK (16 * (16 * 15 + k) + j)) = true := fun k hk => match k, hk with
  | 0, _ => oj_ck_240
  | 1, _ => oj_ck_241
  | 2, _ => oj_ck_242
  | 3, _ => oj_ck_243
  | 4, _ => oj_ck_244
  | 5, _ => oj_ck_245
  | 6, _ => oj_ck_246
  | 7, _ => oj_ck_247
  | 8, _ => oj_ck_248
  | 9, _ => oj_ck_249
  | 10, _ => oj_ck_250
  | 11, _ => oj_ck_251
  | 12, _ => oj_ck_252
  | 13, _ => oj_ck_253
  | 14, _ => oj_ck_254
  | 15, _ => oj_ck_255
  | k + 16, h => absurd h (by omega)
theorem oj_cg_16 : ∀ k, k < 16 → (List.range 16).all (fun j => oj_chkK (16 * (16 * 16 + k) + j)) = true := fun k hk => match k, hk with
  | 0, _ => oj_ck_256
  | 1, _ => oj_ck_257
  | 2, _ => oj_ck_258
  | 3, _ => oj_ck_259
  | 4, _ => oj_ck_260
  | 5, _ => oj_ck_261
  | 6, _ => oj_ck_262
  | 7, _ => oj_ck_263
  | 8, _ => oj_ck_264
  | 9, _ => oj_ck_265
  | 10, _ => oj_ck_266
  | 11, _ => oj_ck_267
  | 12, _ => oj_ck_268
  | 13, _ => oj_ck_269
  | 14, _ => oj_ck_270
  | 15, _ => oj_ck_271
  | k + 16, h => absurd h (by omega)
theorem oj_cg_17 : ∀ k, k < 16 → (List.range 16).all (fun j => oj_chkK (16 * (16 * 17 + k) + j)) = true := fun k hk => match k, hk with
  | 0, _ => oj_ck_272
  | 1, _ => oj_ck_273
  | 2, _ => oj_ck_274
  | 3, _ => oj_ck_275
  | 4, _ => oj_ck_276
  | 5, _ => oj_ck_277
  | 6, _ => oj_ck_278
  | 7, _ => oj_ck_279
  | 8, _ => oj_ck_280
  | 9, _ => oj_ck_281
  | 10, _ => oj_ck_282
  | 11, _ => oj_ck_283
  | 12, _ => oj_ck_284
  | 13, _ => oj_ck_285
  | 14, _ => oj_ck_286
  | 15, _ => oj_ck_287
  | k + 16, h => absurd h (by omega)
theorem oj_cg_18 : ∀ k, k < 16 → (List.range 16).all (fun j => oj_chkK (16 * (16 * 18 + k) + j)) = true := fun k hk => match k, hk with
  | 0, _ => oj_ck_288
  | 1, _ => oj_ck_289
  | 2, _ => oj_ck_290
  | 3, _ => oj_ck_291
  | 4, _ => oj_ck_292
  | 5, _ => oj_ck_293
  | 6, _ => oj_ck_294
  | 7, _ => oj_ck_295
  | 8, _ => oj_ck_296
  | 9, _ => oj_ck_297
  | 10, _ => oj_ck_298
  | 11, _ => oj_ck_299
  | 12, _ => oj_ck_300
  | 13, _ => oj_ck_301
  | 14, _ => oj_ck_302
  | 15, _ => oj_ck_303
  | k + 16, h => absurd h (by omega)
theorem oj_cg_19 : ∀ k, k < 16 → (List.range 16).all (fun j => oj_chkK (16 * (16 * 19 + k) + j)) = true := fun k hk => match k, hk with
  | 0, _ => oj_ck_304
  | 1, _ => oj_ck_305
  | 2, _ => oj_ck_306
  | 3, _ => oj_ck_307
  | 4, _ => oj_ck_308
  | 5, _ => oj_ck_309
  | 6, _ => oj_ck_310
  | 7, _ => oj_ck_311
  | 8, _ => oj_ck_312
  | 9, _ => oj_ck_313
  | 10, _ => oj_ck_314
  | 11, _ => oj_ck_315
  | 12, _ => oj_ck_316
  | 13, _ => oj_ck_317
  | 14, _ => oj_ck_318
  | 15, _ => oj_ck_319
  | k + 16, h => absurd h (by omega)
theorem oj_cg_20 : ∀ k, k < 16 → (List.range 16).all (fun j => oj_chkK (16 * (16 * 20 + k) + j)) = true := fun k hk => match k, hk with
  | 0, _ => oj_ck_320
  | 1, _ => oj_ck_321
  | 2, _ => oj_ck_322
  | 3, _ => oj_ck_323
  | 4, _ => oj_ck_324
  | 5, _ => oj_ck_325
  | 6, _ => oj_ck_326
  | 7, _ => oj_ck_327
  | 8, _ => oj_ck_328
  | 9, _ => oj_ck_329
  | 10, _ => oj_ck_330
  | 11, _ => oj_ck_331
  | 12, _ => oj_ck_332
  | 13, _ => oj_ck_333
  | 14, _ => oj_ck_334
  | 15, _ => oj_ck_335
  | k + 16, h => absurd h (by omega)
theorem oj_cg_21 : ∀ k, k < 16 → (List.range 16).all (fun j => oj_chkK (16 * (16 * 21 + k) + j)) = true := fun k hk => match k, hk with
  | 0, _ => oj_ck_336
  | 1, _ => oj_ck_337
  | 2, _ => oj_ck_338
  | 3, _ => oj_ck_339
  | 4, _ => oj_ck_340
  | 5, _ => oj_ck_341
  | 6, _ => oj_ck_342
  | 7, _ => oj_ck_343
  | 8, _ => oj_ck_344
  | 9, _ => oj_ck_345
  | 10, _ => oj_ck_346
  | 11, _ => oj_ck_347
  | 12, _ => oj_ck_348
  | 13, _ => oj_ck_349
  | 14, _ => oj_ck_350
  | 15, _ => oj_ck_351
  | k + 16, h => absurd h (by omega)
theorem oj_cg_22 : ∀ k, k < 16 → (List.range 16).all (fun j => oj_chkK (16 * (16 * 22 + k) + j)) = true := fun k hk => match k, hk with
  | 0, _ => oj_ck_352
  | 1, _ => oj_ck_353
  | 2, _ => oj_ck_354
  | 3, _ => oj_ck_355
  | 4, _ => oj_ck_356
  | 5, _ => oj_ck_357
  | 6, _ => oj_ck_358
  | 7, _ => oj_ck_359
  | 8, _ => oj_ck_360
  | 9, _ => oj_ck_361
  | 10, _ => oj_ck_362
  | 11, _ => oj_ck_363
  | 12, _ => oj_ck_364
  | 13, _ => oj_ck_365
  | 14, _ => oj_ck_366
  | 15, _ => oj_ck_367
  | k + 16, h => absurd h (by omega)
theorem oj_cg_23 : ∀ k, k < 16 → (List.range 16).all (fun j => oj_chkK (16 * (16 * 23 + k) + j)) = true := fun k hk => match k, hk with
  | 0, _ => oj_ck_368
  | 1, _ => oj_ck_369
  | 2, _ => oj_ck_370
  | 3, _ => oj_ck_371
  | 4, _ => oj_ck_372
  | 5, _ => oj_ck_373
  | 6, _ => oj_ck_374
  | 7, _ => oj_ck_375
  | 8, _ => oj_ck_376
  | 9, _ => oj_ck_377
  | 10, _ => oj_ck_378
  | 11, _ => oj_ck_379
  | 12, _ => oj_ck_380
  | 13, _ => oj_ck_381
  | 14, _ => oj_ck_382
  | 15, _ => oj_ck_383
  | k + 16, h => absurd h (by omega)
theorem oj_cg_24 : ∀ k, k < 16 → (List.range 16).all (fun j => oj_chkK (16 * (16 * 24 + k) + j)) = true := fun k hk => match k, hk with
  | 0, _ => oj_ck_384
  | 1, _ => oj_ck_385
  | 2, _ => oj_ck_386
  | 3, _ => oj_ck_387
  | 4, _ => oj_ck_388
  | 5, _ => oj_ck_389
  | 6, _ => oj_ck_390
  | 7, _ => oj_ck_391
  | 8, _ => oj_ck_392
  | 9, _ => oj_ck_393
  | 10, _ => oj_ck_394
  | 11, _ => oj_ck_395
  | 12, _ => oj_ck_396
  | 13, _ => oj_ck_397
  | 14, _ => oj_ck_398
  | 15, _ => oj_ck_399
  | k + 16, h => absurd h (by omega)
theorem oj_cg_25 : ∀ k, k < 16 → (List.range 16).all (fun j => oj_chkK (16 * (16 * 25 + k) + j)) = true := fun k hk => match k, hk with
  | 0, _ => oj_ck_400
  | 1, _ => oj_ck_401
  | 2, _ => oj_ck_402
  | 3, _ => oj_ck_403
  | 4, _ => oj_ck_404
  | 5, _ => oj_ck_405
  | 6, _ => oj_ck_406
  | 7, _ => oj_ck_407
  | 8, _ => oj_ck_408
  | 9, _ => oj_ck_409
  | 10, _ => oj_ck_410
  | 11, _ => oj_ck_411
  | 12, _ => oj_ck_412
  | 13, _ => oj_ck_413
  | 14, _ => oj_ck_414
  | 15, _ => oj_ck_415
  | k + 16, h => absurd h (by omega)
theorem oj_cg_26 : ∀ k, k < 16 → (List.range 16).all (fun j => oj_chkK (16 * (16 * 26 + k) + j)) = true := fun k hk => match k, hk with
  | 0, _ => oj_ck_416
  | 1, _ => oj_ck_417
  | 2, _ => oj_ck_418
  | 3, _ => oj_ck_419
  | 4, _ => oj_ck_420
  | 5, _ => oj_ck_421
  | 6, _ => oj_ck_422
  | 7, _ => oj_ck_423
  | 8, _ => oj_ck_424
  | 9, _ => oj_ck_425
  | 10, _ => oj_ck_426
  | 11, _ => oj_ck_427
  | 12, _ => oj_ck_428
  | 13, _ => oj_ck_429
  | 14, _ => oj_ck_430
  | 15, _ => oj_ck_431
  | k + 16, h => absurd h (by omega)
theorem oj_cg_27 : ∀ k, k < 16 → (List.range 16).all (fun j => oj_chkK (16 * (16 * 27 + k) + j)) = true := fun k hk => match k, hk with
  | 0, _ => oj_ck_432
  | 1, _ => oj_ck_433
  | 2, _ => oj_ck_434
  | 3, _ => oj_ck_435
  | 4, _ => oj_ck_436
  | 5, _ => oj_ck_437
  | 6, _ => oj_ck_438
  | 7, _ => oj_ck_439
  | 8, _ => oj_ck_440
  | 9, _ => oj_ck_441
  | 10, _ => oj_ck_442
  | 11, _ => oj_ck_443
  | 12, _ => oj_ck_444
  | 13, _ => oj_ck_445
  | 14, _ => oj_ck_446
  | 15, _ => oj_ck_447
  | k + 16, h => absurd h (by omega)
theorem oj_cg_28 : ∀ k, k < 16 → (List.range 16).all (fun j => oj_chkK (16 * (16 * 28 + k) + j)) = true := fun k hk => match k, hk with
  | 0, _ => oj_ck_448
  | 1, _ => oj_ck_449
  | 2, _ => oj_ck_450
  | 3, _ => oj_ck_451
  | 4, _ => oj_ck_452
  | 5, _ => oj_ck_453
  | 6, _ => oj_ck_454
  | 7, _ => oj_ck_455
  | 8, _ => oj_ck_456
  | 9, _ => oj_ck_457
  | 10, _ => oj_ck_458
  | 11, _ => oj_ck_459
  | 12, _ => oj_ck_460
  | 13, _ => oj_ck_461
  | 14, _ => oj_ck_462
  | 15, _ => oj_ck_463
  | k + 16, h => absurd h (by omega)
theorem oj_cg_29 : ∀ k, k < 16 → (List.range 16).all (fun j => oj_chkK (16 * (16 * 29 + k) + j)) = true := fun k hk => match k, hk with
  | 0, _ => oj_ck_464
  | 1, _ => oj_ck_465
  | 2, _ => oj_ck_466
  | 3, _ => oj_ck_467
  | 4, _ => oj_ck_468
  | 5, _ => oj_ck_469
  | 6, _ => oj_ck_470
  | 7, _ => oj_ck_471
  | 8, _ => oj_ck_472
  | 9, _ => oj_ck_473
  | 10, _ => oj_ck_474
  | 11, _ => oj_ck_475
  | 12, _ => oj_ck_476
  | 13, _ => oj_ck_477
  | 14, _ => oj_ck_478
  | 15, _ => oj_ck_479
  | k + 16, h => absurd h (by omega)
theorem oj_cg_30 : ∀ k, k < 16 → (List.range 16).all (fun j => oj_chkK (16 * (16 * 30 + k) + j)) = true := fun k hk => match k, hk with
  | 0, _ => oj_ck_480
  | 1, _ => oj_ck_481
  | 2, _ => oj_ck_482
  | 3, _ => oj_ck_483
  | 4, _ => oj_ck_484
  | 5, _ => oj_ck_485
  | 6, _ => oj_ck_486
  | 7, _ => oj_ck_487
  | 8, _ => oj_ck_488
  | 9, _ => oj_ck_489
  | 10, _ => oj_ck_490
  | 11, _ => oj_ck_491
  | 12, _ => oj_ck_492
  | 13, _ => oj_ck_493
  | 14, _ => oj_ck_494
  | 15, _ => oj_ck_495
  | k + 16, h => absurd h (by omega)
theorem oj_cg_31 : ∀ k, k < 16 → (List.range 16).all (fun j => oj_chkK (16 * (16 * 31 + k) + j)) = true := fun k hk => match k, hk with
  | 0, _ => oj_ck_496
  | 1, _ => oj_ck_497
  | 2, _ => oj_ck_498
  | 3, _ => oj_ck_499
  | 4, _ => oj_ck_500
  | 5, _ => oj_ck_501
  | 6, _ => oj_ck_502
  | 7, _ => oj_ck_503
  | 8, _ => oj_ck_504
  | 9, _ => oj_ck_505
  | 10, _ => oj_ck_506
  | 11, _ => oj_ck_507
  | 12, _ => oj_ck_508
  | 13, _ => oj_ck_509
  | 14, _ => oj_ck_510
  | 15, _ => oj_ck_511
  | k + 16, h => absurd h (by omega)
theorem oj_ch_all : ∀ g, g < 32 → ∀ k, k < 16 → (List.range 16).all (fun j => oj_chkK (16 * (16 * g + k) + j)) = true := fun g hg => match g, hg with
  | 0, _ => oj_cg_0
  | 1, _ => oj_cg_1
  | 2, _ => oj_cg_2
  | 3, _ => oj_cg_3
  | 4, _ => oj_cg_4
  | 5, _ => oj_cg_5
  | 6, _ => oj_cg_6
  | 7, _ => oj_cg_7
  | 8, _ => oj_cg_8
  | 9, _ => oj_cg_9
  | 10, _ => oj_cg_10
  | 11, _ => oj_cg_11
  | 12, _ => oj_cg_12
  | 13, _ => oj_cg_13
  | 14, _ => oj_cg_14
  | 15, _ => oj_cg_15
  | 16, _ => oj_cg_16
  | 17, _ => oj_cg_17
  | 18, _ => oj_cg_18
  | 19, _ => oj_cg_19
  | 20, _ => oj_cg_20
  | 21, _ => oj_cg_21
  | 22, _ => oj_cg_22
  | 23, _ => oj_cg_23
  | 24, _ => oj_cg_24
  | 25, _ => oj_cg_25
  | 26, _ => oj_cg_26
  | 27, _ => oj_cg_27
  | 28, _ => oj_cg_28
  | 29, _ => oj_cg_29
  | 30, _ => oj_cg_30
  | 31, _ => oj_cg_31
  | k + 32, h => absurd h (by omega)
theorem oj_ck_all (k : Nat) (hk : k < 512) : (List.range 16).all (fun j => oj_chkK (16 * k + j)) = true := by
  have h := oj_ch_all (k / 16) (by omega) (k % 16) (by omega)
  rw [show 16 * (k / 16) + k % 16 = k by omega] at h
  exact h
theorem oj_cl_chk {key : Nat} {q : Nat × MI} (h : oj_cl key = some q) : ∃ ix na, oj_na key = some na ∧ oj_chkC key q ix na = true := by
  unfold oj_cl at h
  cases hb : Nat.ble 8192 key with
  | true => rw [hb] at h; cases h
  | false =>
    rw [hb] at h
    have hlt : key < 8192 := by
      rcases Nat.lt_or_ge key 8192 with q | q
      · exact q
      · rw [Nat.ble_eq_true_of_le q] at hb; cases hb
    have h1 := List.all_eq_true.mp (oj_ck_all (key / 16) (by omega)) (key % 16) (List.mem_range.mpr (by omega))
    rw [show 16 * (key / 16) + key % 16 = key by omega] at h1
    have h' : oj_ctab key = some q := h
    unfold oj_chkK at h1
    rw [h'] at h1
    cases hx : oj_cix key with
    | none => simp [hx] at h1
    | some ix =>
      cases hn : oj_na key with
      | none => simp [hx, hn] at h1
      | some na =>
        simp only [hx, hn] at h1
        exact ⟨ix, na, rfl, h1⟩
