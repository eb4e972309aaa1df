set_option maxRecDepth 100000 in
theorem oj_ck_440 : (List.range 16).all (fun j => oj_chkK (16 * 440 + j)) = true := by decide +kernel
set_option maxRecDepth 100000 in
theorem oj_ck_441 : (List.range 16).all (fun j => oj_chkK (16 * 441 + j)) = true := by decide +kernel
set_option maxRecDepth 100000 in
theorem oj_ck_442 : (List.range 16).all (fun j => oj_chkK (16 * 442 + j)) = true := by decide +kernel
set_option maxRecDepth 100000 in
theorem oj_ck_443 : (List.range 16).all (fun j => oj_chkK (16 * 443 + j)) = true := by decide +kernel
set_option maxRecDepth 100000 in
theorem oj_ck_444 : (List.range 16).all (fun j => oj_chkK (16 * 444 + j)) = true := by decide +kernel
set_option maxRecDepth 100000 in
theorem oj_ck_445 : (List.range 16).all (fun j => oj_chkK (16 * 445 + j)) = true := by decide +kernel
set_option maxRecDepth 100000 in
theorem oj_ck_446 : (List.range 16).all (fun j => oj_chkK (16 * 446 + j)) = true := by decide +kernel
set_option maxRecDepth 100000 in
theorem oj_ck_447 : (List.range 16).all (fun j => oj_chkK (16 * 447 + j)) = true := by decide +kernel
set_option maxRecDepth 100000 in
theorem oj_ck_448 : (List.range 16).all (fun j => oj_chkK (16 * 448 + j)) = true := by decide +kernel
set_option maxRecDepth 100000 in
theorem oj_ck_449 : (List.range 16).all (fun j => oj_chkK (16 * 449 + j)) = true := by decide +kernel
set_option maxRecDepth 100000 in
theorem oj_ck_450 : (List.range 16).all (fun j => oj_chkK (16 * 450 + j)) = true := by decide +kernel
set_option maxRecDepth 100000 in
theorem oj_ck_451 : (List.range 16).all (fun j => oj_chkK (16 * 451 + j)) = true := by decide +kernel
set_option maxRecDepth 100000 in
theorem oj_ck_452 : (List.range 16).all (fun j => oj_chkK (16 * 452 + j)) = true := by decide +kernel
set_option maxRecDepth 100000 in
theorem oj_ck_453 : (List.range 16).all (fun j => oj_chkK (16 * 453 + j)) = true := by decide +kernel
set_option maxRecDepth 100000 in
theorem oj_ck_454 : (List.range 16).all (fun j => oj_chkK (16 * 454 + j)) = true := by decide +kernel
set_option maxRecDepth 100000 in
theorem oj_ck_455 : (List.range 16).all (fun j => oj_chkK (16 * 455 + j)) = true := by decide +kernel
set_option maxRecDepth 100000 in
theorem oj_ck_456 : (List.range 16).all (fun j => oj_chkK (16 * 456 + j)) = true := by decide +kernel
set_option maxRecDepth 100000 in
theorem oj_ck_457 : (List.range 16).all (fun j => oj_chkK (16 * 457 + j)) = true := by decide +kernel
set_option maxRecDepth 100000 in
theorem oj_ck_458 : (List.range 16).all (fun j => oj_chkK (16 * 458 + j)) = true := by decide +kernel
set_option maxRecDepth 100000 in
theorem oj_ck_459 : (List.range 16).all (fun j => oj_chkK (16 * 459 + j)) = true := by decide +kernel
set_option maxRecDepth 100000 in
theorem oj_ck_460 : (List.range 16).all (fun j => oj_chkK (16 * 460 + j)) = true := by decide +kernel
set_option maxRecDepth 100000 in
theorem oj_ck_461 : (List.range 16).all (fun j => oj_chkK (16 * 461 + j)) = true := by decide +kernel
set_option maxRecDepth 100000 in
theorem oj_ck_462 : (List.range 16).all (fun j => oj_chkK (16 * 462 + j)) = true := by decide +kernel
set_option maxRecDepth 100000 in
theorem oj_ck_463 : (List.range 16).all (fun j => oj_chkK (16 * 463 + j)) = true := by decide +kernel
set_option maxRecDepth 100000 in
theorem oj_ck_464 : (List.range 16).all (fun j => oj_chkK (16 * 464 + j)) = true := by decide +kernel
set_option maxRecDepth 100000 in
theorem oj_ck_465 : (List.range 16).all (fun j => oj_chkK (16 * 465 + j)) = true := by decide +kernel
set_option maxRecDepth 100000 in
theorem oj_ck_466 : (List.range 16).all (fun j => oj_chkK (16 * 466 + j)) = true := by decide +kernel
set_option maxRecDepth 100000 in
theorem oj_ck_467 : (List.range 16).all (fun j => oj_chkK (16 * 467 + j)) = true := by decide +kernel
set_option maxRecDepth 100000 in
theorem oj_ck_468 : (List.range 16).all (fun j => oj_chkK (16 * 468 + j)) = true := by decide +kernel
set_option maxRecDepth 100000 in
theorem oj_ck_469 : (List.range 16).all (fun j => oj_chkK (16 * 469 + j)) = true := by decide +kernel
set_option maxRecDepth 100000 in
theorem oj_ck_470 : (List.range 16).all (fun j => oj_chkK (16 * 470 + j)) = true := by decide +kernel
set_option maxRecDepth 100000 in
theorem oj_ck_471 : (List.range 16).all (fun j => oj_chkK (16 * 471 + j)) = true := by decide +kernel
set_option maxRecDepth 100000 in
theorem oj_ck_472 : (List.range 16).all (fun j => oj_chkK (16 * 472 + j)) = true := by decide +kernel
set_option maxRecDepth 100000 in
theorem oj_ck_473 : (List.range 16).all (fun j => oj_chkK (16 * 473 + j)) = true := by decide +kernel
set_option maxRecDepth 100000 in
theorem oj_ck_474 : (List.range 16).all (fun j => oj_chkK (16 * 474 + j)) = true := by decide +kernel
set_option maxRecDepth 100000 in
theorem oj_ck_475 : (List.range 16).all (fun j => oj_chkK (16 * 475 + j)) = true := by decide +kernel
set_option maxRecDepth 100000 in
theorem oj_ck_476 : (List.range 16).all (fun j => oj_chkK (16 * 476 + j)) = true := by decide +kernel
set_option maxRecDepth 100000 in
theorem oj_ck_477 : (List.range 16).all (fun j => oj_chkK (16 * 477 + j)) = true := by decide +kernel
set_option maxRecDepth 100000 in
theorem oj_ck_478 : (List.range 16).all (fun j => oj_chkK (16 * 478 + j)) = true := by decide +kernel
set_option maxRecDepth 100000 in
theorem oj_ck_479 : (List.range 16).all (fun j => oj_chkK (16 * 479 + j)) = true := by decide +kernel
set_option maxRecDepth 100000 in
theorem oj_ck_480 : (List.range 16).all (fun j => oj_chkK (16 * 480 + j)) = true := by decide +kernel
set_option maxRecDepth 100000 in
theorem oj_ck_481 : (List.range 16).all (fun j => oj_chkK (16 * 481 + j)) = true := by decide +kernel
set_option maxRecDepth 100000 in
theorem oj_ck_482 : (List.range 16).all (fun j => oj_chkK (16 * 482 + j)) = true := by decide +kernel
set_option maxRecDepth 100000 in
theorem oj_ck_483 : (List.range 16).all (fun j => oj_chkK (16 * 483 + j)) = true := by decide +kernel
set_option maxRecDepth 100000 in
theorem oj_ck_484 : (List.range 16).all (fun j => oj_chkK (16 * 484 + j)) = true := by decide +kernel
set_option maxRecDepth 100000 in
theorem oj_ck_485 : (List.range 16).all (fun j => oj_chkK (16 * 485 + j)) = true := by decide +kernel
set_option maxRecDepth 100000 in
theorem oj_ck_486 : (List.range 16).all (fun j => oj_chkK (16 * 486 + j)) = true := by decide +kernel
set_option maxRecDepth 100000 in
theorem oj_ck_487 : (List.range 16).all (fun j => oj_chkK (16 * 487 + j)) = true := by decide +kernel
set_option maxRecDepth 100000 in
theorem oj_ck_488 : (List.range 16).all (fun j => oj_chkK (16 * 488 + j)) = true := by decide +kernel
set_option maxRecDepth 100000 in
theorem oj_ck_489 : (List.range 16).all (fun j => oj_chkK (16 * 489 + j)) = true := by decide +kernel
set_option maxRecDepth 100000 in
theorem oj_ck_490 : (List.range 16).all (fun j => oj_chkK (16 * 490 + j)) = true := by decide +kernel
set_option maxRecDepth 100000 in
theorem oj_ck_491 : (List.range 16).all (fun j => oj_chkK (16 * 491 + j)) = true := by decide +kernel
set_option maxRecDepth 100000 in
theorem oj_ck_492 : (List.range 16).all (fun j => oj_chkK (16 * 492 + j)) = true := by decide +kernel
set_option maxRecDepth 100000 in
theorem oj_ck_493 : (List.range 16).all (fun j => oj_chkK (16 * 493 + j)) = true := by decide +kernel
set_option maxRecDepth 100000 in
theorem oj_ck_494 : (List.range 16).all (fun j => oj_chkK (16 * 494 + j)) = true := by decide +kernel
set_option maxRecDepth 100000 in
theorem oj_ck_495 : (List.range 16).all (fun j => oj_chkK (16 * 495 + j)) = true := by decide +kernel
set_option maxRecDepth 100000 in
theorem oj_ck_496 : (List.range 16).all (fun j => oj_chkK (16 * 496 + j)) = true := by decide +kernel
set_option maxRecDepth 100000 in
theorem oj_ck_497 : (List.range 16).all (fun j => oj_chkK (16 * 497 + j)) = true := by decide +kernel
set_option maxRecDepth 100000 in
theorem oj_ck_498 : (List.range 16).all (fun j => oj_chkK (16 * 498 + j)) = true := by decide +kernel
set_option maxRecDepth 100000 in
theorem oj_ck_499 : (List.range 16).all (fun j => oj_chkK (16 * 499 + j)) = true := by decide +kernel
set_option maxRecDepth 100000 in
theorem oj_ck_500 : (List.range 16).all (fun j => oj_chkK (16 * 500 + j)) = true := by decide +kernel
set_option maxRecDepth 100000 in
theorem oj_ck_501 : (List.range 16).all (fun j => oj_chkK (16 * 501 + j)) = true := by decide +kernel
set_option maxRecDepth 100000 in
theorem oj_ck_502 : (List.range 16).all (fun j => oj_chkK (16 * 502 + j)) = true := by decide +kernel
set_option maxRecDepth 100000 in
theorem oj_ck_503 : (List.range 16).all (fun j => oj_chkK (16 * 503 + j)) = true := by decide +kernel
set_option maxRecDepth 100000 in
theorem oj_ck_504 : (List.range 16).all (fun j => oj_chkK (16 * 504 + j)) = true := by decide +kernel
set_option maxRecDepth 100000 in
theorem oj_ck_505 : (List.range 16).all (fun j => oj_chkK (16 * 505 + j)) = true := by decide +kernel
set_option maxRecDepth 100000 in
theorem oj_ck_506 : (List.range 16).all (fun j => oj_chkK (16 * 506 + j)) = true := by decide +kernel
set_option maxRecDepth 100000 in
theorem oj_ck_507 : (List.range 16).all (fun j => oj_chkK (16 * 507 + j)) = true := by decide +kernel
set_option maxRecDepth 100000 in
theorem oj_ck_508 : (List.range 16).all (fun j => oj_chkK (16 * 508 + j)) = true := by decide +kernel
set_option maxRecDepth 100000 in
theorem oj_ck_509 : (List.range 16).all (fun j => oj_chkK (16 * 509 + j)) = true := by decide +kernel
set_option maxRecDepth 100000 in
theorem oj_ck_510 : (List.range 16).all (fun j => oj_chkK (16 * 510 + j)) = true := by decide +kernel
set_option maxRecDepth 100000 in
theorem oj_ck_511 : (List.range 16).all (fun j => oj_chkK (16 * 511 + j)) = true := by decide +kernel
theorem oj_ck_all : ∀ k, k < 512 → (List.range 16).all (fun j => oj_chkK (16 * k + j)) = true := fun k hk => match k, hk with
  | 0, _ => oj_ck_0
  | 1, _ => oj_ck_1
  | 2, _ => oj_ck_2
  | 3, _ => oj_ck_3
  | 4, _ => oj_ck_4
  | 5, _ => oj_ck_5
  | 6, _ => oj_ck_6
  | 7, _ => oj_ck_7
  | 8, _ => oj_ck_8
  | 9, _ => oj_ck_9
  | 10, _ => oj_ck_10
  | 11, _ => oj_ck_11
  | 12, _ => oj_ck_12
  | 13, _ => oj_ck_13
  | 14, _ => oj_ck_14
  | 15, _ => oj_ck_15
  | 16, _ => oj_ck_16
  | 17, _ => oj_ck_17
  | 18, _ => oj_ck_18
  | 19, _ => oj_ck_19
  | 20, _ => oj_ck_20
  | 21, _ => oj_ck_21
  | 22, _ => oj_ck_22
  | 23, _ => oj_ck_23
  | 24, _ => oj_ck_24
  | 25, _ => oj_ck_25
  | 26, _ => oj_ck_26
  | 27, _ => oj_ck_27
  | 28, _ => oj_ck_28
  | 29, _ => oj_ck_29
  | 30, _ => oj_ck_30
  | 31, _ => oj_ck_31
  | 32, _ => oj_ck_32
  | 33, _ => oj_ck_33
  | 34, _ => oj_ck_34
  | 35, _ => oj_ck_35
  | 36, _ => oj_ck_36
  | 37, _ => oj_ck_37
  | 38, _ => oj_ck_38
  | 39, _ => oj_ck_39
  | 40, _ => oj_ck_40
  | 41, _ => oj_ck_41
  | 42, _ => oj_ck_42
  | 43, _ => oj_ck_43
  | 44, _ => oj_ck_44
  | 45, _ => oj_ck_45
  | 46, _ => oj_ck_46
  | 47, _ => oj_ck_47
  | 48, _ => oj_ck_48
  | 49, _ => oj_ck_49
  | 50, _ => oj_ck_50
  | 51, _ => oj_ck_51
  | 52, _ => oj_ck_52
  | 53, _ => oj_ck_53
  | 54, _ => oj_ck_54
  | 55, _ => oj_ck_55
  | 56, _ => oj_ck_56
  | 57, _ => oj_ck_57
  | 58, _ => oj_ck_58
  | 59, _ => oj_ck_59
  | 60, _ => oj_ck_60
  | 61, _ => oj_ck_61
  | 62, _ => oj_ck_62
  | 63, _ => oj_ck_63
  | 64, _ => oj_ck_64
  | 65, _ => oj_ck_65
  | 66, _ => oj_ck_66
  | 67, _ => oj_ck_67
  | 68, _ => oj_ck_68
  | 69, _ => oj_ck_69
  | 70, _ => oj_ck_70
  | 71, _ => oj_ck_71
  | 72, _ => oj_ck_72
  | 73, _ => oj_ck_73
  | 74, _ => oj_ck_74
  | 75, _ => oj_ck_75
  | 76, _ => oj_ck_76
  | 77, _ => oj_ck_77
  | 78, _ => oj_ck_78
  | 79, _ => oj_ck_79
  | 80, _ => oj_ck_80
  | 81, _ => oj_ck_81
  | 82, _ => oj_ck_82
  | 83, _ => oj_ck_83
  | 84, _ => oj_ck_84
  | 85, _ => oj_ck_85
  | 86, _ => oj_ck_86
  | 87, _ => oj_ck_87
  | 88, _ => oj_ck_88
  | 89, _ => oj_ck_89
  | 90, _ => oj_ck_90
  | 91, _ => oj_ck_91
  | 92, _ => oj_ck_92
  | 93, _ => oj_ck_93
  | 94, _ => oj_ck_94
  | 95, _ => oj_ck_95
  | 96, _ => oj_ck_96
  | 97, _ => oj_ck_97
  | 98, _ => oj_ck_98
  | 99, _ => oj_ck_99
  | 100, _ => oj_ck_100
  | 101, _ => oj_ck_101
  | 102, _ => oj_ck_102
  | 103, _ => oj_ck_103
  | 104, _ => oj_ck_104
  | 105, _ => oj_ck_105
  | 106, _ => oj_ck_106
  | 107, _ => oj_ck_107
  | 108, _ => oj_ck_108
  | 109, _ => oj_ck_109
  | 110, _ => oj_ck_110
  | 111, _ => oj_ck_111
  | 112, _ => oj_ck_112
  | 113, _ => oj_ck_113
  | 114, _ => oj_ck_114
  | 115, _ => oj_ck_115
  | 116, _ => oj_ck_116
  | 117, _ => oj_ck_117
  | 118, _ => oj_ck_118
  | 119, _ => oj_ck_119
  | 120, _ => oj_ck_120
  | 121, _ => oj_ck_121
  | 122, _ => oj_ck_122
  | 123, _ => oj_ck_123
  | 124, _ => oj_ck_124
  | 125, _ => oj_ck_125
  | 126, _ => oj_ck_126
  | 127, _ => oj_ck_127
  | 128, _ => oj_ck_128
  | 129, _ => oj_ck_129
  | 130, _ => oj_ck_130
  | 131, _ => oj_ck_131
  | 132, _ => oj_ck_132
  | 133, _ => oj_ck_133
  | 134, _ => oj_ck_134
  | 135, _ => oj_ck_135
  | 136, _ => oj_ck_136
  | 137, _ => oj_ck_137
  | 138, _ => oj_ck_138
  | 139, _ => oj_ck_139
  | 140, _ => oj_ck_140
  | 141, _ => oj_ck_141
  | 142, _ => oj_ck_142
  | 143, _ => oj_ck_143
  | 144, _ => oj_ck_144
  | 145, _ => oj_ck_145
  | 146, _ => oj_ck_146
  | 147, _ => oj_ck_147
  | 148, _ => oj_ck_148
  | 149, _ => oj_ck_149
  | 150, _ => oj_ck_150
  | 151, _ => oj_ck_151
  | 152, _ => oj_ck_152
  | 153, _ => oj_ck_153
  | 154, _ => oj_ck_154
  | 155, _ => oj_ck_155
  | 156, _ => oj_ck_156
  | 157, _ => oj_ck_157
  | 158, _ => oj_ck_158
  | 159, _ => oj_ck_159
  | 160, _ => oj_ck_160
  | 161, _ => oj_ck_161
  | 162, _ => oj_ck_162
  | 163, _ => oj_ck_163
  | 164, _ => oj_ck_164
  | 165, _ => oj_ck_165
  | 166, _ => oj_ck_166
  | 167, _ => oj_ck_167
  | 168, _ => oj_ck_168
  | 169, _ => oj_ck_169
  | 170, _ => oj_ck_170
  | 171, _ => oj_ck_171
  | 172, _ => oj_ck_172
  | 173, _ => oj_ck_173
  | 174, _ => oj_ck_174
  | 175, _ => oj_ck_175
  | 176, _ => oj_ck_176
  | 177, _ => oj_ck_177
  | 178, _ => oj_ck_178
  | 179, _ => oj_ck_179
  | 180, _ => oj_ck_180
  | 181, _ => oj_ck_181
  | 182, _ => oj_ck_182
  | 183, _ => oj_ck_183
  | 184, _ => oj_ck_184
  | 185, _ => oj_ck_185
  | 186, _ => oj_ck_186
  | 187, _ => oj_ck_187
  | 188, _ => oj_ck_188
  | 189, _ => oj_ck_189
  | 190, _ => oj_ck_190
  | 191, _ => oj_ck_191
  | 192, _ => oj_ck_192
  | 193, _ => oj_ck_193
  | 194, _ => oj_ck_194
  | 195, _ => oj_ck_195
  | 196, _ => oj_ck_196
  | 197, _ => oj_ck_197
  | 198, _ => oj_ck_198
  | 199, _ => oj_ck_199
  | 200, _ => oj_ck_200
  | 201, _ => oj_ck_201
  | 202, _ => oj_ck_202
  | 203, _ => oj_ck_203
  | 204, _ => oj_ck_204
  | 205, _ => oj_ck_205
  | 206, _ => oj_ck_206
  | 207, _ => oj_ck_207
  | 208, _ => oj_ck_208
  | 209, _ => oj_ck_209
  | 210, _ => oj_ck_210
  | 211, _ => oj_ck_211
  | 212, _ => oj_ck_212
  | 213, _ => oj_ck_213
  | 214, _ => oj_ck_214
  | 215, _ => oj_ck_215
  | 216, _ => oj_ck_216
  | 217, _ => oj_ck_217
  | 218, _ => oj_ck_218
  | 219, _ => oj_ck_219
  | 220, _ => oj_ck_220
  | 221, _ => oj_ck_221
  | 222, _ => oj_ck_222
  | 223, _ => oj_ck_223
  | 224, _ => oj_ck_224
  | 225, _ => oj_ck_225
  | 226, _ => oj_ck_226
  | 227, _ => oj_ck_227
  | 228, _ => oj_ck_228
  | 229, _ => oj_ck_229
  | 230, _ => oj_ck_230
  | 231, _ => oj_ck_231
  | 232, _ => oj_ck_232
  | 233, _ => oj_ck_233
  | 234, _ => oj_ck_234
  | 235, _ => oj_ck_235
  | 236, _ => oj_ck_236
  | 237, _ => oj_ck_237
  | 238, _ => oj_ck_238
  | 239, _ => oj_ck_239
  | 240, _ => oj_ck_240
  | 241, _ => oj_ck_241
  | 242, _ => oj_ck_242
  | 243, _ => oj_ck_243
  | 244, _ => oj_ck_244
  | 245, _ => oj_ck_245
  | 246, _ => oj_ck_246
  | 247, _ => oj_ck_247
  | 248, _ => oj_ck_248
  | 249, _ => oj_ck_249
  | 250, _ => oj_ck_250
  | 251, _ => oj_ck_251
  | 252, _ => oj_ck_252
  | 253, _ => oj_ck_253
  | 254, _ => oj_ck_254
  | 255, _ => oj_ck_255
  | 256, _ => oj_ck_256
  | 257, _ => oj_ck_257
  | 258, _ => oj_ck_258
  | 259, _ => oj_ck_259
  | 260, _ => oj_ck_260
  | 261, _ => oj_ck_261
  | 262, _ => oj_ck_262
  | 263, _ => oj_ck_263
  | 264, _ => oj_ck_264
  | 265, _ => oj_ck_265
  | 266, _ => oj_ck_266
  | 267, _ => oj_ck_267
  | 268, _ => oj_ck_268
  | 269, _ => oj_ck_269
  | 270, _ => oj_ck_270
  | 271, _ => oj_ck_271
  | 272, _ => oj_ck_272
  | 273, _ => oj_ck_273
  | 274, _ => oj_ck_274
  | 275, _ => oj_ck_275
  | 276, _ => oj_ck_276
  | 277, _ => oj_ck_277
  | 278, _ => oj_ck_278
  | 279, _ => oj_ck_279
  | 280, _ => oj_ck_280
  | 281, _ => oj_ck_281
  | 282, _ => oj_ck_282
  | 283, _ => oj_ck_283
  | 284, _ => oj_ck_284
  | 285, _ => oj_ck_285
  | 286, _ => oj_ck_286
  | 287, _ => oj_ck_287
  | 288, _ => oj_ck_288
  | 289, _ => oj_ck_289
  | 290, _ => oj_ck_290
  | 291, _ => oj_ck_291
  | 292, _ => oj_ck_292
  | 293, _ => oj_ck_293
  | 294, _ => oj_ck_294
  | 295, _ => oj_ck_295
  | 296, _ => oj_ck_296
  | 297, _ => oj_ck_297
  | 298, _ => oj_ck_298
  | 299, _ => oj_ck_299
  | 300, _ => oj_ck_300
  | 301, _ => oj_ck_301
  | 302, _ => oj_ck_302
  | 303, _ => oj_ck_303
  | 304, _ => oj_ck_304
  | 305, _ => oj_ck_305
  | 306, _ => oj_ck_306
  | 307, _ => oj_ck_307
  | 308, _ => oj_ck_308
  | 309, _ => oj_ck_309
  | 310, _ => oj_ck_310
  | 311, _ => oj_ck_311
  | 312, _ => oj_ck_312
  | 313, _ => oj_ck_313
  | 314, _ => oj_ck_314
  | 315, _ => oj_ck_315
  | 316, _ => oj_ck_316
  | 317, _ => oj_ck_317
  | 318, _ => oj_ck_318
  | 319, _ => oj_ck_319
  | 320, _ => oj_ck_320
  | 321, _ => oj_ck_321
  | 322, _ => oj_ck_322
  | 323, _ => oj_ck_323
  | 324, _ => oj_ck_324
  | 325, _ => oj_ck_325
  | 326, _ => oj_ck_326
  | 327, _ => oj_ck_327
  | 328, _ => oj_ck_328
  | 329, _ => oj_ck_329
  | 330, _ => oj_ck_330
  | 331, _ => oj_ck_331
  | 332, _ => oj_ck_332
  | 333, _ => oj_ck_333
  | 334, _ => oj_ck_334
  | 335, _ => oj_ck_335
  | 336, _ => oj_ck_336
  | 337, _ => oj_ck_337
  | 338, _ => oj_ck_338
  | 339, _ => oj_ck_339
  | 340, _ => oj_ck_340
  | 341, _ => oj_ck_341
  | 342, _ => oj_ck_342
  | 343, _ => oj_ck_343
  | 344, _ => oj_ck_344
  | 345, _ => oj_ck_345
  | 346, _ => oj_ck_346
  | 347, _ => oj_ck_347
  | 348, _ => oj_ck_348
  | 349, _ => oj_ck_349
  | 350, _ => oj_ck_350
  | 351, _ => oj_ck_351
  | 352, _ => oj_ck_352
  | 353, _ => oj_ck_353
  | 354, _ => oj_ck_354
  | 355, _ => oj_ck_355
  | 356, _ => oj_ck_356
  | 357, _ => oj_ck_357
  | 358, _ => oj_ck_358
  | 359, _ => oj_ck_359
  | 360, _ => oj_ck_360
  | 361, _ => oj_ck_361
  | 362, _ => oj_ck_362
  | 363, _ => oj_ck_363
  | 364, _ => oj_ck_364
  | 365, _ => oj_ck_365
  | 366, _ => oj_ck_366
  | 367, _ => oj_ck_367
  | 368, _ => oj_ck_368
  | 369, _ => oj_ck_369
  | 370, _ => oj_ck_370
  | 371, _ => oj_ck_371
  | 372, _ => oj_ck_372
  | 373, _ => oj_ck_373
  | 374, _ => oj_ck_374
  | 375, _ => oj_ck_375
  | 376, _ => oj_ck_376
  | 377, _ => oj_ck_377
  | 378, _ => oj_ck_378
  | 379, _ => oj_ck_379
  | 380, _ => oj_ck_380
  | 381, _ => oj_ck_381
  | 382, _ => oj_ck_382
  | 383, _ => oj_ck_383
  | 384, _ => oj_ck_384
  | 385, _ => oj_ck_385
  | 386, _ => oj_ck_386
  | 387, _ => oj_ck_387
  | 388, _ => oj_ck_388
  | 389, _ => oj_ck_389
  | 390, _ => oj_ck_390
  | 391, _ => oj_ck_391
  | 392, _ => oj_ck_392
  | 393, _ => oj_ck_393
  | 394, _ => oj_ck_394
  | 395, _ => oj_ck_395
  | 396, _ => oj_ck_396
  | 397, _ => oj_ck_397
  | 398, _ => oj_ck_398
  | 399, _ => oj_ck_399
  | 400, _ => oj_ck_400
  | 401, _ => oj_ck_401
  | 402, _ => oj_ck_402
  | 403, _ => oj_ck_403
  | 404, _ => oj_ck_404
  | 405, _ => oj_ck_405
  | 406, _ => oj_ck_406
  | 407, _ => oj_ck_407
  | 408, _ => oj_ck_408
  | 409, _ => oj_ck_409
  | 410, _ => oj_ck_410
  | 411, _ => oj_ck_411
  | 412, _ => oj_ck_412
  | 413, _ => oj_ck_413
  | 414, _ => oj_ck_414
  | 415, _ => oj_ck_415
  | 416, _ => oj_ck_416
  | 417, _ => oj_ck_417
  | 418, _ => oj_ck_418
  | 419, _ => oj_ck_419
  | 420, _ => oj_ck_420
  | 421, _ => oj_ck_421
  | 422, _ => oj_ck_422
  | 423, _ => oj_ck_423
  | 424, _ => oj_ck_424
  | 425, _ => oj_ck_425
  | 426, _ => oj_ck_426
  | 427, _ => oj_ck_427
  | 428, _ => oj_ck_428
  | 429, _ => oj_ck_429
  | 430, _ => oj_ck_430
  | 431, _ => oj_ck_431
  | 432, _ => oj_ck_432
  | 433, _ => oj_ck_433
  | 434, _ => oj_ck_434
  | 435, _ => oj_ck_435
  | 436, _ => oj_ck_436
  | 437, _ => oj_ck_437
  | 438, _ => oj_ck_438
  | 439, _ => oj_ck_439
  | 440, _ => oj_ck_440
  | 441, _ => oj_ck_441
  | 442, _ => oj_ck_442
  | 443, _ => oj_ck_443
  | 444, _ => oj_ck_444
  | 445, _ => oj_ck_445
  | 446, _ => oj_ck_446
  | 447, _ => oj_ck_447
  | 448, _ => oj_ck_448
  | 449, _ => oj_ck_449
  | 450, _ => oj_ck_450
  | 451, _ => oj_ck_451
  | 452, _ => oj_ck_452
  | 453, _ => oj_ck_453
  | 454, _ => oj_ck_454
  | 455, _ => oj_ck_455
  | 456, _ => oj_ck_456
  | 457, _ => oj_ck_457
  | 458, _ => oj_ck_458
  | 459, _ => oj_ck_459
  | 460, _ => oj_ck_460
  | 461, _ => oj_ck_461
  | 462, _ => oj_ck_462
  | 463, _ => oj_ck_463
  | 464, _ => oj_ck_464
  | 465, _ => oj_ck_465
  | 466, _ => oj_ck_466
  | 467, _ => oj_ck_467
  | 468, _ => oj_ck_468
  | 469, _ => oj_ck_469
  | 470, _ => oj_ck_470
  | 471, _ => oj_ck_471
  | 472, _ => oj_ck_472
  | 473, _ => oj_ck_473
  | 474, _ => oj_ck_474
  | 475, _ => oj_ck_475
  | 476, _ => oj_ck_476
  | 477, _ => oj_ck_477
  | 478, _ => oj_ck_478
  | 479, _ => oj_ck_479
  | 480, _ => oj_ck_480
  | 481, _ => oj_ck_481
  | 482, _ => oj_ck_482
  | 483, _ => oj_ck_483
  | 484, _ => oj_ck_484
  | 485, _ => oj_ck_485
  | 486, _ => oj_ck_486
  | 487, _ => oj_ck_487
  | 488, _ => oj_ck_488
  | 489, _ => oj_ck_489
  | 490, _ => oj_ck_490
  | 491, _ => oj_ck_491
  | 492, _ => oj_ck_492
  | 493, _ => oj_ck_493
  | 494, _ => oj_ck_494
  | 495, _ => oj_ck_495
  | 496, _ => oj_ck_496
  | 497, _ => oj_ck_497
  | 498, _ => oj_ck_498
  | 499, _ => oj_ck_499
  | 500, _ => oj_ck_500
  | 501, _ => oj_ck_501
  | 502, _ => oj_ck_502
  | 503, _ => oj_ck_503
  | 504, _ => oj_ck_504
  | 505, _ => oj_ck_505
  | 506, _ => oj_ck_506
  | 507, _ => oj_ck_507
  | 508, _ => oj_ck_508
  | 509, _ => oj_ck_509
  | 510, _ => oj_ck_510
  | 511, _ => oj_ck_511
  | k + 512, h => absurd h (by omega)
theorem oj_cl_chk {key : Nat} {q : Nat × MI} (h : oj_cl key = some q) : ∃ ix na, oj_na key = some na ∧ oj_chkC key q ix na = true := by
  unfold oj_cl at h
  cases hb : Nat.ble 8192 key with
  | true => rw [hb] at h; cases h
  | false =>
    rw [hb] at h
    have hlt : key < 8192 := by
      rcases Nat.lt_or_ge key 8192 with q | q
      · exact q
      · rw [Nat.ble_eq_true_of_le q] at hb; cases hb
    have h1 := List.all_eq_true.mp (oj_ck_all (key / 16) (by omega)) (key % 16) (List.mem_range.mpr (by omega))
    rw [show 16 * (key / 16) + key % 16 = key by omega] at h1
    have h' : oj_ctab key = some q := h
    unfold oj_chkK at h1
    rw [h'] at h1
    cases hx : oj_cix key with
    | none => simp [hx] at h1
    | some ix =>
      cases hn : oj_na key with
      | none => simp [hx, hn] at h1
      | some na =>
        simp only [hx, hn] at h1
        exact ⟨ix, na, rfl, h1⟩
