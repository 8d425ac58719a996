theorem fl_0_12 : fl 0 12 = some (1, 2) := by decide +kernel
theorem fl_0_18 : fl 0 18 = some (1, 4) := by decide +kernel
theorem fl_0_22 : fl 0 22 = some (1, 0) := by decide +kernel
theorem fl_0_26 : fl 0 26 = some (1, 1) := by decide +kernel
theorem fl_0_30 : fl 0 30 = some (1, 3) := by decide +kernel
theorem fl_0_49 : fl 0 49 = some (1, 5) := by decide +kernel
theorem fl_0_53 : fl 0 53 = some (1, 6) := by decide +kernel
theorem fl_0_56 : fl 0 56 = some (1, 7) := by decide +kernel
theorem fl_0_66 : fl 0 66 = some (7, 13) := by decide +kernel
theorem fl_0_89 : fl 0 89 = some (7, 14) := by decide +kernel
theorem fl_0_92 : fl 0 92 = some (8, 1) := by decide +kernel
theorem fl_0_126 : fl 0 126 = some (7, 15) := by decide +kernel
theorem fl_1_9 : fl 1 9 = some (2, 1) := by decide +kernel
theorem fl_1_15 : fl 1 15 = some (2, 0) := by decide +kernel
theorem fl_2_9 : fl 2 9 = some (3, 0) := by decide +kernel
theorem fl_2_15 : fl 2 15 = some (7, 4) := by decide +kernel
theorem fl_2_27 : fl 2 27 = some (7, 3) := by decide +kernel
theorem fl_2_36 : fl 2 36 = some (3, 1) := by decide +kernel
theorem fl_2_39 : fl 2 39 = some (3, 2) := by decide +kernel
theorem fl_3_12 : fl 3 12 = some (4, 0) := by decide +kernel
theorem fl_3_21 : fl 3 21 = some (4, 1) := by decide +kernel
theorem fl_3_25 : fl 3 25 = some (4, 3) := by decide +kernel
theorem fl_3_29 : fl 3 29 = some (4, 9) := by decide +kernel
theorem fl_3_33 : fl 3 33 = some (4, 10) := by decide +kernel
theorem fl_3_36 : fl 3 36 = some (4, 11) := by decide +kernel
theorem fl_3_39 : fl 3 39 = some (4, 12) := by decide +kernel
theorem fl_3_42 : fl 3 42 = some (4, 13) := by decide +kernel
theorem fl_3_46 : fl 3 46 = some (4, 2) := by decide +kernel
theorem fl_3_57 : fl 3 57 = some (7, 14) := by decide +kernel
theorem fl_3_68 : fl 3 68 = some (4, 4) := by decide +kernel
theorem fl_3_71 : fl 3 71 = some (4, 5) := by decide +kernel
theorem fl_3_74 : fl 3 74 = some (4, 6) := by decide +kernel
theorem fl_3_77 : fl 3 77 = some (4, 7) := by decide +kernel
theorem fl_3_80 : fl 3 80 = some (4, 8) := by decide +kernel
theorem fl_3_95 : fl 3 95 = some (4, 16) := by decide +kernel
theorem fl_3_98 : fl 3 98 = some (4, 17) := by decide +kernel
theorem fl_3_102 : fl 3 102 = some (4, 18) := by decide +kernel
theorem fl_3_109 : fl 3 109 = some (4, 15) := by decide +kernel
theorem fl_3_112 : fl 3 112 = some (4, 14) := by decide +kernel
theorem fl_3_262 : fl 3 262 = some (6, 2) := by decide +kernel
theorem fl_3_265 : fl 3 265 = some (6, 4) := by decide +kernel
theorem fl_4_9 : fl 4 9 = some (5, 0) := by decide +kernel
theorem fl_4_15 : fl 4 15 = some (5, 1) := by decide +kernel
theorem fl_4_18 : fl 4 18 = some (5, 2) := by decide +kernel
theorem fl_4_22 : fl 4 22 = some (5, 3) := by decide +kernel
theorem fl_4_25 : fl 4 25 = some (5, 4) := by decide +kernel
theorem fl_4_43 : fl 4 43 = some (5, 5) := by decide +kernel
theorem fl_4_47 : fl 4 47 = some (5, 6) := by decide +kernel
theorem fl_4_82 : fl 4 82 = some (5, 7) := by decide +kernel
theorem fl_4_86 : fl 4 86 = some (5, 8) := by decide +kernel
theorem fl_4_89 : fl 4 89 = some (5, 9) := by decide +kernel
theorem fl_5_9 : fl 5 9 = some (6, 0) := by decide +kernel
theorem fl_5_15 : fl 5 15 = some (6, 3) := by decide +kernel
theorem fl_5_18 : fl 5 18 = some (6, 1) := by decide +kernel
theorem fl_5_22 : fl 5 22 = some (6, 2) := by decide +kernel
theorem fl_5_25 : fl 5 25 = some (6, 4) := by decide +kernel
theorem fl_6_9 : fl 6 9 = some (7, 0) := by decide +kernel
theorem fl_6_15 : fl 6 15 = some (7, 1) := by decide +kernel
theorem fl_6_18 : fl 6 18 = some (7, 3) := by decide +kernel
theorem fl_6_22 : fl 6 22 = some (7, 5) := by decide +kernel
theorem fl_6_25 : fl 6 25 = some (7, 6) := by decide +kernel
theorem fl_6_28 : fl 6 28 = some (7, 7) := by decide +kernel
theorem fl_6_31 : fl 6 31 = some (7, 8) := by decide +kernel
theorem fl_6_34 : fl 6 34 = some (7, 9) := by decide +kernel
theorem fl_6_37 : fl 6 37 = some (7, 10) := by decide +kernel
theorem fl_6_55 : fl 6 55 = some (7, 2) := by decide +kernel
theorem fl_6_59 : fl 6 59 = some (7, 4) := by decide +kernel
theorem fl_6_62 : fl 6 62 = some (7, 11) := by decide +kernel
theorem fl_6_65 : fl 6 65 = some (7, 12) := by decide +kernel
theorem fl_6_68 : fl 6 68 = some (7, 13) := by decide +kernel
theorem fl_6_71 : fl 6 71 = some (7, 14) := by decide +kernel
theorem fl_6_74 : fl 6 74 = some (7, 15) := by decide +kernel
theorem fl_7_12 : fl 7 12 = some (8, 1) := by decide +kernel
theorem fl_7_18 : fl 7 18 = some (8, 2) := by decide +kernel
theorem fl_7_22 : fl 7 22 = some (8, 3) := by decide +kernel
theorem fl_7_25 : fl 7 25 = some (8, 4) := by decide +kernel
theorem fl_7_28 : fl 7 28 = some (8, 5) := by decide +kernel
theorem fl_7_31 : fl 7 31 = some (8, 6) := by decide +kernel
theorem fl_7_34 : fl 7 34 = some (8, 8) := by decide +kernel
theorem fl_7_37 : fl 7 37 = some (8, 9) := by decide +kernel
theorem fl_7_40 : fl 7 40 = some (8, 10) := by decide +kernel
theorem fl_7_44 : fl 7 44 = some (8, 0) := by decide +kernel
theorem fl_7_48 : fl 7 48 = some (8, 12) := by decide +kernel
theorem fl_7_58 : fl 7 58 = some (8, 13) := by decide +kernel
theorem fl_7_69 : fl 7 69 = some (8, 11) := by decide +kernel
theorem fl_7_96 : fl 7 96 = some (8, 7) := by decide +kernel
theorem fl_9_9 : fl 9 9 = some (9, 0) := by decide +kernel
theorem fl_9_15 : fl 9 15 = some (9, 1) := by decide +kernel
theorem fl_9_18 : fl 9 18 = some (9, 2) := by decide +kernel
theorem fl_9_21 : fl 9 21 = some (9, 5) := by decide +kernel
theorem fl_9_24 : fl 9 24 = some (9, 6) := by decide +kernel
theorem fl_9_27 : fl 9 27 = some (9, 3) := by decide +kernel
theorem fl_9_31 : fl 9 31 = some (9, 4) := by decide +kernel
theorem fl_11_9 : fl 11 9 = some (10, 0) := by decide +kernel
theorem fl_11_16 : fl 11 16 = some (10, 2) := by decide +kernel
theorem fl_11_25 : fl 11 25 = some (10, 3) := by decide +kernel
theorem fl_11_32 : fl 11 32 = some (10, 6) := by decide +kernel
theorem fl_11_36 : fl 11 36 = some (10, 7) := by decide +kernel
theorem fl_11_44 : fl 11 44 = some (10, 4) := by decide +kernel
theorem fl_11_53 : fl 11 53 = some (10, 5) := by decide +kernel
theorem fl_11_57 : fl 11 57 = some (10, 9) := by decide +kernel
theorem fl_11_61 : fl 11 61 = some (10, 10) := by decide +kernel
theorem fl_11_65 : fl 11 65 = some (10, 1) := by decide +kernel
theorem fl_11_87 : fl 11 87 = some (10, 8) := by decide +kernel
theorem fl_11_94 : fl 11 94 = some (2, 0) := by decide +kernel
theorem fl_11_97 : fl 11 97 = some (2, 1) := by decide +kernel
theorem fl_11_109 : fl 11 109 = some (4, 1) := by decide +kernel
theorem fl_11_122 : fl 11 122 = some (4, 17) := by decide +kernel
theorem fl_11_125 : fl 11 125 = some (4, 13) := by decide +kernel
theorem fl_11_135 : fl 11 135 = some (7, 15) := by decide +kernel
theorem fl_11_148 : fl 11 148 = some (4, 0) := by decide +kernel
theorem fl_11_172 : fl 11 172 = some (7, 13) := by decide +kernel
theorem fl_11_175 : fl 11 175 = some (4, 18) := by decide +kernel
theorem fl_11_178 : fl 11 178 = some (7, 12) := by decide +kernel
theorem fl_11_181 : fl 11 181 = some (6, 2) := by decide +kernel
theorem fl_11_184 : fl 11 184 = some (6, 4) := by decide +kernel
theorem fl_11_187 : fl 11 187 = some (3, 2) := by decide +kernel
theorem fl_11_190 : fl 11 190 = some (4, 8) := by decide +kernel
theorem fl_11_193 : fl 11 193 = some (4, 16) := by decide +kernel
theorem fl_12_9 : fl 12 9 = some (11, 7) := by decide +kernel
theorem fl_12_15 : fl 12 15 = some (11, 8) := by decide +kernel
theorem fl_12_18 : fl 12 18 = some (11, 9) := by decide +kernel
theorem fl_12_21 : fl 12 21 = some (11, 10) := by decide +kernel
theorem fl_12_24 : fl 12 24 = some (11, 11) := by decide +kernel
theorem fl_12_27 : fl 12 27 = some (11, 12) := by decide +kernel
theorem fl_12_30 : fl 12 30 = some (11, 13) := by decide +kernel
theorem fl_12_33 : fl 12 33 = some (11, 14) := by decide +kernel
theorem fl_12_36 : fl 12 36 = some (11, 15) := by decide +kernel
theorem fl_12_39 : fl 12 39 = some (11, 16) := by decide +kernel
theorem fl_12_42 : fl 12 42 = some (11, 17) := by decide +kernel
theorem fl_12_45 : fl 12 45 = some (11, 18) := by decide +kernel
theorem fl_12_48 : fl 12 48 = some (11, 19) := by decide +kernel
theorem fl_12_52 : fl 12 52 = some (11, 20) := by decide +kernel
theorem fl_12_55 : fl 12 55 = some (11, 21) := by decide +kernel
theorem fl_12_58 : fl 12 58 = some (11, 22) := by decide +kernel
theorem fl_12_61 : fl 12 61 = some (11, 23) := by decide +kernel
theorem fl_12_64 : fl 12 64 = some (11, 24) := by decide +kernel
theorem fl_12_67 : fl 12 67 = some (11, 25) := by decide +kernel
theorem fl_12_70 : fl 12 70 = some (11, 0) := by decide +kernel
theorem fl_12_74 : fl 12 74 = some (11, 1) := by decide +kernel
theorem fl_12_77 : fl 12 77 = some (11, 2) := by decide +kernel
theorem fl_12_80 : fl 12 80 = some (11, 3) := by decide +kernel
theorem fl_12_83 : fl 12 83 = some (11, 4) := by decide +kernel
theorem fl_12_86 : fl 12 86 = some (11, 5) := by decide +kernel
theorem fl_12_89 : fl 12 89 = some (11, 6) := by decide +kernel
theorem fl_12_92 : fl 12 92 = some (11, 26) := by decide +kernel
theorem fl_13_9 : fl 13 9 = some (12, 0) := by decide +kernel
theorem fl_13_13 : fl 13 13 = some (12, 3) := by decide +kernel
theorem fl_13_17 : fl 13 17 = some (12, 4) := by decide +kernel
theorem fl_13_20 : fl 13 20 = some (12, 6) := by decide +kernel
theorem fl_13_24 : fl 13 24 = some (12, 7) := by decide +kernel
theorem fl_13_27 : fl 13 27 = some (12, 8) := by decide +kernel
theorem fl_13_37 : fl 13 37 = some (12, 12) := by decide +kernel
theorem fl_13_43 : fl 13 43 = some (12, 17) := by decide +kernel
theorem fl_13_47 : fl 13 47 = some (12, 18) := by decide +kernel
theorem fl_13_50 : fl 13 50 = some (12, 20) := by decide +kernel
theorem fl_13_53 : fl 13 53 = some (12, 21) := by decide +kernel
theorem fl_13_56 : fl 13 56 = some (12, 22) := by decide +kernel
theorem fl_13_59 : fl 13 59 = some (12, 25) := by decide +kernel
theorem fl_13_62 : fl 13 62 = some (12, 26) := by decide +kernel
theorem fl_13_65 : fl 13 65 = some (12, 28) := by decide +kernel
theorem fl_13_69 : fl 13 69 = some (12, 29) := by decide +kernel
theorem fl_13_73 : fl 13 73 = some (12, 30) := by decide +kernel
theorem fl_13_76 : fl 13 76 = some (12, 32) := by decide +kernel
theorem fl_13_79 : fl 13 79 = some (12, 33) := by decide +kernel
theorem fl_13_83 : fl 13 83 = some (12, 34) := by decide +kernel
theorem fl_13_86 : fl 13 86 = some (12, 35) := by decide +kernel
theorem fl_13_89 : fl 13 89 = some (12, 36) := by decide +kernel
theorem fl_13_92 : fl 13 92 = some (12, 40) := by decide +kernel
theorem fl_13_95 : fl 13 95 = some (12, 41) := by decide +kernel
theorem fl_13_98 : fl 13 98 = some (12, 43) := by decide +kernel
theorem fl_13_101 : fl 13 101 = some (12, 47) := by decide +kernel
theorem fl_13_104 : fl 13 104 = some (12, 48) := by decide +kernel
theorem fl_13_107 : fl 13 107 = some (12, 49) := by decide +kernel
theorem fl_13_110 : fl 13 110 = some (12, 51) := by decide +kernel
theorem fl_13_113 : fl 13 113 = some (12, 53) := by decide +kernel
theorem fl_13_116 : fl 13 116 = some (12, 54) := by decide +kernel
theorem fl_13_119 : fl 13 119 = some (12, 56) := by decide +kernel
theorem fl_13_122 : fl 13 122 = some (12, 70) := by decide +kernel
theorem fl_13_125 : fl 13 125 = some (12, 1) := by decide +kernel
theorem fl_13_136 : fl 13 136 = some (12, 9) := by decide +kernel
theorem fl_13_139 : fl 13 139 = some (12, 5) := by decide +kernel
theorem fl_13_142 : fl 13 142 = some (11, 19) := by decide +kernel
theorem fl_13_177 : fl 13 177 = some (11, 15) := by decide +kernel
theorem fl_13_180 : fl 13 180 = some (11, 14) := by decide +kernel
theorem fl_13_206 : fl 13 206 = some (11, 1) := by decide +kernel
theorem fl_13_209 : fl 13 209 = some (11, 16) := by decide +kernel
theorem fl_13_220 : fl 13 220 = some (11, 17) := by decide +kernel
theorem fl_13_223 : fl 13 223 = some (12, 13) := by decide +kernel
theorem fl_13_226 : fl 13 226 = some (12, 10) := by decide +kernel
theorem fl_13_229 : fl 13 229 = some (12, 14) := by decide +kernel
theorem fl_13_232 : fl 13 232 = some (11, 0) := by decide +kernel
theorem fl_13_235 : fl 13 235 = some (11, 7) := by decide +kernel
theorem fl_13_238 : fl 13 238 = some (11, 8) := by decide +kernel
theorem fl_13_241 : fl 13 241 = some (11, 9) := by decide +kernel
theorem fl_13_243 : fl 13 243 = some (11, 10) := by decide +kernel
theorem fl_13_246 : fl 13 246 = some (11, 11) := by decide +kernel
theorem fl_13_249 : fl 13 249 = some (11, 12) := by decide +kernel
theorem fl_13_252 : fl 13 252 = some (11, 13) := by decide +kernel
theorem fl_13_268 : fl 13 268 = some (12, 11) := by decide +kernel
theorem fl_13_277 : fl 13 277 = some (11, 3) := by decide +kernel
theorem fl_13_280 : fl 13 280 = some (11, 2) := by decide +kernel
theorem fl_13_283 : fl 13 283 = some (12, 15) := by decide +kernel
theorem fl_13_286 : fl 13 286 = some (12, 16) := by decide +kernel
theorem fl_13_314 : fl 13 314 = some (11, 4) := by decide +kernel
theorem fl_13_320 : fl 13 320 = some (11, 18) := by decide +kernel
theorem fl_13_323 : fl 13 323 = some (12, 23) := by decide +kernel
theorem fl_13_326 : fl 13 326 = some (12, 24) := by decide +kernel
theorem fl_13_329 : fl 13 329 = some (12, 27) := by decide +kernel
theorem fl_13_332 : fl 13 332 = some (11, 23) := by decide +kernel
theorem fl_13_335 : fl 13 335 = some (11, 22) := by decide +kernel
theorem fl_13_344 : fl 13 344 = some (11, 26) := by decide +kernel
theorem fl_13_362 : fl 13 362 = some (11, 24) := by decide +kernel
theorem fl_13_365 : fl 13 365 = some (11, 25) := by decide +kernel
theorem fl_13_371 : fl 13 371 = some (11, 5) := by decide +kernel
theorem fl_13_374 : fl 13 374 = some (11, 20) := by decide +kernel
theorem fl_13_377 : fl 13 377 = some (11, 21) := by decide +kernel
theorem fl_13_401 : fl 13 401 = some (12, 2) := by decide +kernel
theorem fl_13_404 : fl 13 404 = some (12, 19) := by decide +kernel
theorem fl_13_417 : fl 13 417 = some (12, 31) := by decide +kernel
theorem fl_13_435 : fl 13 435 = some (12, 42) := by decide +kernel
theorem fl_13_441 : fl 13 441 = some (12, 38) := by decide +kernel
theorem fl_13_444 : fl 13 444 = some (12, 44) := by decide +kernel
theorem fl_13_452 : fl 13 452 = some (12, 50) := by decide +kernel
theorem fl_13_459 : fl 13 459 = some (12, 52) := by decide +kernel
theorem fl_13_465 : fl 13 465 = some (12, 37) := by decide +kernel
theorem fl_13_468 : fl 13 468 = some (12, 39) := by decide +kernel
theorem fl_13_474 : fl 13 474 = some (12, 45) := by decide +kernel
theorem fl_13_477 : fl 13 477 = some (12, 46) := by decide +kernel
theorem fl_13_482 : fl 13 482 = some (12, 55) := by decide +kernel
theorem fl_13_485 : fl 13 485 = some (12, 57) := by decide +kernel
theorem fl_13_488 : fl 13 488 = some (12, 58) := by decide +kernel
theorem fl_13_491 : fl 13 491 = some (12, 59) := by decide +kernel
theorem fl_13_494 : fl 13 494 = some (12, 60) := by decide +kernel
theorem fl_13_497 : fl 13 497 = some (12, 62) := by decide +kernel
theorem fl_13_501 : fl 13 501 = some (12, 63) := by decide +kernel
theorem fl_13_504 : fl 13 504 = some (12, 64) := by decide +kernel
theorem fl_13_507 : fl 13 507 = some (12, 69) := by decide +kernel
theorem fl_13_514 : fl 13 514 = some (12, 66) := by decide +kernel
theorem fl_13_517 : fl 13 517 = some (12, 65) := by decide +kernel
theorem fl_13_520 : fl 13 520 = some (12, 67) := by decide +kernel
theorem fl_13_536 : fl 13 536 = some (12, 68) := by decide +kernel
theorem fl_13_569 : fl 13 569 = some (12, 71) := by decide +kernel
theorem fl_13_604 : fl 13 604 = some (12, 61) := by decide +kernel
theorem ml_0_3 : mlk 0 3 = some 1000 := by decide +kernel
theorem ml_0_11 : mlk 0 11 = some 146 := by decide +kernel
theorem ml_0_34 : mlk 0 34 = some 133 := by decide +kernel
theorem ml_0_40 : mlk 0 40 = some 96 := by decide +kernel
theorem ml_0_46 : mlk 0 46 = some 145 := by decide +kernel
theorem ml_0_59 : mlk 0 59 = some 13 := by decide +kernel
theorem ml_0_62 : mlk 0 62 = some 128 := by decide +kernel
theorem ml_0_69 : mlk 0 69 = some 116 := by decide +kernel
theorem ml_0_72 : mlk 0 72 = some 32 := by decide +kernel
theorem ml_0_78 : mlk 0 78 = some 12 := by decide +kernel
theorem ml_0_82 : mlk 0 82 = some 11 := by decide +kernel
theorem ml_0_86 : mlk 0 86 = some 125 := by decide +kernel
theorem ml_0_96 : mlk 0 96 = some 81 := by decide +kernel
theorem ml_0_101 : mlk 0 101 = some 139 := by decide +kernel
theorem ml_0_107 : mlk 0 107 = some 281 := by decide +kernel
theorem ml_0_113 : mlk 0 113 = some 138 := by decide +kernel
theorem ml_0_116 : mlk 0 116 = some 18 := by decide +kernel
theorem ml_0_120 : mlk 0 120 = some 131 := by decide +kernel
theorem ml_0_123 : mlk 0 123 = some 115 := by decide +kernel
theorem ml_0_129 : mlk 0 129 = some 284 := by decide +kernel
theorem ml_0_135 : mlk 0 135 = some 94 := by decide +kernel
theorem ml_0_138 : mlk 0 138 = some 129 := by decide +kernel
theorem ml_0_141 : mlk 0 141 = some 33 := by decide +kernel
theorem ml_0_145 : mlk 0 145 = some 27 := by decide +kernel
theorem ml_0_146 : mlk 0 146 = some 119 := by decide +kernel
theorem ml_0_150 : mlk 0 150 = some 23 := by decide +kernel
theorem ml_0_153 : mlk 0 153 = some 120 := by decide +kernel
theorem ml_0_156 : mlk 0 156 = some 24 := by decide +kernel
theorem ml_0_159 : mlk 0 159 = some 122 := by decide +kernel
theorem ml_0_162 : mlk 0 162 = some 8 := by decide +kernel
theorem ml_0_165 : mlk 0 165 = some 14 := by decide +kernel
theorem ml_0_169 : mlk 0 169 = some 15 := by decide +kernel
theorem ml_0_172 : mlk 0 172 = some 29 := by decide +kernel
theorem ml_0_176 : mlk 0 176 = some 144 := by decide +kernel
theorem ml_0_179 : mlk 0 179 = some 287 := by decide +kernel
theorem ml_0_182 : mlk 0 182 = some 147 := by decide +kernel
theorem ml_0_185 : mlk 0 185 = some 152 := by decide +kernel
theorem ml_0_188 : mlk 0 188 = some 148 := by decide +kernel
theorem ml_0_191 : mlk 0 191 = some 16 := by decide +kernel
theorem ml_0_194 : mlk 0 194 = some 21 := by decide +kernel
theorem ml_0_197 : mlk 0 197 = some 22 := by decide +kernel
theorem ml_0_200 : mlk 0 200 = some 4 := by decide +kernel
theorem ml_0_204 : mlk 0 204 = some 28 := by decide +kernel
theorem ml_0_207 : mlk 0 207 = some 5 := by decide +kernel
theorem ml_0_210 : mlk 0 210 = some 19 := by decide +kernel
theorem ml_0_213 : mlk 0 213 = some 25 := by decide +kernel
theorem ml_0_216 : mlk 0 216 = some 26 := by decide +kernel
theorem ml_0_219 : mlk 0 219 = some 10 := by decide +kernel
theorem ml_0_222 : mlk 0 222 = some 1 := by decide +kernel
theorem ml_0_225 : mlk 0 225 = some 0 := by decide +kernel
theorem ml_0_228 : mlk 0 228 = some 102 := by decide +kernel
theorem ml_0_231 : mlk 0 231 = some 142 := by decide +kernel
theorem ml_0_234 : mlk 0 234 = some 6 := by decide +kernel
theorem ml_0_237 : mlk 0 237 = some 3 := by decide +kernel
theorem ml_0_240 : mlk 0 240 = some 20 := by decide +kernel
theorem ml_0_244 : mlk 0 244 = some 141 := by decide +kernel
theorem ml_0_247 : mlk 0 247 = some 154 := by decide +kernel
theorem ml_0_250 : mlk 0 250 = some 95 := by decide +kernel
theorem ml_0_253 : mlk 0 253 = some 143 := by decide +kernel
theorem ml_0_256 : mlk 0 256 = some 2 := by decide +kernel
theorem ml_0_259 : mlk 0 259 = some 98 := by decide +kernel
theorem ml_0_263 : mlk 0 263 = some 151 := by decide +kernel
theorem ml_0_266 : mlk 0 266 = some 9 := by decide +kernel
theorem ml_0_270 : mlk 0 270 = some 156 := by decide +kernel
theorem ml_0_275 : mlk 0 275 = some 155 := by decide +kernel
theorem ml_0_277 : mlk 0 277 = some 83 := by decide +kernel
theorem ml_0_280 : mlk 0 280 = some 157 := by decide +kernel
theorem ml_0_283 : mlk 0 283 = some 106 := by decide +kernel
theorem ml_0_286 : mlk 0 286 = some 105 := by decide +kernel
theorem ml_1_3 : mlk 1 3 = some 1000 := by decide +kernel
theorem ml_2_3 : mlk 2 3 = some 1000 := by decide +kernel
theorem ml_2_21 : mlk 2 21 = some 140 := by decide +kernel
theorem ml_2_30 : mlk 2 30 = some 1001 := by decide +kernel
theorem ml_2_43 : mlk 2 43 = some 43 := by decide +kernel
theorem ml_2_47 : mlk 2 47 = some 157 := by decide +kernel
theorem ml_2_53 : mlk 2 53 = some 39 := by decide +kernel
theorem ml_3_3 : mlk 3 3 = some 1000 := by decide +kernel
theorem ml_3_11 : mlk 3 11 = some 36 := by decide +kernel
theorem ml_3_20 : mlk 3 20 = some 90 := by decide +kernel
theorem ml_3_50 : mlk 3 50 = some 34 := by decide +kernel
theorem ml_3_54 : mlk 3 54 = some 88 := by decide +kernel
theorem ml_3_62 : mlk 3 62 = some 140 := by decide +kernel
theorem ml_3_83 : mlk 3 83 = some 157 := by decide +kernel
theorem ml_3_89 : mlk 3 89 = some 282 := by decide +kernel
theorem ml_3_105 : mlk 3 105 = some 156 := by decide +kernel
theorem ml_3_117 : mlk 3 117 = some 104 := by decide +kernel
theorem ml_3_121 : mlk 3 121 = some 103 := by decide +kernel
theorem ml_3_124 : mlk 3 124 = some 67 := by decide +kernel
theorem ml_3_128 : mlk 3 128 = some 71 := by decide +kernel
theorem ml_3_131 : mlk 3 131 = some 47 := by decide +kernel
theorem ml_3_134 : mlk 3 134 = some 52 := by decide +kernel
theorem ml_3_138 : mlk 3 138 = some 49 := by decide +kernel
theorem ml_3_142 : mlk 3 142 = some 56 := by decide +kernel
theorem ml_3_145 : mlk 3 145 = some 59 := by decide +kernel
theorem ml_3_148 : mlk 3 148 = some 57 := by decide +kernel
theorem ml_3_151 : mlk 3 151 = some 66 := by decide +kernel
theorem ml_3_154 : mlk 3 154 = some 62 := by decide +kernel
theorem ml_3_158 : mlk 3 158 = some 48 := by decide +kernel
theorem ml_3_161 : mlk 3 161 = some 55 := by decide +kernel
theorem ml_3_164 : mlk 3 164 = some 65 := by decide +kernel
theorem ml_3_168 : mlk 3 168 = some 64 := by decide +kernel
theorem ml_3_172 : mlk 3 172 = some 70 := by decide +kernel
theorem ml_3_176 : mlk 3 176 = some 37 := by decide +kernel
theorem ml_3_180 : mlk 3 180 = some 43 := by decide +kernel
theorem ml_3_183 : mlk 3 183 = some 69 := by decide +kernel
theorem ml_3_186 : mlk 3 186 = some 155 := by decide +kernel
theorem ml_3_189 : mlk 3 189 = some 39 := by decide +kernel
theorem ml_3_192 : mlk 3 192 = some 63 := by decide +kernel
theorem ml_3_195 : mlk 3 195 = some 101 := by decide +kernel
theorem ml_3_198 : mlk 3 198 = some 35 := by decide +kernel
theorem ml_3_202 : mlk 3 202 = some 42 := by decide +kernel
theorem ml_3_205 : mlk 3 205 = some 107 := by decide +kernel
theorem ml_3_208 : mlk 3 208 = some 72 := by decide +kernel
theorem ml_3_211 : mlk 3 211 = some 44 := by decide +kernel
theorem ml_3_215 : mlk 3 215 = some 40 := by decide +kernel
theorem ml_3_218 : mlk 3 218 = some 284 := by decide +kernel
theorem ml_3_223 : mlk 3 223 = some 73 := by decide +kernel
theorem ml_3_227 : mlk 3 227 = some 51 := by decide +kernel
theorem ml_3_231 : mlk 3 231 = some 50 := by decide +kernel
theorem ml_3_234 : mlk 3 234 = some 38 := by decide +kernel
theorem ml_3_237 : mlk 3 237 = some 108 := by decide +kernel
theorem ml_3_240 : mlk 3 240 = some 60 := by decide +kernel
theorem ml_3_243 : mlk 3 243 = some 61 := by decide +kernel
theorem ml_3_246 : mlk 3 246 = some 99 := by decide +kernel
theorem ml_3_249 : mlk 3 249 = some 97 := by decide +kernel
theorem ml_3_252 : mlk 3 252 = some 139 := by decide +kernel
theorem ml_3_255 : mlk 3 255 = some 75 := by decide +kernel
theorem ml_3_258 : mlk 3 258 = some 54 := by decide +kernel
theorem ml_3_268 : mlk 3 268 = some 74 := by decide +kernel
theorem ml_3_272 : mlk 3 272 = some 45 := by decide +kernel
theorem ml_3_276 : mlk 3 276 = some 41 := by decide +kernel
theorem ml_3_280 : mlk 3 280 = some 158 := by decide +kernel
theorem ml_3_284 : mlk 3 284 = some 89 := by decide +kernel
theorem ml_3_287 : mlk 3 287 = some 91 := by decide +kernel
theorem ml_3_291 : mlk 3 291 = some 68 := by decide +kernel
theorem ml_4_3 : mlk 4 3 = some 1000 := by decide +kernel
theorem ml_4_28 : mlk 4 28 = some 140 := by decide +kernel
theorem ml_4_34 : mlk 4 34 = some 139 := by decide +kernel
theorem ml_4_37 : mlk 4 37 = some 281 := by decide +kernel
theorem ml_4_52 : mlk 4 52 = some 86 := by decide +kernel
theorem ml_4_62 : mlk 4 62 = some 84 := by decide +kernel
theorem ml_4_75 : mlk 4 75 = some 79 := by decide +kernel
theorem ml_4_78 : mlk 4 78 = some 85 := by decide +kernel
theorem ml_4_96 : mlk 4 96 = some 77 := by decide +kernel
theorem ml_5_3 : mlk 5 3 = some 1000 := by decide +kernel
theorem ml_5_28 : mlk 5 28 = some 283 := by decide +kernel
theorem ml_5_34 : mlk 5 34 = some 139 := by decide +kernel
theorem ml_6_3 : mlk 6 3 = some 1000 := by decide +kernel
theorem ml_6_40 : mlk 6 40 = some 285 := by decide +kernel
theorem ml_6_46 : mlk 6 46 = some 139 := by decide +kernel
theorem ml_6_52 : mlk 6 52 = some 140 := by decide +kernel
theorem ml_6_77 : mlk 6 77 = some 149 := by decide +kernel
theorem ml_6_83 : mlk 6 83 = some 153 := by decide +kernel
theorem ml_7_3 : mlk 7 3 = some 1000 := by decide +kernel
theorem ml_7_11 : mlk 7 11 = some 80 := by decide +kernel
theorem ml_7_52 : mlk 7 52 = some 285 := by decide +kernel
theorem ml_7_62 : mlk 7 62 = some 78 := by decide +kernel
theorem ml_7_66 : mlk 7 66 = some 110 := by decide +kernel
theorem ml_7_72 : mlk 7 72 = some 124 := by decide +kernel
theorem ml_7_76 : mlk 7 76 = some 32 := by decide +kernel
theorem ml_7_82 : mlk 7 82 = some 112 := by decide +kernel
theorem ml_7_86 : mlk 7 86 = some 33 := by decide +kernel
theorem ml_7_90 : mlk 7 90 = some 139 := by decide +kernel
theorem ml_7_99 : mlk 7 99 = some 132 := by decide +kernel
theorem ml_7_102 : mlk 7 102 = some 111 := by decide +kernel
theorem ml_7_105 : mlk 7 105 = some 121 := by decide +kernel
theorem ml_7_109 : mlk 7 109 = some 113 := by decide +kernel
theorem ml_7_112 : mlk 7 112 = some 137 := by decide +kernel
theorem ml_7_115 : mlk 7 115 = some 126 := by decide +kernel
theorem ml_7_119 : mlk 7 119 = some 127 := by decide +kernel
theorem ml_7_122 : mlk 7 122 = some 288 := by decide +kernel
theorem ml_7_125 : mlk 7 125 = some 114 := by decide +kernel
theorem ml_7_128 : mlk 7 128 = some 118 := by decide +kernel
theorem ml_7_138 : mlk 7 138 = some 135 := by decide +kernel
theorem ml_7_141 : mlk 7 141 = some 136 := by decide +kernel
theorem ml_7_144 : mlk 7 144 = some 123 := by decide +kernel
theorem ml_7_147 : mlk 7 147 = some 134 := by decide +kernel
theorem ml_7_155 : mlk 7 155 = some 286 := by decide +kernel
theorem ml_7_162 : mlk 7 162 = some 84 := by decide +kernel
theorem ml_7_165 : mlk 7 165 = some 85 := by decide +kernel
theorem ml_7_168 : mlk 7 168 = some 79 := by decide +kernel
theorem ml_7_172 : mlk 7 172 = some 82 := by decide +kernel
theorem ml_7_175 : mlk 7 175 = some 109 := by decide +kernel
theorem ml_7_178 : mlk 7 178 = some 116 := by decide +kernel
theorem ml_7_181 : mlk 7 181 = some 125 := by decide +kernel
theorem ml_7_184 : mlk 7 184 = some 122 := by decide +kernel
theorem ml_7_187 : mlk 7 187 = some 115 := by decide +kernel
theorem ml_8_7 : mlk 8 7 = some 284 := by decide +kernel
theorem ml_8_13 : mlk 8 13 = some 279 := by decide +kernel
theorem ml_8_19 : mlk 8 19 = some 280 := by decide +kernel
theorem ml_9_3 : mlk 9 3 = some 1000 := by decide +kernel
theorem ml_9_34 : mlk 9 34 = some 281 := by decide +kernel
theorem ml_9_40 : mlk 9 40 = some 139 := by decide +kernel
theorem ml_9_46 : mlk 9 46 = some 285 := by decide +kernel
theorem ml_9_52 : mlk 9 52 = some 284 := by decide +kernel
theorem ml_9_55 : mlk 9 55 = some 289 := by decide +kernel
theorem ml_9_59 : mlk 9 59 = some 150 := by decide +kernel
theorem ml_9_62 : mlk 9 62 = some 152 := by decide +kernel
theorem ml_10_11 : mlk 10 11 = some 157 := by decide +kernel
theorem ml_11_1 : mlk 11 1 = some 1000 := by decide +kernel
theorem ml_11_15 : mlk 11 15 = some 31 := by decide +kernel
theorem ml_11_22 : mlk 11 22 = some 117 := by decide +kernel
theorem ml_11_31 : mlk 11 31 = some 100 := by decide +kernel
theorem ml_11_41 : mlk 11 41 = some 17 := by decide +kernel
theorem ml_11_50 : mlk 11 50 = some 58 := by decide +kernel
theorem ml_11_69 : mlk 11 69 = some 173 := by decide +kernel
theorem ml_11_73 : mlk 11 73 = some 30 := by decide +kernel
theorem ml_11_76 : mlk 11 76 = some 130 := by decide +kernel
theorem ml_11_80 : mlk 11 80 = some 32 := by decide +kernel
theorem ml_11_84 : mlk 11 84 = some 7 := by decide +kernel
theorem ml_11_91 : mlk 11 91 = some 160 := by decide +kernel
theorem ml_11_100 : mlk 11 100 = some 46 := by decide +kernel
theorem ml_11_103 : mlk 11 103 = some 282 := by decide +kernel
theorem ml_11_113 : mlk 11 113 = some 93 := by decide +kernel
theorem ml_11_119 : mlk 11 119 = some 76 := by decide +kernel
theorem ml_11_128 : mlk 11 128 = some 92 := by decide +kernel
theorem ml_11_131 : mlk 11 131 = some 87 := by decide +kernel
theorem ml_11_138 : mlk 11 138 = some 53 := by decide +kernel
theorem ml_11_142 : mlk 11 142 = some 156 := by decide +kernel
theorem ml_11_152 : mlk 11 152 = some 155 := by decide +kernel
theorem ml_11_155 : mlk 11 155 = some 39 := by decide +kernel
theorem ml_11_160 : mlk 11 160 = some 171 := by decide +kernel
theorem ml_11_163 : mlk 11 163 = some 38 := by decide +kernel
theorem ml_11_166 : mlk 11 166 = some 108 := by decide +kernel
theorem ml_11_169 : mlk 11 169 = some 75 := by decide +kernel
theorem ml_12_3 : mlk 12 3 = some 1000 := by decide +kernel
theorem ml_13_3 : mlk 13 3 = some 1000 := by decide +kernel
theorem ml_13_42 : mlk 13 42 = some 178 := by decide +kernel
theorem ml_13_128 : mlk 13 128 = some 208 := by decide +kernel
theorem ml_13_132 : mlk 13 132 = some 220 := by decide +kernel
theorem ml_13_143 : mlk 13 143 = some 189 := by decide +kernel
theorem ml_13_147 : mlk 13 147 = some 274 := by decide +kernel
theorem ml_13_150 : mlk 13 150 = some 264 := by decide +kernel
theorem ml_13_154 : mlk 13 154 = some 224 := by decide +kernel
theorem ml_13_157 : mlk 13 157 = some 273 := by decide +kernel
theorem ml_13_167 : mlk 13 167 = some 286 := by decide +kernel
theorem ml_13_173 : mlk 13 173 = some 238 := by decide +kernel
theorem ml_13_183 : mlk 13 183 = some 242 := by decide +kernel
theorem ml_13_202 : mlk 13 202 = some 226 := by decide +kernel
theorem ml_13_212 : mlk 13 212 = some 222 := by decide +kernel
theorem ml_13_216 : mlk 13 216 = some 240 := by decide +kernel
theorem ml_13_254 : mlk 13 254 = some 241 := by decide +kernel
theorem ml_13_257 : mlk 13 257 = some 251 := by decide +kernel
theorem ml_13_261 : mlk 13 261 = some 234 := by decide +kernel
theorem ml_13_264 : mlk 13 264 = some 185 := by decide +kernel
theorem ml_13_271 : mlk 13 271 = some 201 := by decide +kernel
theorem ml_13_274 : mlk 13 274 = some 199 := by decide +kernel
theorem ml_13_289 : mlk 13 289 = some 223 := by decide +kernel
theorem ml_13_292 : mlk 13 292 = some 221 := by decide +kernel
theorem ml_13_295 : mlk 13 295 = some 248 := by decide +kernel
theorem ml_13_298 : mlk 13 298 = some 246 := by decide +kernel
theorem ml_13_301 : mlk 13 301 = some 182 := by decide +kernel
theorem ml_13_304 : mlk 13 304 = some 183 := by decide +kernel
theorem ml_13_307 : mlk 13 307 = some 275 := by decide +kernel
theorem ml_13_310 : mlk 13 310 = some 225 := by decide +kernel
theorem ml_13_317 : mlk 13 317 = some 278 := by decide +kernel
theorem ml_13_338 : mlk 13 338 = some 200 := by decide +kernel
theorem ml_13_340 : mlk 13 340 = some 204 := by decide +kernel
theorem ml_13_347 : mlk 13 347 = some 268 := by decide +kernel
theorem ml_13_350 : mlk 13 350 = some 228 := by decide +kernel
theorem ml_13_353 : mlk 13 353 = some 229 := by decide +kernel
theorem ml_13_356 : mlk 13 356 = some 190 := by decide +kernel
theorem ml_13_359 : mlk 13 359 = some 209 := by decide +kernel
theorem ml_13_368 : mlk 13 368 = some 284 := by decide +kernel
theorem ml_13_380 : mlk 13 380 = some 187 := by decide +kernel
theorem ml_13_383 : mlk 13 383 = some 216 := by decide +kernel
theorem ml_13_386 : mlk 13 386 = some 188 := by decide +kernel
theorem ml_13_389 : mlk 13 389 = some 177 := by decide +kernel
theorem ml_13_392 : mlk 13 392 = some 259 := by decide +kernel
theorem ml_13_395 : mlk 13 395 = some 256 := by decide +kernel
theorem ml_13_398 : mlk 13 398 = some 179 := by decide +kernel
theorem ml_13_408 : mlk 13 408 = some 186 := by decide +kernel
theorem ml_13_420 : mlk 13 420 = some 269 := by decide +kernel
theorem ml_13_423 : mlk 13 423 = some 198 := by decide +kernel
theorem ml_13_427 : mlk 13 427 = some 235 := by decide +kernel
theorem ml_13_432 : mlk 13 432 = some 245 := by decide +kernel
theorem ml_13_438 : mlk 13 438 = some 196 := by decide +kernel
theorem ml_13_448 : mlk 13 448 = some 214 := by decide +kernel
theorem ml_13_455 : mlk 13 455 = some 236 := by decide +kernel
theorem ml_13_462 : mlk 13 462 = some 252 := by decide +kernel
theorem ml_13_471 : mlk 13 471 = some 210 := by decide +kernel
theorem ml_13_510 : mlk 13 510 = some 261 := by decide +kernel
theorem ml_13_512 : mlk 13 512 = some 263 := by decide +kernel
theorem ml_13_522 : mlk 13 522 = some 191 := by decide +kernel
theorem ml_13_525 : mlk 13 525 = some 219 := by decide +kernel
theorem ml_13_529 : mlk 13 529 = some 266 := by decide +kernel
theorem ml_13_533 : mlk 13 533 = some 270 := by decide +kernel
theorem ml_13_539 : mlk 13 539 = some 277 := by decide +kernel
theorem ml_13_542 : mlk 13 542 = some 205 := by decide +kernel
theorem ml_13_545 : mlk 13 545 = some 247 := by decide +kernel
theorem ml_13_548 : mlk 13 548 = some 195 := by decide +kernel
theorem ml_13_551 : mlk 13 551 = some 206 := by decide +kernel
theorem ml_13_553 : mlk 13 553 = some 233 := by decide +kernel
theorem ml_13_556 : mlk 13 556 = some 232 := by decide +kernel
theorem ml_13_559 : mlk 13 559 = some 207 := by decide +kernel
theorem ml_13_561 : mlk 13 561 = some 193 := by decide +kernel
theorem ml_13_565 : mlk 13 565 = some 239 := by decide +kernel
theorem ml_13_572 : mlk 13 572 = some 255 := by decide +kernel
theorem ml_13_574 : mlk 13 574 = some 260 := by decide +kernel
theorem ml_13_577 : mlk 13 577 = some 230 := by decide +kernel
theorem ml_13_580 : mlk 13 580 = some 231 := by decide +kernel
theorem ml_13_583 : mlk 13 583 = some 250 := by decide +kernel
theorem ml_13_586 : mlk 13 586 = some 180 := by decide +kernel
theorem ml_13_589 : mlk 13 589 = some 227 := by decide +kernel
theorem ml_13_592 : mlk 13 592 = some 272 := by decide +kernel
theorem ml_13_595 : mlk 13 595 = some 192 := by decide +kernel
theorem ml_13_598 : mlk 13 598 = some 271 := by decide +kernel
theorem ml_13_601 : mlk 13 601 = some 249 := by decide +kernel
theorem ml_13_607 : mlk 13 607 = some 215 := by decide +kernel
theorem ml_13_610 : mlk 13 610 = some 265 := by decide +kernel
theorem ml_13_614 : mlk 13 614 = some 253 := by decide +kernel
theorem ml_13_618 : mlk 13 618 = some 267 := by decide +kernel
theorem ml_13_621 : mlk 13 621 = some 243 := by decide +kernel
theorem ml_13_625 : mlk 13 625 = some 181 := by decide +kernel
theorem ml_13_629 : mlk 13 629 = some 213 := by decide +kernel
theorem ml_13_632 : mlk 13 632 = some 276 := by decide +kernel
theorem ml_13_634 : mlk 13 634 = some 262 := by decide +kernel
theorem ml_14_150 : mlk 14 150 = some 1001 := by decide +kernel
theorem ml_14_304 : mlk 14 304 = some 285 := by decide +kernel
set_option maxRecDepth 100000 in
theorem mc_0 : mInfC 0 = some (yX0_areBindings, cX0_areBindings, 6, (some .boolean), 0, 2, 0) := rfl
set_option maxRecDepth 100000 in
theorem mm_0 : mInfo 0 = some (yX0_areBindings, cX0_areBindings, 6, (some .boolean), 0, 2, 0) := rfl
set_option maxRecDepth 100000 in
theorem mc_1 : mInfC 1 = some (yX0_areNames, cX0_areNames, 6, (some .boolean), 0, 2, 0) := rfl
set_option maxRecDepth 100000 in
theorem mm_1 : mInfo 1 = some (yX0_areNames, cX0_areNames, 6, (some .boolean), 0, 2, 0) := rfl
set_option maxRecDepth 100000 in
theorem mc_2 : mInfC 2 = some (yX0_bindNames, cX0_bindNames, 4, none, 0, 2, 0) := rfl
set_option maxRecDepth 100000 in
theorem mm_2 : mInfo 2 = some (yX0_bindNames, cX0_bindNames, 4, none, 0, 2, 0) := rfl
set_option maxRecDepth 100000 in
theorem mc_3 : mInfC 3 = some (yX0_bindPairs, cX0_bindPairs, 5, none, 0, 3, 0) := rfl
set_option maxRecDepth 100000 in
theorem mm_3 : mInfo 3 = some (yX0_bindPairs, cX0_bindPairs, 5, none, 0, 3, 0) := rfl
set_option maxRecDepth 100000 in
theorem mc_4 : mInfC 4 = some (yX0_body, cX0_body, 8, none, 0, 5, 0) := rfl
set_option maxRecDepth 100000 in
theorem mm_4 : mInfo 4 = some (yX0_body, cX0_body, 8, none, 0, 5, 0) := rfl
set_option maxRecDepth 100000 in
theorem mc_5 : mInfC 5 = some (yX0_callForm, cX0_callForm, 7, none, 0, 4, 0) := rfl
set_option maxRecDepth 100000 in
theorem mm_5 : mInfo 5 = some (yX0_callForm, cX0_callForm, 7, none, 0, 4, 0) := rfl
set_option maxRecDepth 100000 in
theorem mc_6 : mInfC 6 = some (yX0_checkBound, cX0_checkBound, 8, none, 0, 4, 0) := rfl
set_option maxRecDepth 100000 in
theorem mm_6 : mInfo 6 = some (yX0_checkBound, cX0_checkBound, 8, none, 0, 4, 0) := rfl
set_option maxRecDepth 100000 in
theorem mc_7 : mInfC 7 = some (yX0_compile, cX0_compile, 4, none, 0, 2, 0) := rfl
set_option maxRecDepth 100000 in
theorem mm_7 : mInfo 7 = some (yX0_compile, cX0_compile, 4, none, 0, 2, 0) := rfl
set_option maxRecDepth 100000 in
theorem mc_8 : mInfC 8 = some (yX0_countForm, cX0_countForm, 2, none, 0, 2, 0) := rfl
set_option maxRecDepth 100000 in
theorem mm_8 : mInfo 8 = some (yX0_countForm, cX0_countForm, 2, none, 0, 2, 0) := rfl
set_option maxRecDepth 100000 in
theorem mc_9 : mInfC 9 = some (yX0_datum, cX0_datum, 9, (some .long), 0, 3, 0) := rfl
set_option maxRecDepth 100000 in
theorem mm_9 : mInfo 9 = some (yX0_datum, cX0_datum, 9, (some .long), 0, 3, 0) := rfl
set_option maxRecDepth 100000 in
theorem mc_10 : mInfC 10 = some (yX0_defineForm, cX0_defineForm, 5, none, 0, 3, 0) := rfl
set_option maxRecDepth 100000 in
theorem mm_10 : mInfo 10 = some (yX0_defineForm, cX0_defineForm, 5, none, 0, 3, 0) := rfl
set_option maxRecDepth 100000 in
theorem mc_11 : mInfC 11 = some (yX0_emit, cX0_emit, 4, (some .int), 0, 4, 0) := rfl
set_option maxRecDepth 100000 in
theorem mm_11 : mInfo 11 = some (yX0_emit, cX0_emit, 4, (some .int), 0, 4, 0) := rfl
set_option maxRecDepth 100000 in
theorem mc_12 : mInfC 12 = some (yX0_form, cX0_form, 4, none, 0, 4, 0) := rfl
set_option maxRecDepth 100000 in
theorem mm_12 : mInfo 12 = some (yX0_form, cX0_form, 4, none, 0, 4, 0) := rfl
set_option maxRecDepth 100000 in
theorem mc_13 : mInfC 13 = some (yX0_gatherDefined, cX0_gatherDefined, 4, none, 0, 1, 0) := rfl
set_option maxRecDepth 100000 in
theorem mm_13 : mInfo 13 = some (yX0_gatherDefined, cX0_gatherDefined, 4, none, 0, 1, 0) := rfl
set_option maxRecDepth 100000 in
theorem mc_14 : mInfC 14 = some (yX0_giveBackIf, cX0_giveBackIf, 2, none, 0, 2, 0) := rfl
set_option maxRecDepth 100000 in
theorem mm_14 : mInfo 14 = some (yX0_giveBackIf, cX0_giveBackIf, 2, none, 0, 2, 0) := rfl
set_option maxRecDepth 100000 in
theorem mc_15 : mInfC 15 = some (yX0_hasMeaning, cX0_hasMeaning, 2, (some .boolean), 0, 2, 0) := rfl
set_option maxRecDepth 100000 in
theorem mm_15 : mInfo 15 = some (yX0_hasMeaning, cX0_hasMeaning, 2, (some .boolean), 0, 2, 0) := rfl
set_option maxRecDepth 100000 in
theorem mc_16 : mInfC 16 = some (yX0_ifForm, cX0_ifForm, 8, none, 0, 4, 0) := rfl
set_option maxRecDepth 100000 in
theorem mm_16 : mInfo 16 = some (yX0_ifForm, cX0_ifForm, 8, none, 0, 4, 0) := rfl
set_option maxRecDepth 100000 in
theorem mc_17 : mInfC 17 = some (yX0_init, cX0_init, 4, none, 0, 4, 2) := rfl
set_option maxRecDepth 100000 in
theorem mm_17 : mInfo 17 = some (yX0_init, cX0_init, 4, none, 0, 4, 2) := rfl
set_option maxRecDepth 100000 in
theorem mc_18 : mInfC 18 = some (yX0_isShaped, cX0_isShaped, 6, (some .boolean), 0, 4, 0) := rfl
set_option maxRecDepth 100000 in
theorem mm_18 : mInfo 18 = some (yX0_isShaped, cX0_isShaped, 6, (some .boolean), 0, 4, 0) := rfl
set_option maxRecDepth 100000 in
theorem mc_19 : mInfC 19 = some (yX0_lambdaForm, cX0_lambdaForm, 11, none, 0, 4, 0) := rfl
set_option maxRecDepth 100000 in
theorem mm_19 : mInfo 19 = some (yX0_lambdaForm, cX0_lambdaForm, 11, none, 0, 4, 0) := rfl
set_option maxRecDepth 100000 in
theorem mc_20 : mInfC 20 = some (yX0_leaveBindings, cX0_leaveBindings, 5, none, 0, 5, 0) := rfl
set_option maxRecDepth 100000 in
theorem mm_20 : mInfo 20 = some (yX0_leaveBindings, cX0_leaveBindings, 5, none, 0, 5, 0) := rfl
set_option maxRecDepth 100000 in
theorem mc_21 : mInfC 21 = some (yX0_letForm, cX0_letForm, 10, none, 0, 4, 0) := rfl
set_option maxRecDepth 100000 in
theorem mm_21 : mInfo 21 = some (yX0_letForm, cX0_letForm, 10, none, 0, 4, 0) := rfl
set_option maxRecDepth 100000 in
theorem mc_22 : mInfC 22 = some (yX0_letrecForm, cX0_letrecForm, 10, none, 0, 4, 0) := rfl
set_option maxRecDepth 100000 in
theorem mm_22 : mInfo 22 = some (yX0_letrecForm, cX0_letrecForm, 10, none, 0, 4, 0) := rfl
set_option maxRecDepth 100000 in
theorem mc_23 : mInfC 23 = some (yX0_listForm, cX0_listForm, 5, none, 0, 4, 0) := rfl
set_option maxRecDepth 100000 in
theorem mm_23 : mInfo 23 = some (yX0_listForm, cX0_listForm, 5, none, 0, 4, 0) := rfl
set_option maxRecDepth 100000 in
theorem mc_24 : mInfC 24 = some (yX0_nameForm, cX0_nameForm, 3, none, 0, 2, 0) := rfl
set_option maxRecDepth 100000 in
theorem mm_24 : mInfo 24 = some (yX0_nameForm, cX0_nameForm, 3, none, 0, 2, 0) := rfl
set_option maxRecDepth 100000 in
theorem mc_25 : mInfC 25 = some (yX0_quoteForm, cX0_quoteForm, 6, none, 0, 4, 0) := rfl
set_option maxRecDepth 100000 in
theorem mm_25 : mInfo 25 = some (yX0_quoteForm, cX0_quoteForm, 6, none, 0, 4, 0) := rfl
set_option maxRecDepth 100000 in
theorem mc_26 : mInfC 26 = some (yX0_setForm, cX0_setForm, 6, none, 0, 4, 0) := rfl
set_option maxRecDepth 100000 in
theorem mm_26 : mInfo 26 = some (yX0_setForm, cX0_setForm, 6, none, 0, 4, 0) := rfl
set_option maxRecDepth 100000 in
theorem mc_27 : mInfC 27 = some (yX0_tell, cX0_tell, 3, none, 0, 3, 0) := rfl
set_option maxRecDepth 100000 in
theorem mm_27 : mInfo 27 = some (yX0_tell, cX0_tell, 3, none, 0, 3, 0) := rfl
set_option maxRecDepth 100000 in
theorem mc_28 : mInfC 28 = some (yX0_untilForm, cX0_untilForm, 9, none, 0, 5, 0) := rfl
set_option maxRecDepth 100000 in
theorem mm_28 : mInfo 28 = some (yX0_untilForm, cX0_untilForm, 9, none, 0, 5, 0) := rfl
set_option maxRecDepth 100000 in
theorem mc_29 : mInfC 29 = some (yX0_variable, cX0_variable, 5, none, 0, 4, 0) := rfl
set_option maxRecDepth 100000 in
theorem mm_29 : mInfo 29 = some (yX0_variable, cX0_variable, 5, none, 0, 4, 0) := rfl
set_option maxRecDepth 100000 in
theorem mc_30 : mInfC 30 = some (yX1_forget, cX1_forget, 1, none, 1, 1, 0) := rfl
set_option maxRecDepth 100000 in
theorem mm_30 : mInfo 30 = some (yX1_forget, cX1_forget, 1, none, 1, 1, 0) := rfl
set_option maxRecDepth 100000 in
theorem mc_31 : mInfC 31 = some (yX1_init, cX1_init, 1, none, 1, 1, 2) := rfl
set_option maxRecDepth 100000 in
theorem mm_31 : mInfo 31 = some (yX1_init, cX1_init, 1, none, 1, 1, 2) := rfl
set_option maxRecDepth 100000 in
theorem mc_32 : mInfC 32 = some (yX1_isNone, cX1_isNone, 1, (some .boolean), 1, 1, 0) := rfl
set_option maxRecDepth 100000 in
theorem mm_32 : mInfo 32 = some (yX1_isNone, cX1_isNone, 1, (some .boolean), 1, 1, 0) := rfl
set_option maxRecDepth 100000 in
theorem mc_33 : mInfC 33 = some (yX1_tell, cX1_tell, 3, none, 1, 3, 0) := rfl
set_option maxRecDepth 100000 in
theorem mm_33 : mInfo 33 = some (yX1_tell, cX1_tell, 3, none, 1, 3, 0) := rfl
set_option maxRecDepth 100000 in
theorem mc_34 : mInfC 34 = some (yX2_begin, cX2_begin, 2, none, 2, 2, 0) := rfl
set_option maxRecDepth 100000 in
theorem mm_34 : mInfo 34 = some (yX2_begin, cX2_begin, 2, none, 2, 2, 0) := rfl
set_option maxRecDepth 100000 in
theorem mc_35 : mInfC 35 = some (yX2_hasRoom, cX2_hasRoom, 2, (some .boolean), 2, 2, 0) := rfl
set_option maxRecDepth 100000 in
theorem mm_35 : mInfo 35 = some (yX2_hasRoom, cX2_hasRoom, 2, (some .boolean), 2, 2, 0) := rfl
set_option maxRecDepth 100000 in
theorem mc_36 : mInfC 36 = some (yX2_init, cX2_init, 1, none, 2, 1, 2) := rfl
set_option maxRecDepth 100000 in
theorem mm_36 : mInfo 36 = some (yX2_init, cX2_init, 1, none, 2, 1, 2) := rfl
set_option maxRecDepth 100000 in
theorem mc_37 : mInfC 37 = some (yX2_keptOf, cX2_keptOf, 3, (some .int), 2, 3, 0) := rfl
set_option maxRecDepth 100000 in
theorem mm_37 : mInfo 37 = some (yX2_keptOf, cX2_keptOf, 3, (some .int), 2, 3, 0) := rfl
set_option maxRecDepth 100000 in
theorem mc_38 : mInfC 38 = some (yX2_lambdaOf, cX2_lambdaOf, 2, (some .int), 2, 2, 0) := rfl
set_option maxRecDepth 100000 in
theorem mm_38 : mInfo 38 = some (yX2_lambdaOf, cX2_lambdaOf, 2, (some .int), 2, 2, 0) := rfl
set_option maxRecDepth 100000 in
theorem mc_39 : mInfC 39 = some (yX2_look, cX2_look, 2, (some .long), 2, 2, 0) := rfl
set_option maxRecDepth 100000 in
theorem mm_39 : mInfo 39 = some (yX2_look, cX2_look, 2, (some .long), 2, 2, 0) := rfl
set_option maxRecDepth 100000 in
theorem mc_40 : mInfC 40 = some (yX2_newBinding, cX2_newBinding, 4, (some .int), 2, 2, 0) := rfl
set_option maxRecDepth 100000 in
theorem mm_40 : mInfo 40 = some (yX2_newBinding, cX2_newBinding, 4, (some .int), 2, 2, 0) := rfl
set_option maxRecDepth 100000 in
theorem mc_41 : mInfC 41 = some (yX2_newPair, cX2_newPair, 6, (some .long), 2, 3, 0) := rfl
set_option maxRecDepth 100000 in
theorem mm_41 : mInfo 41 = some (yX2_newPair, cX2_newPair, 6, (some .long), 2, 3, 0) := rfl
set_option maxRecDepth 100000 in
theorem mc_42 : mInfC 42 = some (yX2_newProcedure, cX2_newProcedure, 4, (some .int), 2, 3, 0) := rfl
set_option maxRecDepth 100000 in
theorem mm_42 : mInfo 42 = some (yX2_newProcedure, cX2_newProcedure, 4, (some .int), 2, 3, 0) := rfl
set_option maxRecDepth 100000 in
theorem mc_43 : mInfC 43 = some (yX2_put, cX2_put, 4, none, 2, 3, 0) := rfl
set_option maxRecDepth 100000 in
theorem mm_43 : mInfo 43 = some (yX2_put, cX2_put, 4, none, 2, 3, 0) := rfl
set_option maxRecDepth 100000 in
theorem mc_44 : mInfC 44 = some (yX2_putKept, cX2_putKept, 4, none, 2, 4, 0) := rfl
set_option maxRecDepth 100000 in
theorem mm_44 : mInfo 44 = some (yX2_putKept, cX2_putKept, 4, none, 2, 4, 0) := rfl
set_option maxRecDepth 100000 in
theorem mc_45 : mInfC 45 = some (yX3_areIntegers, cX3_areIntegers, 4, (some .boolean), 3, 2, 1) := rfl
set_option maxRecDepth 100000 in
theorem mm_45 : mInfo 45 = some (yX3_areIntegers, cX3_areIntegers, 4, (some .boolean), 3, 2, 1) := rfl
set_option maxRecDepth 100000 in
theorem mc_46 : mInfC 46 = some (yX3_begin, cX3_begin, 2, none, 3, 2, 0) := rfl
set_option maxRecDepth 100000 in
theorem mm_46 : mInfo 46 = some (yX3_begin, cX3_begin, 2, none, 3, 2, 0) := rfl
set_option maxRecDepth 100000 in
theorem mc_47 : mInfC 47 = some (yX3_beginBinding, cX3_beginBinding, 4, none, 3, 3, 0) := rfl
set_option maxRecDepth 100000 in
theorem mm_47 : mInfo 47 = some (yX3_beginBinding, cX3_beginBinding, 4, none, 3, 3, 0) := rfl
set_option maxRecDepth 100000 in
theorem mc_48 : mInfC 48 = some (yX3_binding, cX3_binding, 5, (some .long), 3, 3, 0) := rfl
set_option maxRecDepth 100000 in
theorem mm_48 : mInfo 48 = some (yX3_binding, cX3_binding, 5, (some .long), 3, 3, 0) := rfl
set_option maxRecDepth 100000 in
theorem mc_49 : mInfC 49 = some (yX3_callIt, cX3_callIt, 5, none, 3, 3, 0) := rfl
set_option maxRecDepth 100000 in
theorem mm_49 : mInfo 49 = some (yX3_callIt, cX3_callIt, 5, none, 3, 3, 0) := rfl
set_option maxRecDepth 100000 in
theorem mc_50 : mInfC 50 = some (yX3_callPrimitive, cX3_callPrimitive, 11, none, 3, 4, 0) := rfl
set_option maxRecDepth 100000 in
theorem mm_50 : mInfo 50 = some (yX3_callPrimitive, cX3_callPrimitive, 11, none, 3, 4, 0) := rfl
set_option maxRecDepth 100000 in
theorem mc_51 : mInfC 51 = some (yX3_callProcedure, cX3_callProcedure, 5, none, 3, 4, 0) := rfl
set_option maxRecDepth 100000 in
theorem mm_51 : mInfo 51 = some (yX3_callProcedure, cX3_callProcedure, 5, none, 3, 4, 0) := rfl
set_option maxRecDepth 100000 in
theorem mc_52 : mInfC 52 = some (yX3_closeOver, cX3_closeOver, 7, none, 3, 2, 0) := rfl
set_option maxRecDepth 100000 in
theorem mm_52 : mInfo 52 = some (yX3_closeOver, cX3_closeOver, 7, none, 3, 2, 0) := rfl
set_option maxRecDepth 100000 in
theorem mc_53 : mInfC 53 = some (yX3_definedValue, cX3_definedValue, 4, (some .long), 3, 2, 0) := rfl
set_option maxRecDepth 100000 in
theorem mm_53 : mInfo 53 = some (yX3_definedValue, cX3_definedValue, 4, (some .long), 3, 2, 0) := rfl
set_option maxRecDepth 100000 in
theorem mc_54 : mInfC 54 = some (yX3_errorOf, cX3_errorOf, 6, (some .int), 3, 4, 0) := rfl
set_option maxRecDepth 100000 in
theorem mm_54 : mInfo 54 = some (yX3_errorOf, cX3_errorOf, 6, (some .int), 3, 4, 0) := rfl
set_option maxRecDepth 100000 in
theorem mc_55 : mInfC 55 = some (yX3_fail, cX3_fail, 2, none, 3, 2, 0) := rfl
set_option maxRecDepth 100000 in
theorem mm_55 : mInfo 55 = some (yX3_fail, cX3_fail, 2, none, 3, 2, 0) := rfl
set_option maxRecDepth 100000 in
theorem mc_56 : mInfC 56 = some (yX3_giveBack, cX3_giveBack, 3, none, 3, 1, 0) := rfl
set_option maxRecDepth 100000 in
theorem mm_56 : mInfo 56 = some (yX3_giveBack, cX3_giveBack, 3, none, 3, 1, 0) := rfl
set_option maxRecDepth 100000 in
theorem mc_57 : mInfC 57 = some (yX3_hold, cX3_hold, 2, none, 3, 2, 0) := rfl
set_option maxRecDepth 100000 in
theorem mm_57 : mInfo 57 = some (yX3_hold, cX3_hold, 2, none, 3, 2, 0) := rfl
set_option maxRecDepth 100000 in
theorem mc_58 : mInfC 58 = some (yX3_init, cX3_init, 2, none, 3, 2, 2) := rfl
set_option maxRecDepth 100000 in
theorem mm_58 : mInfo 58 = some (yX3_init, cX3_init, 2, none, 3, 2, 2) := rfl
set_option maxRecDepth 100000 in
theorem mc_59 : mInfC 59 = some (yX3_leaveBehind, cX3_leaveBehind, 5, none, 3, 3, 0) := rfl
set_option maxRecDepth 100000 in
theorem mm_59 : mInfo 59 = some (yX3_leaveBehind, cX3_leaveBehind, 5, none, 3, 3, 0) := rfl
set_option maxRecDepth 100000 in
theorem mc_60 : mInfC 60 = some (yX3_moveDown, cX3_moveDown, 4, none, 3, 2, 0) := rfl
set_option maxRecDepth 100000 in
theorem mm_60 : mInfo 60 = some (yX3_moveDown, cX3_moveDown, 4, none, 3, 2, 0) := rfl
set_option maxRecDepth 100000 in
theorem mc_61 : mInfC 61 = some (yX3_openCall, cX3_openCall, 2, none, 3, 2, 0) := rfl
set_option maxRecDepth 100000 in
theorem mm_61 : mInfo 61 = some (yX3_openCall, cX3_openCall, 2, none, 3, 2, 0) := rfl
set_option maxRecDepth 100000 in
theorem mc_62 : mInfC 62 = some (yX3_peek, cX3_peek, 2, (some .long), 3, 2, 0) := rfl
set_option maxRecDepth 100000 in
theorem mm_62 : mInfo 62 = some (yX3_peek, cX3_peek, 2, (some .long), 3, 2, 0) := rfl
set_option maxRecDepth 100000 in
theorem mc_63 : mInfC 63 = some (yX3_poke, cX3_poke, 4, none, 3, 3, 0) := rfl
set_option maxRecDepth 100000 in
theorem mm_63 : mInfo 63 = some (yX3_poke, cX3_poke, 4, none, 3, 3, 0) := rfl
set_option maxRecDepth 100000 in
theorem mc_64 : mInfC 64 = some (yX3_pop, cX3_pop, 1, (some .long), 3, 1, 0) := rfl
set_option maxRecDepth 100000 in
theorem mm_64 : mInfo 64 = some (yX3_pop, cX3_pop, 1, (some .long), 3, 1, 0) := rfl
set_option maxRecDepth 100000 in
theorem mc_65 : mInfC 65 = some (yX3_push, cX3_push, 3, none, 3, 2, 0) := rfl
set_option maxRecDepth 100000 in
theorem mm_65 : mInfo 65 = some (yX3_push, cX3_push, 3, none, 3, 2, 0) := rfl
set_option maxRecDepth 100000 in
theorem mc_66 : mInfC 66 = some (yX3_pushOrJump, cX3_pushOrJump, 3, none, 3, 3, 0) := rfl
set_option maxRecDepth 100000 in
theorem mm_66 : mInfo 66 = some (yX3_pushOrJump, cX3_pushOrJump, 3, none, 3, 3, 0) := rfl
set_option maxRecDepth 100000 in
theorem mc_67 : mInfC 67 = some (yX3_readVariable, cX3_readVariable, 5, none, 3, 3, 0) := rfl
set_option maxRecDepth 100000 in
theorem mm_67 : mInfo 67 = some (yX3_readVariable, cX3_readVariable, 5, none, 3, 3, 0) := rfl
set_option maxRecDepth 100000 in
theorem mc_68 : mInfC 68 = some (yX3_reckoned, cX3_reckoned, 3, (some .long), 3, 3, 1) := rfl
set_option maxRecDepth 100000 in
theorem mm_68 : mInfo 68 = some (yX3_reckoned, cX3_reckoned, 3, (some .long), 3, 3, 1) := rfl
set_option maxRecDepth 100000 in
theorem mc_69 : mInfC 69 = some (yX3_setGlobal, cX3_setGlobal, 4, none, 3, 3, 0) := rfl
set_option maxRecDepth 100000 in
theorem mm_69 : mInfo 69 = some (yX3_setGlobal, cX3_setGlobal, 4, none, 3, 3, 0) := rfl
set_option maxRecDepth 100000 in
theorem mc_70 : mInfC 70 = some (yX3_setSlot, cX3_setSlot, 6, none, 3, 3, 0) := rfl
set_option maxRecDepth 100000 in
theorem mm_70 : mInfo 70 = some (yX3_setSlot, cX3_setSlot, 6, none, 3, 3, 0) := rfl
set_option maxRecDepth 100000 in
theorem mc_71 : mInfC 71 = some (yX3_setVariable, cX3_setVariable, 7, none, 3, 3, 0) := rfl
set_option maxRecDepth 100000 in
theorem mm_71 : mInfo 71 = some (yX3_setVariable, cX3_setVariable, 7, none, 3, 3, 0) := rfl
set_option maxRecDepth 100000 in
theorem mc_72 : mInfC 72 = some (yX3_sharedAt, cX3_sharedAt, 5, (some .int), 3, 2, 0) := rfl
set_option maxRecDepth 100000 in
theorem mm_72 : mInfo 72 = some (yX3_sharedAt, cX3_sharedAt, 5, (some .int), 3, 2, 0) := rfl
set_option maxRecDepth 100000 in
theorem mc_73 : mInfC 73 = some (yX3_stopIf, cX3_stopIf, 3, none, 3, 3, 0) := rfl
set_option maxRecDepth 100000 in
theorem mm_73 : mInfo 73 = some (yX3_stopIf, cX3_stopIf, 3, none, 3, 3, 0) := rfl
set_option maxRecDepth 100000 in
theorem mc_74 : mInfC 74 = some (yX3_valueOf, cX3_valueOf, 7, (some .long), 3, 4, 0) := rfl
set_option maxRecDepth 100000 in
theorem mm_74 : mInfo 74 = some (yX3_valueOf, cX3_valueOf, 7, (some .long), 3, 4, 0) := rfl
set_option maxRecDepth 100000 in
theorem mc_75 : mInfC 75 = some (yX3_wantedByPrimitive, cX3_wantedByPrimitive, 1, (some .int), 3, 1, 1) := rfl
set_option maxRecDepth 100000 in
theorem mm_75 : mInfo 75 = some (yX3_wantedByPrimitive, cX3_wantedByPrimitive, 1, (some .int), 3, 1, 1) := rfl
set_option maxRecDepth 100000 in
theorem mc_76 : mInfC 76 = some (yX3_work, cX3_work, 5, none, 3, 2, 0) := rfl
set_option maxRecDepth 100000 in
theorem mm_76 : mInfo 76 = some (yX3_work, cX3_work, 5, none, 3, 2, 0) := rfl
set_option maxRecDepth 100000 in
theorem mc_77 : mInfC 77 = some (yX4_added, cX4_added, 2, (some .int), 4, 2, 0) := rfl
set_option maxRecDepth 100000 in
theorem mm_77 : mInfo 77 = some (yX4_added, cX4_added, 2, (some .int), 4, 2, 0) := rfl
set_option maxRecDepth 100000 in
theorem mc_78 : mInfC 78 = some (yX4_begin, cX4_begin, 3, none, 4, 2, 0) := rfl
set_option maxRecDepth 100000 in
theorem mm_78 : mInfo 78 = some (yX4_begin, cX4_begin, 3, none, 4, 2, 0) := rfl
set_option maxRecDepth 100000 in
theorem mc_79 : mInfC 79 = some (yX4_endName, cX4_endName, 4, (some .int), 4, 1, 0) := rfl
set_option maxRecDepth 100000 in
theorem mm_79 : mInfo 79 = some (yX4_endName, cX4_endName, 4, (some .int), 4, 1, 0) := rfl
set_option maxRecDepth 100000 in
theorem mc_80 : mInfC 80 = some (yX4_init, cX4_init, 1, none, 4, 1, 2) := rfl
set_option maxRecDepth 100000 in
theorem mm_80 : mInfo 80 = some (yX4_init, cX4_init, 1, none, 4, 1, 2) := rfl
set_option maxRecDepth 100000 in
theorem mc_81 : mInfC 81 = some (yX4_known, cX4_known, 1, (some .int), 4, 1, 0) := rfl
set_option maxRecDepth 100000 in
theorem mm_81 : mInfo 81 = some (yX4_known, cX4_known, 1, (some .int), 4, 1, 0) := rfl
set_option maxRecDepth 100000 in
theorem mc_82 : mInfC 82 = some (yX4_meet, cX4_meet, 2, none, 4, 2, 0) := rfl
set_option maxRecDepth 100000 in
theorem mm_82 : mInfo 82 = some (yX4_meet, cX4_meet, 2, none, 4, 2, 0) := rfl
set_option maxRecDepth 100000 in
theorem mc_83 : mInfC 83 = some (yX4_numberOf, cX4_numberOf, 2, (some .int), 4, 2, 0) := rfl
set_option maxRecDepth 100000 in
theorem mm_83 : mInfo 83 = some (yX4_numberOf, cX4_numberOf, 2, (some .int), 4, 2, 0) := rfl
set_option maxRecDepth 100000 in
theorem mc_84 : mInfC 84 = some (yX4_startName, cX4_startName, 1, none, 4, 1, 0) := rfl
set_option maxRecDepth 100000 in
theorem mm_84 : mInfo 84 = some (yX4_startName, cX4_startName, 1, none, 4, 1, 0) := rfl
set_option maxRecDepth 100000 in
theorem mc_85 : mInfC 85 = some (yX4_takeSign, cX4_takeSign, 2, none, 4, 2, 0) := rfl
set_option maxRecDepth 100000 in
theorem mm_85 : mInfo 85 = some (yX4_takeSign, cX4_takeSign, 2, none, 4, 2, 0) := rfl
set_option maxRecDepth 100000 in
theorem mc_86 : mInfC 86 = some (yX4_takeWords, cX4_takeWords, 4, none, 4, 2, 0) := rfl
set_option maxRecDepth 100000 in
theorem mm_86 : mInfo 86 = some (yX4_takeWords, cX4_takeWords, 4, none, 4, 2, 0) := rfl
set_option maxRecDepth 100000 in
theorem mc_87 : mInfC 87 = some (yX5_dropOutputs, cX5_dropOutputs, 2, (some .int), 5, 1, 0) := rfl
set_option maxRecDepth 100000 in
theorem mm_87 : mInfo 87 = some (yX5_dropOutputs, cX5_dropOutputs, 2, (some .int), 5, 1, 0) := rfl
set_option maxRecDepth 100000 in
theorem mc_88 : mInfC 88 = some (yX5_forgetAll, cX5_forgetAll, 1, none, 5, 1, 0) := rfl
set_option maxRecDepth 100000 in
theorem mm_88 : mInfo 88 = some (yX5_forgetAll, cX5_forgetAll, 1, none, 5, 1, 0) := rfl
set_option maxRecDepth 100000 in
theorem mc_89 : mInfC 89 = some (yX5_give, cX5_give, 2, none, 5, 2, 0) := rfl
set_option maxRecDepth 100000 in
theorem mm_89 : mInfo 89 = some (yX5_give, cX5_give, 2, none, 5, 2, 0) := rfl
set_option maxRecDepth 100000 in
theorem mc_90 : mInfC 90 = some (yX5_init, cX5_init, 1, none, 5, 1, 2) := rfl
set_option maxRecDepth 100000 in
theorem mm_90 : mInfo 90 = some (yX5_init, cX5_init, 1, none, 5, 1, 2) := rfl
set_option maxRecDepth 100000 in
theorem mc_91 : mInfC 91 = some (yX5_nextInput, cX5_nextInput, 2, (some .int), 5, 1, 0) := rfl
set_option maxRecDepth 100000 in
theorem mm_91 : mInfo 91 = some (yX5_nextInput, cX5_nextInput, 2, (some .int), 5, 1, 0) := rfl
set_option maxRecDepth 100000 in
theorem mc_92 : mInfC 92 = some (yX5_outputAt, cX5_outputAt, 2, (some .int), 5, 2, 0) := rfl
set_option maxRecDepth 100000 in
theorem mm_92 : mInfo 92 = some (yX5_outputAt, cX5_outputAt, 2, (some .int), 5, 2, 0) := rfl
set_option maxRecDepth 100000 in
theorem mc_93 : mInfC 93 = some (yX5_take, cX5_take, 2, (some .int), 5, 2, 0) := rfl
set_option maxRecDepth 100000 in
theorem mm_93 : mInfo 93 = some (yX5_take, cX5_take, 2, (some .int), 5, 2, 0) := rfl
set_option maxRecDepth 100000 in
theorem mc_94 : mInfC 94 = some (yX6_add, cX6_add, 3, (some .int), 6, 3, 0) := rfl
set_option maxRecDepth 100000 in
theorem mm_94 : mInfo 94 = some (yX6_add, cX6_add, 3, (some .int), 6, 3, 0) := rfl
set_option maxRecDepth 100000 in
theorem mc_95 : mInfC 95 = some (yX6_addLambda, cX6_addLambda, 2, (some .int), 6, 2, 0) := rfl
set_option maxRecDepth 100000 in
theorem mm_95 : mInfo 95 = some (yX6_addLambda, cX6_addLambda, 2, (some .int), 6, 2, 0) := rfl
set_option maxRecDepth 100000 in
theorem mc_96 : mInfC 96 = some (yX6_begin, cX6_begin, 3, none, 6, 2, 0) := rfl
set_option maxRecDepth 100000 in
theorem mm_96 : mInfo 96 = some (yX6_begin, cX6_begin, 3, none, 6, 2, 0) := rfl
set_option maxRecDepth 100000 in
theorem mc_97 : mInfC 97 = some (yX6_depthOf, cX6_depthOf, 2, (some .int), 6, 2, 0) := rfl
set_option maxRecDepth 100000 in
theorem mm_97 : mInfo 97 = some (yX6_depthOf, cX6_depthOf, 2, (some .int), 6, 2, 0) := rfl
set_option maxRecDepth 100000 in
theorem mc_98 : mInfC 98 = some (yX6_endLambda, cX6_endLambda, 6, none, 6, 5, 0) := rfl
set_option maxRecDepth 100000 in
theorem mm_98 : mInfo 98 = some (yX6_endLambda, cX6_endLambda, 6, none, 6, 5, 0) := rfl
set_option maxRecDepth 100000 in
theorem mc_99 : mInfC 99 = some (yX6_entryOf, cX6_entryOf, 2, (some .int), 6, 2, 0) := rfl
set_option maxRecDepth 100000 in
theorem mm_99 : mInfo 99 = some (yX6_entryOf, cX6_entryOf, 2, (some .int), 6, 2, 0) := rfl
set_option maxRecDepth 100000 in
theorem mc_100 : mInfC 100 = some (yX6_init, cX6_init, 1, none, 6, 1, 2) := rfl
set_option maxRecDepth 100000 in
theorem mm_100 : mInfo 100 = some (yX6_init, cX6_init, 1, none, 6, 1, 2) := rfl
set_option maxRecDepth 100000 in
theorem mc_101 : mInfC 101 = some (yX6_keptBy, cX6_keptBy, 2, (some .int), 6, 2, 0) := rfl
set_option maxRecDepth 100000 in
theorem mm_101 : mInfo 101 = some (yX6_keptBy, cX6_keptBy, 2, (some .int), 6, 2, 0) := rfl
set_option maxRecDepth 100000 in
theorem mc_102 : mInfC 102 = some (yX6_landHere, cX6_landHere, 3, (some .int), 6, 2, 0) := rfl
set_option maxRecDepth 100000 in
theorem mm_102 : mInfo 102 = some (yX6_landHere, cX6_landHere, 3, (some .int), 6, 2, 0) := rfl
set_option maxRecDepth 100000 in
theorem mc_103 : mInfC 103 = some (yX6_operandAt, cX6_operandAt, 2, (some .int), 6, 2, 0) := rfl
set_option maxRecDepth 100000 in
theorem mm_103 : mInfo 103 = some (yX6_operandAt, cX6_operandAt, 2, (some .int), 6, 2, 0) := rfl
set_option maxRecDepth 100000 in
theorem mc_104 : mInfC 104 = some (yX6_operationAt, cX6_operationAt, 2, (some .int), 6, 2, 0) := rfl
set_option maxRecDepth 100000 in
theorem mm_104 : mInfo 104 = some (yX6_operationAt, cX6_operationAt, 2, (some .int), 6, 2, 0) := rfl
set_option maxRecDepth 100000 in
theorem mc_105 : mInfC 105 = some (yX6_putDatum, cX6_putDatum, 4, none, 6, 3, 0) := rfl
set_option maxRecDepth 100000 in
theorem mm_105 : mInfo 105 = some (yX6_putDatum, cX6_putDatum, 4, none, 6, 3, 0) := rfl
set_option maxRecDepth 100000 in
theorem mc_106 : mInfC 106 = some (yX6_reserve, cX6_reserve, 3, (some .int), 6, 2, 0) := rfl
set_option maxRecDepth 100000 in
theorem mm_106 : mInfo 106 = some (yX6_reserve, cX6_reserve, 3, (some .int), 6, 2, 0) := rfl
set_option maxRecDepth 100000 in
theorem mc_107 : mInfC 107 = some (yX6_sourceOf, cX6_sourceOf, 4, (some .int), 6, 3, 0) := rfl
set_option maxRecDepth 100000 in
theorem mm_107 : mInfo 107 = some (yX6_sourceOf, cX6_sourceOf, 4, (some .int), 6, 3, 0) := rfl
set_option maxRecDepth 100000 in
theorem mc_108 : mInfC 108 = some (yX6_wantedBy, cX6_wantedBy, 2, (some .int), 6, 2, 0) := rfl
set_option maxRecDepth 100000 in
theorem mm_108 : mInfo 108 = some (yX6_wantedBy, cX6_wantedBy, 2, (some .int), 6, 2, 0) := rfl
set_option maxRecDepth 100000 in
theorem mc_109 : mInfC 109 = some (yX7_addPart, cX7_addPart, 4, none, 7, 2, 0) := rfl
set_option maxRecDepth 100000 in
theorem mm_109 : mInfo 109 = some (yX7_addPart, cX7_addPart, 4, none, 7, 2, 0) := rfl
set_option maxRecDepth 100000 in
theorem mc_110 : mInfC 110 = some (yX7_beginNodes, cX7_beginNodes, 2, none, 7, 1, 0) := rfl
set_option maxRecDepth 100000 in
theorem mm_110 : mInfo 110 = some (yX7_beginNodes, cX7_beginNodes, 2, none, 7, 1, 0) := rfl
set_option maxRecDepth 100000 in
theorem mc_111 : mInfC 111 = some (yX7_behindLine, cX7_behindLine, 3, (some .int), 7, 2, 0) := rfl
set_option maxRecDepth 100000 in
theorem mm_111 : mInfo 111 = some (yX7_behindLine, cX7_behindLine, 3, (some .int), 7, 2, 0) := rfl
set_option maxRecDepth 100000 in
theorem mc_112 : mInfC 112 = some (yX7_behindToken, cX7_behindToken, 4, (some .int), 7, 2, 0) := rfl
set_option maxRecDepth 100000 in
theorem mm_112 : mInfo 112 = some (yX7_behindToken, cX7_behindToken, 4, (some .int), 7, 2, 0) := rfl
set_option maxRecDepth 100000 in
theorem mc_113 : mInfC 113 = some (yX7_behindWord, cX7_behindWord, 3, (some .int), 7, 2, 0) := rfl
set_option maxRecDepth 100000 in
theorem mm_113 : mInfo 113 = some (yX7_behindWord, cX7_behindWord, 3, (some .int), 7, 2, 0) := rfl
set_option maxRecDepth 100000 in
theorem mc_114 : mInfC 114 = some (yX7_closeQuotes, cX7_closeQuotes, 2, none, 7, 1, 0) := rfl
set_option maxRecDepth 100000 in
theorem mm_114 : mInfo 114 = some (yX7_closeQuotes, cX7_closeQuotes, 2, none, 7, 1, 0) := rfl
set_option maxRecDepth 100000 in
theorem mc_115 : mInfC 115 = some (yX7_contentOf, cX7_contentOf, 2, (some .int), 7, 2, 0) := rfl
set_option maxRecDepth 100000 in
theorem mm_115 : mInfo 115 = some (yX7_contentOf, cX7_contentOf, 2, (some .int), 7, 2, 0) := rfl
set_option maxRecDepth 100000 in
theorem mc_116 : mInfC 116 = some (yX7_firstOf, cX7_firstOf, 2, (some .int), 7, 2, 0) := rfl
set_option maxRecDepth 100000 in
theorem mm_116 : mInfo 116 = some (yX7_firstOf, cX7_firstOf, 2, (some .int), 7, 2, 0) := rfl
set_option maxRecDepth 100000 in
theorem mc_117 : mInfC 117 = some (yX7_init, cX7_init, 2, none, 7, 2, 2) := rfl
set_option maxRecDepth 100000 in
theorem mm_117 : mInfo 117 = some (yX7_init, cX7_init, 2, none, 7, 2, 2) := rfl
set_option maxRecDepth 100000 in
theorem mc_118 : mInfC 118 = some (yX7_isDigit, cX7_isDigit, 1, (some .boolean), 7, 1, 1) := rfl
set_option maxRecDepth 100000 in
theorem mm_118 : mInfo 118 = some (yX7_isDigit, cX7_isDigit, 1, (some .boolean), 7, 1, 1) := rfl
set_option maxRecDepth 100000 in
theorem mc_119 : mInfC 119 = some (yX7_isList, cX7_isList, 2, (some .boolean), 7, 2, 0) := rfl
set_option maxRecDepth 100000 in
theorem mm_119 : mInfo 119 = some (yX7_isList, cX7_isList, 2, (some .boolean), 7, 2, 0) := rfl
set_option maxRecDepth 100000 in
theorem mc_120 : mInfC 120 = some (yX7_isName, cX7_isName, 2, (some .boolean), 7, 2, 0) := rfl
set_option maxRecDepth 100000 in
theorem mm_120 : mInfo 120 = some (yX7_isName, cX7_isName, 2, (some .boolean), 7, 2, 0) := rfl
set_option maxRecDepth 100000 in
theorem mc_121 : mInfC 121 = some (yX7_isWordSign, cX7_isWordSign, 1, (some .boolean), 7, 1, 1) := rfl
set_option maxRecDepth 100000 in
theorem mm_121 : mInfo 121 = some (yX7_isWordSign, cX7_isWordSign, 1, (some .boolean), 7, 1, 1) := rfl
set_option maxRecDepth 100000 in
theorem mc_122 : mInfC 122 = some (yX7_kindOf, cX7_kindOf, 2, (some .int), 7, 2, 0) := rfl
set_option maxRecDepth 100000 in
theorem mm_122 : mInfo 122 = some (yX7_kindOf, cX7_kindOf, 2, (some .int), 7, 2, 0) := rfl
set_option maxRecDepth 100000 in
theorem mc_123 : mInfC 123 = some (yX7_nameFrom, cX7_nameFrom, 4, (some .int), 7, 3, 0) := rfl
set_option maxRecDepth 100000 in
theorem mm_123 : mInfo 123 = some (yX7_nameFrom, cX7_nameFrom, 4, (some .int), 7, 3, 0) := rfl
set_option maxRecDepth 100000 in
theorem mc_124 : mInfC 124 = some (yX7_newNode, cX7_newNode, 4, (some .int), 7, 4, 0) := rfl
set_option maxRecDepth 100000 in
theorem mm_124 : mInfo 124 = some (yX7_newNode, cX7_newNode, 4, (some .int), 7, 4, 0) := rfl
set_option maxRecDepth 100000 in
theorem mc_125 : mInfC 125 = some (yX7_nextOf, cX7_nextOf, 2, (some .int), 7, 2, 0) := rfl
set_option maxRecDepth 100000 in
theorem mm_125 : mInfo 125 = some (yX7_nextOf, cX7_nextOf, 2, (some .int), 7, 2, 0) := rfl
set_option maxRecDepth 100000 in
theorem mc_126 : mInfC 126 = some (yX7_openList, cX7_openList, 4, (some .boolean), 7, 3, 0) := rfl
set_option maxRecDepth 100000 in
theorem mm_126 : mInfo 126 = some (yX7_openList, cX7_openList, 4, (some .boolean), 7, 3, 0) := rfl
set_option maxRecDepth 100000 in
theorem mc_127 : mInfC 127 = some (yX7_openQuote, cX7_openQuote, 2, none, 7, 2, 0) := rfl
set_option maxRecDepth 100000 in
theorem mm_127 : mInfo 127 = some (yX7_openQuote, cX7_openQuote, 2, none, 7, 2, 0) := rfl
set_option maxRecDepth 100000 in
theorem mc_128 : mInfC 128 = some (yX7_partsOf, cX7_partsOf, 2, (some .int), 7, 2, 0) := rfl
set_option maxRecDepth 100000 in
theorem mm_128 : mInfo 128 = some (yX7_partsOf, cX7_partsOf, 2, (some .int), 7, 2, 0) := rfl
set_option maxRecDepth 100000 in
theorem mc_129 : mInfC 129 = some (yX7_placeOf, cX7_placeOf, 2, (some .int), 7, 2, 0) := rfl
set_option maxRecDepth 100000 in
theorem mm_129 : mInfo 129 = some (yX7_placeOf, cX7_placeOf, 2, (some .int), 7, 2, 0) := rfl
set_option maxRecDepth 100000 in
theorem mc_130 : mInfC 130 = some (yX7_readText, cX7_readText, 5, none, 7, 3, 0) := rfl
set_option maxRecDepth 100000 in
theorem mm_130 : mInfo 130 = some (yX7_readText, cX7_readText, 5, none, 7, 3, 0) := rfl
set_option maxRecDepth 100000 in
theorem mc_131 : mInfC 131 = some (yX7_secondOf, cX7_secondOf, 2, (some .int), 7, 2, 0) := rfl
set_option maxRecDepth 100000 in
theorem mm_131 : mInfo 131 = some (yX7_secondOf, cX7_secondOf, 2, (some .int), 7, 2, 0) := rfl
set_option maxRecDepth 100000 in
theorem mc_132 : mInfC 132 = some (yX7_signAt, cX7_signAt, 2, (some .int), 7, 2, 0) := rfl
set_option maxRecDepth 100000 in
theorem mm_132 : mInfo 132 = some (yX7_signAt, cX7_signAt, 2, (some .int), 7, 2, 0) := rfl
set_option maxRecDepth 100000 in
theorem mc_133 : mInfC 133 = some (yX7_size, cX7_size, 1, (some .int), 7, 1, 0) := rfl
set_option maxRecDepth 100000 in
theorem mm_133 : mInfo 133 = some (yX7_size, cX7_size, 1, (some .int), 7, 1, 0) := rfl
set_option maxRecDepth 100000 in
theorem mc_134 : mInfC 134 = some (yX7_takeDatum, cX7_takeDatum, 4, none, 7, 4, 0) := rfl
set_option maxRecDepth 100000 in
theorem mm_134 : mInfo 134 = some (yX7_takeDatum, cX7_takeDatum, 4, none, 7, 4, 0) := rfl
set_option maxRecDepth 100000 in
theorem mc_135 : mInfC 135 = some (yX7_takeInteger, cX7_takeInteger, 8, none, 7, 3, 0) := rfl
set_option maxRecDepth 100000 in
theorem mm_135 : mInfo 135 = some (yX7_takeInteger, cX7_takeInteger, 8, none, 7, 3, 0) := rfl
set_option maxRecDepth 100000 in
theorem mc_136 : mInfC 136 = some (yX7_takeTruth, cX7_takeTruth, 4, none, 7, 3, 0) := rfl
set_option maxRecDepth 100000 in
theorem mm_136 : mInfo 136 = some (yX7_takeTruth, cX7_takeTruth, 4, none, 7, 3, 0) := rfl
set_option maxRecDepth 100000 in
theorem mc_137 : mInfC 137 = some (yX7_takeWord, cX7_takeWord, 5, none, 7, 3, 0) := rfl
set_option maxRecDepth 100000 in
theorem mm_137 : mInfo 137 = some (yX7_takeWord, cX7_takeWord, 5, none, 7, 3, 0) := rfl
set_option maxRecDepth 100000 in
theorem mc_138 : mInfC 138 = some (yX7_wordOf, cX7_wordOf, 3, (some .int), 7, 2, 0) := rfl
set_option maxRecDepth 100000 in
theorem mm_138 : mInfo 138 = some (yX7_wordOf, cX7_wordOf, 3, (some .int), 7, 2, 0) := rfl
set_option maxRecDepth 100000 in
theorem mc_139 : mInfC 139 = some (yX8_withRoom, cX8_withRoom, 2, (some (.array .int)), 8, 2, 1) := rfl
set_option maxRecDepth 100000 in
theorem mm_139 : mInfo 139 = some (yX8_withRoom, cX8_withRoom, 2, (some (.array .int)), 8, 2, 1) := rfl
set_option maxRecDepth 100000 in
theorem mc_140 : mInfC 140 = some (yX8_withRoom_, cX8_withRoom_, 2, (some (.array .long)), 8, 2, 1) := rfl
set_option maxRecDepth 100000 in
theorem mm_140 : mInfo 140 = some (yX8_withRoom_, cX8_withRoom_, 2, (some (.array .long)), 8, 2, 1) := rfl
set_option maxRecDepth 100000 in
theorem mc_141 : mInfC 141 = some (yX9_bind, cX9_bind, 3, none, 9, 3, 0) := rfl
set_option maxRecDepth 100000 in
theorem mm_141 : mInfo 141 = some (yX9_bind, cX9_bind, 3, none, 9, 3, 0) := rfl
set_option maxRecDepth 100000 in
theorem mc_142 : mInfC 142 = some (yX9_bindings, cX9_bindings, 1, (some .int), 9, 1, 0) := rfl
set_option maxRecDepth 100000 in
theorem mm_142 : mInfo 142 = some (yX9_bindings, cX9_bindings, 1, (some .int), 9, 1, 0) := rfl
set_option maxRecDepth 100000 in
theorem mc_143 : mInfC 143 = some (yX9_enterBody, cX9_enterBody, 2, none, 9, 1, 0) := rfl
set_option maxRecDepth 100000 in
theorem mm_143 : mInfo 143 = some (yX9_enterBody, cX9_enterBody, 2, none, 9, 1, 0) := rfl
set_option maxRecDepth 100000 in
theorem mc_144 : mInfC 144 = some (yX9_find, cX9_find, 3, (some .int), 9, 2, 0) := rfl
set_option maxRecDepth 100000 in
theorem mm_144 : mInfo 144 = some (yX9_find, cX9_find, 3, (some .int), 9, 2, 0) := rfl
set_option maxRecDepth 100000 in
theorem mc_145 : mInfC 145 = some (yX9_forgetAll, cX9_forgetAll, 1, none, 9, 1, 0) := rfl
set_option maxRecDepth 100000 in
theorem mm_145 : mInfo 145 = some (yX9_forgetAll, cX9_forgetAll, 1, none, 9, 1, 0) := rfl
set_option maxRecDepth 100000 in
theorem mc_146 : mInfC 146 = some (yX9_init, cX9_init, 1, none, 9, 1, 2) := rfl
set_option maxRecDepth 100000 in
theorem mm_146 : mInfo 146 = some (yX9_init, cX9_init, 1, none, 9, 1, 2) := rfl
set_option maxRecDepth 100000 in
theorem mc_147 : mInfC 147 = some (yX9_isOwn, cX9_isOwn, 2, (some .boolean), 9, 2, 0) := rfl
set_option maxRecDepth 100000 in
theorem mm_147 : mInfo 147 = some (yX9_isOwn, cX9_isOwn, 2, (some .boolean), 9, 2, 0) := rfl
set_option maxRecDepth 100000 in
theorem mc_148 : mInfC 148 = some (yX9_keep, cX9_keep, 4, (some .int), 9, 2, 0) := rfl
set_option maxRecDepth 100000 in
theorem mm_148 : mInfo 148 = some (yX9_keep, cX9_keep, 4, (some .int), 9, 2, 0) := rfl
set_option maxRecDepth 100000 in
theorem mc_149 : mInfC 149 = some (yX9_kept, cX9_kept, 1, (some .int), 9, 1, 0) := rfl
set_option maxRecDepth 100000 in
theorem mm_149 : mInfo 149 = some (yX9_kept, cX9_kept, 1, (some .int), 9, 1, 0) := rfl
set_option maxRecDepth 100000 in
theorem mc_150 : mInfC 150 = some (yX9_keptPlace, cX9_keptPlace, 6, (some .int), 9, 3, 0) := rfl
set_option maxRecDepth 100000 in
theorem mm_150 : mInfo 150 = some (yX9_keptPlace, cX9_keptPlace, 6, (some .int), 9, 3, 0) := rfl
set_option maxRecDepth 100000 in
theorem mc_151 : mInfC 151 = some (yX9_leaveBody, cX9_leaveBody, 1, none, 9, 1, 0) := rfl
set_option maxRecDepth 100000 in
theorem mm_151 : mInfo 151 = some (yX9_leaveBody, cX9_leaveBody, 1, none, 9, 1, 0) := rfl
set_option maxRecDepth 100000 in
theorem mc_152 : mInfC 152 = some (yX9_slotOf, cX9_slotOf, 2, (some .int), 9, 2, 0) := rfl
set_option maxRecDepth 100000 in
theorem mm_152 : mInfo 152 = some (yX9_slotOf, cX9_slotOf, 2, (some .int), 9, 2, 0) := rfl
set_option maxRecDepth 100000 in
theorem mc_153 : mInfC 153 = some (yX9_sourceOf, cX9_sourceOf, 4, (some .int), 9, 2, 0) := rfl
set_option maxRecDepth 100000 in
theorem mm_153 : mInfo 153 = some (yX9_sourceOf, cX9_sourceOf, 4, (some .int), 9, 2, 0) := rfl
set_option maxRecDepth 100000 in
theorem mc_154 : mInfC 154 = some (yX9_unbindTo, cX9_unbindTo, 2, none, 9, 2, 0) := rfl
set_option maxRecDepth 100000 in
theorem mm_154 : mInfo 154 = some (yX9_unbindTo, cX9_unbindTo, 2, none, 9, 2, 0) := rfl
set_option maxRecDepth 100000 in
theorem mc_155 : mInfC 155 = some (yX10_contentOf, cX10_contentOf, 2, (some .int), 10, 1, 1) := rfl
set_option maxRecDepth 100000 in
theorem mm_155 : mInfo 155 = some (yX10_contentOf, cX10_contentOf, 2, (some .int), 10, 1, 1) := rfl
set_option maxRecDepth 100000 in
theorem mc_156 : mInfC 156 = some (yX10_kindOf, cX10_kindOf, 2, (some .int), 10, 1, 1) := rfl
set_option maxRecDepth 100000 in
theorem mm_156 : mInfo 156 = some (yX10_kindOf, cX10_kindOf, 2, (some .int), 10, 1, 1) := rfl
set_option maxRecDepth 100000 in
theorem mc_157 : mInfC 157 = some (yX10_of, cX10_of, 2, (some .long), 10, 2, 1) := rfl
set_option maxRecDepth 100000 in
theorem mm_157 : mInfo 157 = some (yX10_of, cX10_of, 2, (some .long), 10, 2, 1) := rfl
set_option maxRecDepth 100000 in
theorem mc_158 : mInfC 158 = some (yX10_truth, cX10_truth, 1, (some .long), 10, 1, 1) := rfl
set_option maxRecDepth 100000 in
theorem mm_158 : mInfo 158 = some (yX10_truth, cX10_truth, 1, (some .long), 10, 1, 1) := rfl
set_option maxRecDepth 100000 in
theorem mc_159 : mInfC 159 = some (yX11_at, cX11_at, 2, (some .int), 11, 2, 0) := rfl
set_option maxRecDepth 100000 in
theorem mm_159 : mInfo 159 = some (yX11_at, cX11_at, 2, (some .int), 11, 2, 0) := rfl
set_option maxRecDepth 100000 in
theorem mc_160 : mInfC 160 = some (yX11_beginAnew, cX11_beginAnew, 1, none, 11, 1, 0) := rfl
set_option maxRecDepth 100000 in
theorem mm_160 : mInfo 160 = some (yX11_beginAnew, cX11_beginAnew, 1, none, 11, 1, 0) := rfl
set_option maxRecDepth 100000 in
theorem mc_161 : mInfC 161 = some (yX11_build, cX11_build, 3, (some .int), 11, 2, 0) := rfl
set_option maxRecDepth 100000 in
theorem mm_161 : mInfo 161 = some (yX11_build, cX11_build, 3, (some .int), 11, 2, 0) := rfl
set_option maxRecDepth 100000 in
theorem mc_162 : mInfC 162 = some (yX11_clear, cX11_clear, 1, (some .int), 11, 1, 0) := rfl
set_option maxRecDepth 100000 in
theorem mm_162 : mInfo 162 = some (yX11_clear, cX11_clear, 1, (some .int), 11, 1, 0) := rfl
set_option maxRecDepth 100000 in
theorem mc_163 : mInfC 163 = some (yX11_count, cX11_count, 2, (some .int), 11, 2, 0) := rfl
set_option maxRecDepth 100000 in
theorem mm_163 : mInfo 163 = some (yX11_count, cX11_count, 2, (some .int), 11, 2, 0) := rfl
set_option maxRecDepth 100000 in
theorem mc_164 : mInfC 164 = some (yX11_fault, cX11_fault, 2, (some .int), 11, 2, 0) := rfl
set_option maxRecDepth 100000 in
theorem mm_164 : mInfo 164 = some (yX11_fault, cX11_fault, 2, (some .int), 11, 2, 0) := rfl
set_option maxRecDepth 100000 in
theorem mc_165 : mInfC 165 = some (yX11_feed, cX11_feed, 6, (some .int), 11, 6, 0) := rfl
set_option maxRecDepth 100000 in
theorem mm_165 : mInfo 165 = some (yX11_feed, cX11_feed, 6, (some .int), 11, 6, 0) := rfl
set_option maxRecDepth 100000 in
theorem mc_166 : mInfC 166 = some (yX11_global, cX11_global, 2, (some .boolean), 11, 2, 0) := rfl
set_option maxRecDepth 100000 in
theorem mm_166 : mInfo 166 = some (yX11_global, cX11_global, 2, (some .boolean), 11, 2, 0) := rfl
set_option maxRecDepth 100000 in
theorem mc_167 : mInfC 167 = some (yX11_go, cX11_go, 2, (some .boolean), 11, 2, 0) := rfl
set_option maxRecDepth 100000 in
theorem mm_167 : mInfo 167 = some (yX11_go, cX11_go, 2, (some .boolean), 11, 2, 0) := rfl
set_option maxRecDepth 100000 in
theorem mc_168 : mInfC 168 = some (yX11_init, cX11_init, 1, none, 11, 1, 2) := rfl
set_option maxRecDepth 100000 in
theorem mm_168 : mInfo 168 = some (yX11_init, cX11_init, 1, none, 11, 1, 2) := rfl
set_option maxRecDepth 100000 in
theorem mc_169 : mInfC 169 = some (yX11_input, cX11_input, 2, (some .int), 11, 2, 0) := rfl
set_option maxRecDepth 100000 in
theorem mm_169 : mInfo 169 = some (yX11_input, cX11_input, 2, (some .int), 11, 2, 0) := rfl
set_option maxRecDepth 100000 in
theorem mc_170 : mInfC 170 = some (yX11_mark, cX11_mark, 2, (some .boolean), 11, 2, 0) := rfl
set_option maxRecDepth 100000 in
theorem mm_170 : mInfo 170 = some (yX11_mark, cX11_mark, 2, (some .boolean), 11, 2, 0) := rfl
set_option maxRecDepth 100000 in
theorem mc_171 : mInfC 171 = some (yX11_numberAtPointer, cX11_numberAtPointer, 2, (some .int), 11, 1, 0) := rfl
set_option maxRecDepth 100000 in
theorem mm_171 : mInfo 171 = some (yX11_numberAtPointer, cX11_numberAtPointer, 2, (some .int), 11, 1, 0) := rfl
set_option maxRecDepth 100000 in
theorem mc_172 : mInfC 172 = some (yX11_output, cX11_output, 2, (some .int), 11, 2, 0) := rfl
set_option maxRecDepth 100000 in
theorem mm_172 : mInfo 172 = some (yX11_output, cX11_output, 2, (some .int), 11, 2, 0) := rfl
set_option maxRecDepth 100000 in
theorem mc_173 : mInfC 173 = some (yX11_putOnTape, cX11_putOnTape, 3, none, 11, 2, 0) := rfl
set_option maxRecDepth 100000 in
theorem mm_173 : mInfo 173 = some (yX11_putOnTape, cX11_putOnTape, 3, none, 11, 2, 0) := rfl
set_option maxRecDepth 100000 in
theorem mc_174 : mInfC 174 = some (yX11_restart, cX11_restart, 1, (some .boolean), 11, 1, 0) := rfl
set_option maxRecDepth 100000 in
theorem mm_174 : mInfo 174 = some (yX11_restart, cX11_restart, 1, (some .boolean), 11, 1, 0) := rfl
set_option maxRecDepth 100000 in
theorem mc_175 : mInfC 175 = some (yX11_run, cX11_run, 2, (some .int), 11, 2, 0) := rfl
set_option maxRecDepth 100000 in
theorem mm_175 : mInfo 175 = some (yX11_run, cX11_run, 2, (some .int), 11, 2, 0) := rfl
set_option maxRecDepth 100000 in
theorem mc_176 : mInfC 176 = some (yX11_same, cX11_same, 2, (some .boolean), 11, 2, 0) := rfl
set_option maxRecDepth 100000 in
theorem mm_176 : mInfo 176 = some (yX11_same, cX11_same, 2, (some .boolean), 11, 2, 0) := rfl
set_option maxRecDepth 100000 in
theorem mc_177 : mInfC 177 = some (yX12_clear, cX12_clear, 1, none, 12, 1, 0) := rfl
set_option maxRecDepth 100000 in
theorem mm_177 : mInfo 177 = some (yX12_clear, cX12_clear, 1, none, 12, 1, 0) := rfl
set_option maxRecDepth 100000 in
theorem mc_178 : mInfC 178 = some (yX12_init, cX12_init, 1, none, 12, 1, 2) := rfl
set_option maxRecDepth 100000 in
theorem mm_178 : mInfo 178 = some (yX12_init, cX12_init, 1, none, 12, 1, 2) := rfl
set_option maxRecDepth 100000 in
theorem mc_179 : mInfC 179 = some (yX13_analyses, cX13_analyses, 3, none, 13, 1, 0) := rfl
set_option maxRecDepth 100000 in
theorem mm_179 : mInfo 179 = some (yX13_analyses, cX13_analyses, 3, none, 13, 1, 0) := rfl
set_option maxRecDepth 100000 in
theorem mc_180 : mInfC 180 = some (yX13_applies, cX13_applies, 5, none, 13, 2, 0) := rfl
set_option maxRecDepth 100000 in
theorem mm_180 : mInfo 180 = some (yX13_applies, cX13_applies, 5, none, 13, 2, 0) := rfl
set_option maxRecDepth 100000 in
theorem mc_181 : mInfC 181 = some (yX13_areIntegers, cX13_areIntegers, 5, (some .boolean), 13, 3, 0) := rfl
set_option maxRecDepth 100000 in
theorem mm_181 : mInfo 181 = some (yX13_areIntegers, cX13_areIntegers, 5, (some .boolean), 13, 3, 0) := rfl
set_option maxRecDepth 100000 in
theorem mc_182 : mInfC 182 = some (yX13_areNames, cX13_areNames, 3, (some .boolean), 13, 2, 0) := rfl
set_option maxRecDepth 100000 in
theorem mm_182 : mInfo 182 = some (yX13_areNames, cX13_areNames, 3, (some .boolean), 13, 2, 0) := rfl
set_option maxRecDepth 100000 in
theorem mc_183 : mInfC 183 = some (yX13_arePairs, cX13_arePairs, 3, (some .boolean), 13, 2, 0) := rfl
set_option maxRecDepth 100000 in
theorem mm_183 : mInfo 183 = some (yX13_arePairs, cX13_arePairs, 3, (some .boolean), 13, 2, 0) := rfl
set_option maxRecDepth 100000 in
theorem mc_184 : mInfC 184 = some (yX13_at, cX13_at, 2, (some .int), 13, 2, 0) := rfl
set_option maxRecDepth 100000 in
theorem mm_184 : mInfo 184 = some (yX13_at, cX13_at, 2, (some .int), 13, 2, 0) := rfl
set_option maxRecDepth 100000 in
theorem mc_185 : mInfC 185 = some (yX13_bad, cX13_bad, 2, (some (.object "java/lang/IllegalStateException")), 13, 2, 0) := rfl
set_option maxRecDepth 100000 in
theorem mm_185 : mInfo 185 = some (yX13_bad, cX13_bad, 2, (some (.object "java/lang/IllegalStateException")), 13, 2, 0) := rfl
set_option maxRecDepth 100000 in
theorem mc_186 : mInfC 186 = some (yX13_begins, cX13_begins, 2, none, 13, 1, 0) := rfl
set_option maxRecDepth 100000 in
theorem mm_186 : mInfo 186 = some (yX13_begins, cX13_begins, 2, none, 13, 1, 0) := rfl
set_option maxRecDepth 100000 in
theorem mc_187 : mInfC 187 = some (yX13_binds, cX13_binds, 6, none, 13, 3, 0) := rfl
set_option maxRecDepth 100000 in
theorem mm_187 : mInfo 187 = some (yX13_binds, cX13_binds, 6, none, 13, 3, 0) := rfl
set_option maxRecDepth 100000 in
theorem mc_188 : mInfC 188 = some (yX13_bindsPair, cX13_bindsPair, 7, none, 13, 3, 0) := rfl
set_option maxRecDepth 100000 in
theorem mm_188 : mInfo 188 = some (yX13_bindsPair, cX13_bindsPair, 7, none, 13, 3, 0) := rfl
set_option maxRecDepth 100000 in
theorem mc_189 : mInfC 189 = some (yX13_blanks, cX13_blanks, 3, (some .int), 13, 2, 0) := rfl
set_option maxRecDepth 100000 in
theorem mm_189 : mInfo 189 = some (yX13_blanks, cX13_blanks, 3, (some .int), 13, 2, 0) := rfl
set_option maxRecDepth 100000 in
theorem mc_190 : mInfC 190 = some (yX13_body, cX13_body, 3, none, 13, 2, 0) := rfl
set_option maxRecDepth 100000 in
theorem mm_190 : mInfo 190 = some (yX13_body, cX13_body, 3, none, 13, 2, 0) := rfl
set_option maxRecDepth 100000 in
theorem mc_191 : mInfC 191 = some (yX13_boxOf, cX13_boxOf, 2, (some .int), 13, 2, 0) := rfl
set_option maxRecDepth 100000 in
theorem mm_191 : mInfo 191 = some (yX13_boxOf, cX13_boxOf, 2, (some .int), 13, 2, 0) := rfl
set_option maxRecDepth 100000 in
theorem mc_192 : mInfC 192 = some (yX13_calls, cX13_calls, 7, none, 13, 4, 0) := rfl
set_option maxRecDepth 100000 in
theorem mm_192 : mInfo 192 = some (yX13_calls, cX13_calls, 7, none, 13, 4, 0) := rfl
set_option maxRecDepth 100000 in
theorem mc_193 : mInfC 193 = some (yX13_choices, cX13_choices, 3, none, 13, 3, 0) := rfl
set_option maxRecDepth 100000 in
theorem mm_193 : mInfo 193 = some (yX13_choices, cX13_choices, 3, none, 13, 3, 0) := rfl
set_option maxRecDepth 100000 in
theorem mc_194 : mInfC 194 = some (yX13_clear, cX13_clear, 2, (some .int), 13, 1, 0) := rfl
set_option maxRecDepth 100000 in
theorem mm_194 : mInfo 194 = some (yX13_clear, cX13_clear, 2, (some .int), 13, 1, 0) := rfl
set_option maxRecDepth 100000 in
theorem mc_195 : mInfC 195 = some (yX13_closes, cX13_closes, 7, none, 13, 2, 0) := rfl
set_option maxRecDepth 100000 in
theorem mm_195 : mInfo 195 = some (yX13_closes, cX13_closes, 7, none, 13, 2, 0) := rfl
set_option maxRecDepth 100000 in
theorem mc_196 : mInfC 196 = some (yX13_collects, cX13_collects, 3, none, 13, 1, 0) := rfl
set_option maxRecDepth 100000 in
theorem mm_196 : mInfo 196 = some (yX13_collects, cX13_collects, 3, none, 13, 1, 0) := rfl
set_option maxRecDepth 100000 in
theorem mc_197 : mInfC 197 = some (yX13_count, cX13_count, 2, (some .int), 13, 2, 0) := rfl
set_option maxRecDepth 100000 in
theorem mm_197 : mInfo 197 = some (yX13_count, cX13_count, 2, (some .int), 13, 2, 0) := rfl
set_option maxRecDepth 100000 in
theorem mc_198 : mInfC 198 = some (yX13_dataOf, cX13_dataOf, 2, (some .long), 13, 2, 0) := rfl
set_option maxRecDepth 100000 in
theorem mm_198 : mInfo 198 = some (yX13_dataOf, cX13_dataOf, 2, (some .long), 13, 2, 0) := rfl
set_option maxRecDepth 100000 in
theorem mc_199 : mInfC 199 = some (yX13_datum, cX13_datum, 2, (some .int), 13, 1, 0) := rfl
set_option maxRecDepth 100000 in
theorem mm_199 : mInfo 199 = some (yX13_datum, cX13_datum, 2, (some .int), 13, 1, 0) := rfl
set_option maxRecDepth 100000 in
theorem mc_200 : mInfC 200 = some (yX13_defines, cX13_defines, 4, none, 13, 1, 0) := rfl
set_option maxRecDepth 100000 in
theorem mm_200 : mInfo 200 = some (yX13_defines, cX13_defines, 4, none, 13, 1, 0) := rfl
set_option maxRecDepth 100000 in
theorem mc_201 : mInfC 201 = some (yX13_enters, cX13_enters, 1, none, 13, 1, 0) := rfl
set_option maxRecDepth 100000 in
theorem mm_201 : mInfo 201 = some (yX13_enters, cX13_enters, 1, none, 13, 1, 0) := rfl
set_option maxRecDepth 100000 in
theorem mc_202 : mInfC 202 = some (yX13_fault, cX13_fault, 2, (some .int), 13, 2, 0) := rfl
set_option maxRecDepth 100000 in
theorem mm_202 : mInfo 202 = some (yX13_fault, cX13_fault, 2, (some .int), 13, 2, 0) := rfl
set_option maxRecDepth 100000 in
theorem mc_203 : mInfC 203 = some (yX13_feed, cX13_feed, 6, (some .int), 13, 6, 0) := rfl
set_option maxRecDepth 100000 in
theorem mm_203 : mInfo 203 = some (yX13_feed, cX13_feed, 6, (some .int), 13, 6, 0) := rfl
set_option maxRecDepth 100000 in
theorem mc_204 : mInfC 204 = some (yX13_form, cX13_form, 5, none, 13, 3, 0) := rfl
set_option maxRecDepth 100000 in
theorem mm_204 : mInfo 204 = some (yX13_form, cX13_form, 5, none, 13, 3, 0) := rfl
set_option maxRecDepth 100000 in
theorem mc_205 : mInfC 205 = some (yX13_formWord, cX13_formWord, 4, (some .int), 13, 2, 0) := rfl
set_option maxRecDepth 100000 in
theorem mm_205 : mInfo 205 = some (yX13_formWord, cX13_formWord, 4, (some .int), 13, 2, 0) := rfl
set_option maxRecDepth 100000 in
theorem mc_206 : mInfC 206 = some (yX13_form_, cX13_form_, 2, none, 13, 2, 0) := rfl
set_option maxRecDepth 100000 in
theorem mm_206 : mInfo 206 = some (yX13_form_, cX13_form_, 2, none, 13, 2, 0) := rfl
set_option maxRecDepth 100000 in
theorem mc_207 : mInfC 207 = some (yX13_forms, cX13_forms, 2, none, 13, 2, 0) := rfl
set_option maxRecDepth 100000 in
theorem mm_207 : mInfo 207 = some (yX13_forms, cX13_forms, 2, none, 13, 2, 0) := rfl
set_option maxRecDepth 100000 in
theorem mc_208 : mInfC 208 = some (yX13_four, cX13_four, 3, none, 13, 2, 0) := rfl
set_option maxRecDepth 100000 in
theorem mm_208 : mInfo 208 = some (yX13_four, cX13_four, 3, none, 13, 2, 0) := rfl
set_option maxRecDepth 100000 in
theorem mc_209 : mInfC 209 = some (yX13_free, cX13_free, 8, (some .int), 13, 3, 0) := rfl
set_option maxRecDepth 100000 in
theorem mm_209 : mInfo 209 = some (yX13_free, cX13_free, 8, (some .int), 13, 3, 0) := rfl
set_option maxRecDepth 100000 in
theorem mc_210 : mInfC 210 = some (yX13_freesAll, cX13_freesAll, 2, none, 13, 1, 0) := rfl
set_option maxRecDepth 100000 in
theorem mm_210 : mInfo 210 = some (yX13_freesAll, cX13_freesAll, 2, none, 13, 1, 0) := rfl
set_option maxRecDepth 100000 in
theorem mc_211 : mInfC 211 = some (yX13_global, cX13_global, 2, (some .boolean), 13, 2, 0) := rfl
set_option maxRecDepth 100000 in
theorem mm_211 : mInfo 211 = some (yX13_global, cX13_global, 2, (some .boolean), 13, 2, 0) := rfl
set_option maxRecDepth 100000 in
theorem mc_212 : mInfC 212 = some (yX13_go, cX13_go, 2, (some .boolean), 13, 2, 0) := rfl
set_option maxRecDepth 100000 in
theorem mm_212 : mInfo 212 = some (yX13_go, cX13_go, 2, (some .boolean), 13, 2, 0) := rfl
set_option maxRecDepth 100000 in
theorem mc_213 : mInfC 213 = some (yX13_goesOn, cX13_goesOn, 3, none, 13, 1, 0) := rfl
set_option maxRecDepth 100000 in
theorem mm_213 : mInfo 213 = some (yX13_goesOn, cX13_goesOn, 3, none, 13, 1, 0) := rfl
set_option maxRecDepth 100000 in
theorem mc_214 : mInfC 214 = some (yX13_grows, cX13_grows, 6, none, 13, 1, 0) := rfl
set_option maxRecDepth 100000 in
theorem mm_214 : mInfo 214 = some (yX13_grows, cX13_grows, 6, none, 13, 1, 0) := rfl
set_option maxRecDepth 100000 in
theorem mc_215 : mInfC 215 = some (yX13_holds, cX13_holds, 3, none, 13, 3, 0) := rfl
set_option maxRecDepth 100000 in
theorem mm_215 : mInfo 215 = some (yX13_holds, cX13_holds, 3, none, 13, 3, 0) := rfl
set_option maxRecDepth 100000 in
theorem mc_216 : mInfC 216 = some (yX13_inSight, cX13_inSight, 3, none, 13, 2, 0) := rfl
set_option maxRecDepth 100000 in
theorem mm_216 : mInfo 216 = some (yX13_inSight, cX13_inSight, 3, none, 13, 2, 0) := rfl
set_option maxRecDepth 100000 in
theorem mc_217 : mInfC 217 = some (yX13_init, cX13_init, 1, none, 13, 1, 2) := rfl
set_option maxRecDepth 100000 in
theorem mm_217 : mInfo 217 = some (yX13_init, cX13_init, 1, none, 13, 1, 2) := rfl
set_option maxRecDepth 100000 in
theorem mc_218 : mInfC 218 = some (yX13_input, cX13_input, 2, (some .int), 13, 2, 0) := rfl
set_option maxRecDepth 100000 in
theorem mm_218 : mInfo 218 = some (yX13_input, cX13_input, 2, (some .int), 13, 2, 0) := rfl
set_option maxRecDepth 100000 in
theorem mc_219 : mInfC 219 = some (yX13_is, cX13_is, 3, none, 13, 2, 0) := rfl
set_option maxRecDepth 100000 in
theorem mm_219 : mInfo 219 = some (yX13_is, cX13_is, 3, none, 13, 2, 0) := rfl
set_option maxRecDepth 100000 in
theorem mc_220 : mInfC 220 = some (yX13_isDigit, cX13_isDigit, 1, (some .boolean), 13, 1, 1) := rfl
set_option maxRecDepth 100000 in
theorem mm_220 : mInfo 220 = some (yX13_isDigit, cX13_isDigit, 1, (some .boolean), 13, 1, 1) := rfl
set_option maxRecDepth 100000 in
theorem mc_221 : mInfC 221 = some (yX13_isList, cX13_isList, 2, (some .boolean), 13, 2, 0) := rfl
set_option maxRecDepth 100000 in
theorem mm_221 : mInfo 221 = some (yX13_isList, cX13_isList, 2, (some .boolean), 13, 2, 0) := rfl
set_option maxRecDepth 100000 in
theorem mc_222 : mInfC 222 = some (yX13_isName, cX13_isName, 6, (some .boolean), 13, 5, 0) := rfl
set_option maxRecDepth 100000 in
theorem mm_222 : mInfo 222 = some (yX13_isName, cX13_isName, 6, (some .boolean), 13, 5, 0) := rfl
set_option maxRecDepth 100000 in
theorem mc_223 : mInfC 223 = some (yX13_isNameNode, cX13_isNameNode, 2, (some .boolean), 13, 2, 0) := rfl
set_option maxRecDepth 100000 in
theorem mm_223 : mInfo 223 = some (yX13_isNameNode, cX13_isNameNode, 2, (some .boolean), 13, 2, 0) := rfl
set_option maxRecDepth 100000 in
theorem mc_224 : mInfC 224 = some (yX13_isOfWord, cX13_isOfWord, 1, (some .boolean), 13, 1, 1) := rfl
set_option maxRecDepth 100000 in
theorem mm_224 : mInfo 224 = some (yX13_isOfWord, cX13_isOfWord, 1, (some .boolean), 13, 1, 1) := rfl
set_option maxRecDepth 100000 in
theorem mc_225 : mInfC 225 = some (yX13_isShaped, cX13_isShaped, 5, (some .boolean), 13, 4, 0) := rfl
set_option maxRecDepth 100000 in
theorem mm_225 : mInfo 225 = some (yX13_isShaped, cX13_isShaped, 5, (some .boolean), 13, 4, 0) := rfl
set_option maxRecDepth 100000 in
theorem mc_226 : mInfC 226 = some (yX13_isWord, cX13_isWord, 5, (some .boolean), 13, 5, 0) := rfl
set_option maxRecDepth 100000 in
theorem mm_226 : mInfo 226 = some (yX13_isWord, cX13_isWord, 5, (some .boolean), 13, 5, 0) := rfl
set_option maxRecDepth 100000 in
theorem mc_227 : mInfC 227 = some (yX13_kindOf, cX13_kindOf, 2, (some .int), 13, 1, 1) := rfl
set_option maxRecDepth 100000 in
theorem mm_227 : mInfo 227 = some (yX13_kindOf, cX13_kindOf, 2, (some .int), 13, 1, 1) := rfl
set_option maxRecDepth 100000 in
theorem mc_228 : mInfC 228 = some (yX13_lambda, cX13_lambda, 6, none, 13, 2, 0) := rfl
set_option maxRecDepth 100000 in
theorem mm_228 : mInfo 228 = some (yX13_lambda, cX13_lambda, 6, none, 13, 2, 0) := rfl
set_option maxRecDepth 100000 in
theorem mc_229 : mInfC 229 = some (yX13_let, cX13_let, 7, none, 13, 3, 0) := rfl
set_option maxRecDepth 100000 in
theorem mm_229 : mInfo 229 = some (yX13_let, cX13_let, 7, none, 13, 3, 0) := rfl
set_option maxRecDepth 100000 in
theorem mc_230 : mInfC 230 = some (yX13_letPair, cX13_letPair, 6, none, 13, 3, 0) := rfl
set_option maxRecDepth 100000 in
theorem mm_230 : mInfo 230 = some (yX13_letPair, cX13_letPair, 6, none, 13, 3, 0) := rfl
set_option maxRecDepth 100000 in
theorem mc_231 : mInfC 231 = some (yX13_letrecPair, cX13_letrecPair, 5, none, 13, 3, 0) := rfl
set_option maxRecDepth 100000 in
theorem mm_231 : mInfo 231 = some (yX13_letrecPair, cX13_letrecPair, 5, none, 13, 3, 0) := rfl
set_option maxRecDepth 100000 in
theorem mc_232 : mInfC 232 = some (yX13_letrecs, cX13_letrecs, 4, none, 13, 2, 0) := rfl
set_option maxRecDepth 100000 in
theorem mm_232 : mInfo 232 = some (yX13_letrecs, cX13_letrecs, 4, none, 13, 2, 0) := rfl
set_option maxRecDepth 100000 in
theorem mc_233 : mInfC 233 = some (yX13_lets, cX13_lets, 4, none, 13, 3, 0) := rfl
set_option maxRecDepth 100000 in
theorem mm_233 : mInfo 233 = some (yX13_lets, cX13_lets, 4, none, 13, 3, 0) := rfl
set_option maxRecDepth 100000 in
theorem mc_234 : mInfC 234 = some (yX13_list, cX13_list, 5, (some .int), 13, 1, 0) := rfl
set_option maxRecDepth 100000 in
theorem mm_234 : mInfo 234 = some (yX13_list, cX13_list, 5, (some .int), 13, 1, 0) := rfl
set_option maxRecDepth 100000 in
theorem mc_235 : mInfC 235 = some (yX13_listOf, cX13_listOf, 6, (some .long), 13, 2, 0) := rfl
set_option maxRecDepth 100000 in
theorem mm_235 : mInfo 235 = some (yX13_listOf, cX13_listOf, 6, (some .long), 13, 2, 0) := rfl
set_option maxRecDepth 100000 in
theorem mc_236 : mInfC 236 = some (yX13_longer, cX13_longer, 4, (some (.array .int)), 13, 2, 1) := rfl
set_option maxRecDepth 100000 in
theorem mm_236 : mInfo 236 = some (yX13_longer, cX13_longer, 4, (some (.array .int)), 13, 2, 1) := rfl
set_option maxRecDepth 100000 in
theorem mc_237 : mInfC 237 = some (yX13_mark, cX13_mark, 2, (some .boolean), 13, 2, 0) := rfl
set_option maxRecDepth 100000 in
theorem mm_237 : mInfo 237 = some (yX13_mark, cX13_mark, 2, (some .boolean), 13, 2, 0) := rfl
set_option maxRecDepth 100000 in
theorem mc_238 : mInfC 238 = some (yX13_nameOf, cX13_nameOf, 5, (some .int), 13, 3, 0) := rfl
set_option maxRecDepth 100000 in
theorem mm_238 : mInfo 238 = some (yX13_nameOf, cX13_nameOf, 5, (some .int), 13, 3, 0) := rfl
set_option maxRecDepth 100000 in
theorem mc_239 : mInfC 239 = some (yX13_newBox, cX13_newBox, 4, (some .int), 13, 2, 0) := rfl
set_option maxRecDepth 100000 in
theorem mm_239 : mInfo 239 = some (yX13_newBox, cX13_newBox, 4, (some .int), 13, 2, 0) := rfl
set_option maxRecDepth 100000 in
theorem mc_240 : mInfC 240 = some (yX13_newName, cX13_newName, 6, (some .int), 13, 4, 0) := rfl
set_option maxRecDepth 100000 in
theorem mm_240 : mInfo 240 = some (yX13_newName, cX13_newName, 6, (some .int), 13, 4, 0) := rfl
set_option maxRecDepth 100000 in
theorem mc_241 : mInfC 241 = some (yX13_node, cX13_node, 6, (some .int), 13, 4, 0) := rfl
set_option maxRecDepth 100000 in
theorem mm_241 : mInfo 241 = some (yX13_node, cX13_node, 6, (some .int), 13, 4, 0) := rfl
set_option maxRecDepth 100000 in
theorem mc_242 : mInfC 242 = some (yX13_number, cX13_number, 6, (some .long), 13, 3, 1) := rfl
set_option maxRecDepth 100000 in
theorem mm_242 : mInfo 242 = some (yX13_number, cX13_number, 6, (some .long), 13, 3, 1) := rfl
set_option maxRecDepth 100000 in
theorem mc_243 : mInfC 243 = some (yX13_one, cX13_one, 4, (some .long), 13, 3, 0) := rfl
set_option maxRecDepth 100000 in
theorem mm_243 : mInfo 243 = some (yX13_one, cX13_one, 4, (some .long), 13, 3, 0) := rfl
set_option maxRecDepth 100000 in
theorem mc_244 : mInfC 244 = some (yX13_output, cX13_output, 2, (some .int), 13, 2, 0) := rfl
set_option maxRecDepth 100000 in
theorem mm_244 : mInfo 244 = some (yX13_output, cX13_output, 2, (some .int), 13, 2, 0) := rfl
set_option maxRecDepth 100000 in
theorem mc_245 : mInfC 245 = some (yX13_pair, cX13_pair, 5, (some .long), 13, 3, 0) := rfl
set_option maxRecDepth 100000 in
theorem mm_245 : mInfo 245 = some (yX13_pair, cX13_pair, 5, (some .long), 13, 3, 0) := rfl
set_option maxRecDepth 100000 in
theorem mc_246 : mInfC 246 = some (yX13_part, cX13_part, 5, (some .int), 13, 3, 0) := rfl
set_option maxRecDepth 100000 in
theorem mm_246 : mInfo 246 = some (yX13_part, cX13_part, 5, (some .int), 13, 3, 0) := rfl
set_option maxRecDepth 100000 in
theorem mc_247 : mInfC 247 = some (yX13_partOf, cX13_partOf, 5, (some .int), 13, 3, 0) := rfl
set_option maxRecDepth 100000 in
theorem mm_247 : mInfo 247 = some (yX13_partOf, cX13_partOf, 5, (some .int), 13, 3, 0) := rfl
set_option maxRecDepth 100000 in
theorem mc_248 : mInfC 248 = some (yX13_parts, cX13_parts, 4, (some .int), 13, 2, 0) := rfl
set_option maxRecDepth 100000 in
theorem mm_248 : mInfo 248 = some (yX13_parts, cX13_parts, 4, (some .int), 13, 2, 0) := rfl
set_option maxRecDepth 100000 in
theorem mc_249 : mInfC 249 = some (yX13_primitive, cX13_primitive, 10, none, 13, 3, 0) := rfl
set_option maxRecDepth 100000 in
theorem mm_249 : mInfo 249 = some (yX13_primitive, cX13_primitive, 10, none, 13, 3, 0) := rfl
set_option maxRecDepth 100000 in
theorem mc_250 : mInfC 250 = some (yX13_push, cX13_push, 5, none, 13, 2, 0) := rfl
set_option maxRecDepth 100000 in
theorem mm_250 : mInfo 250 = some (yX13_push, cX13_push, 5, none, 13, 2, 0) := rfl
set_option maxRecDepth 100000 in
theorem mc_251 : mInfC 251 = some (yX13_quoted, cX13_quoted, 4, (some .int), 13, 1, 0) := rfl
set_option maxRecDepth 100000 in
theorem mm_251 : mInfo 251 = some (yX13_quoted, cX13_quoted, 4, (some .int), 13, 1, 0) := rfl
set_option maxRecDepth 100000 in
theorem mc_252 : mInfC 252 = some (yX13_quotes, cX13_quotes, 2, none, 13, 1, 0) := rfl
set_option maxRecDepth 100000 in
theorem mm_252 : mInfo 252 = some (yX13_quotes, cX13_quotes, 2, none, 13, 1, 0) := rfl
set_option maxRecDepth 100000 in
theorem mc_253 : mInfC 253 = some (yX13_reckoned, cX13_reckoned, 8, (some .long), 13, 4, 0) := rfl
set_option maxRecDepth 100000 in
theorem mm_253 : mInfo 253 = some (yX13_reckoned, cX13_reckoned, 8, (some .long), 13, 4, 0) := rfl
set_option maxRecDepth 100000 in
theorem mc_254 : mInfC 254 = some (yX13_restart, cX13_restart, 1, (some .boolean), 13, 1, 0) := rfl
set_option maxRecDepth 100000 in
theorem mm_254 : mInfo 254 = some (yX13_restart, cX13_restart, 1, (some .boolean), 13, 1, 0) := rfl
set_option maxRecDepth 100000 in
theorem mc_255 : mInfC 255 = some (yX13_row, cX13_row, 3, none, 13, 3, 0) := rfl
set_option maxRecDepth 100000 in
theorem mm_255 : mInfo 255 = some (yX13_row, cX13_row, 3, none, 13, 3, 0) := rfl
set_option maxRecDepth 100000 in
theorem mc_256 : mInfC 256 = some (yX13_rows, cX13_rows, 3, none, 13, 1, 0) := rfl
set_option maxRecDepth 100000 in
theorem mm_256 : mInfo 256 = some (yX13_rows, cX13_rows, 3, none, 13, 1, 0) := rfl
set_option maxRecDepth 100000 in
theorem mc_257 : mInfC 257 = some (yX13_run, cX13_run, 2, (some .int), 13, 2, 0) := rfl
set_option maxRecDepth 100000 in
theorem mm_257 : mInfo 257 = some (yX13_run, cX13_run, 2, (some .int), 13, 2, 0) := rfl
set_option maxRecDepth 100000 in
theorem mc_258 : mInfC 258 = some (yX13_same, cX13_same, 2, (some .boolean), 13, 2, 0) := rfl
set_option maxRecDepth 100000 in
theorem mm_258 : mInfo 258 = some (yX13_same, cX13_same, 2, (some .boolean), 13, 2, 0) := rfl
set_option maxRecDepth 100000 in
theorem mc_259 : mInfC 259 = some (yX13_scans, cX13_scans, 4, none, 13, 1, 0) := rfl
set_option maxRecDepth 100000 in
theorem mm_259 : mInfo 259 = some (yX13_scans, cX13_scans, 4, none, 13, 1, 0) := rfl
set_option maxRecDepth 100000 in
theorem mc_260 : mInfC 260 = some (yX13_sets, cX13_sets, 4, none, 13, 2, 0) := rfl
set_option maxRecDepth 100000 in
theorem mm_260 : mInfo 260 = some (yX13_sets, cX13_sets, 4, none, 13, 2, 0) := rfl
set_option maxRecDepth 100000 in
theorem mc_261 : mInfC 261 = some (yX13_slots, cX13_slots, 3, none, 13, 2, 0) := rfl
set_option maxRecDepth 100000 in
theorem mm_261 : mInfo 261 = some (yX13_slots, cX13_slots, 3, none, 13, 2, 0) := rfl
set_option maxRecDepth 100000 in
theorem mc_262 : mInfC 262 = some (yX13_tells, cX13_tells, 3, (some .int), 13, 2, 0) := rfl
set_option maxRecDepth 100000 in
theorem mm_262 : mInfo 262 = some (yX13_tells, cX13_tells, 3, (some .int), 13, 2, 0) := rfl
set_option maxRecDepth 100000 in
theorem mc_263 : mInfC 263 = some (yX13_todo, cX13_todo, 4, none, 13, 4, 0) := rfl
set_option maxRecDepth 100000 in
theorem mm_263 : mInfo 263 = some (yX13_todo, cX13_todo, 4, none, 13, 4, 0) := rfl
set_option maxRecDepth 100000 in
theorem mc_264 : mInfC 264 = some (yX13_token, cX13_token, 4, none, 13, 4, 0) := rfl
set_option maxRecDepth 100000 in
theorem mm_264 : mInfo 264 = some (yX13_token, cX13_token, 4, none, 13, 4, 0) := rfl
set_option maxRecDepth 100000 in
theorem mc_265 : mInfC 265 = some (yX13_trades, cX13_trades, 7, none, 13, 4, 0) := rfl
set_option maxRecDepth 100000 in
theorem mm_265 : mInfo 265 = some (yX13_trades, cX13_trades, 7, none, 13, 4, 0) := rfl
set_option maxRecDepth 100000 in
theorem mc_266 : mInfC 266 = some (yX13_truth, cX13_truth, 1, (some .long), 13, 1, 1) := rfl
set_option maxRecDepth 100000 in
theorem mm_266 : mInfo 266 = some (yX13_truth, cX13_truth, 1, (some .long), 13, 1, 1) := rfl
set_option maxRecDepth 100000 in
theorem mc_267 : mInfC 267 = some (yX13_two, cX13_two, 6, (some .long), 13, 4, 0) := rfl
set_option maxRecDepth 100000 in
theorem mm_267 : mInfo 267 = some (yX13_two, cX13_two, 6, (some .long), 13, 4, 0) := rfl
set_option maxRecDepth 100000 in
theorem mc_268 : mInfC 268 = some (yX13_uses, cX13_uses, 6, none, 13, 2, 0) := rfl
set_option maxRecDepth 100000 in
theorem mm_268 : mInfo 268 = some (yX13_uses, cX13_uses, 6, none, 13, 2, 0) := rfl
set_option maxRecDepth 100000 in
theorem mc_269 : mInfC 269 = some (yX13_value, cX13_value, 2, (some .long), 13, 2, 1) := rfl
set_option maxRecDepth 100000 in
theorem mm_269 : mInfo 269 = some (yX13_value, cX13_value, 2, (some .long), 13, 2, 1) := rfl
set_option maxRecDepth 100000 in
theorem mc_270 : mInfC 270 = some (yX13_valueOf, cX13_valueOf, 2, (some .long), 13, 2, 0) := rfl
set_option maxRecDepth 100000 in
theorem mm_270 : mInfo 270 = some (yX13_valueOf, cX13_valueOf, 2, (some .long), 13, 2, 0) := rfl
set_option maxRecDepth 100000 in
theorem mc_271 : mInfC 271 = some (yX13_wants, cX13_wants, 1, (some .int), 13, 1, 1) := rfl
set_option maxRecDepth 100000 in
theorem mm_271 : mInfo 271 = some (yX13_wants, cX13_wants, 1, (some .int), 13, 1, 1) := rfl
set_option maxRecDepth 100000 in
theorem mc_272 : mInfC 272 = some (yX13_whichOf, cX13_whichOf, 2, (some .int), 13, 1, 1) := rfl
set_option maxRecDepth 100000 in
theorem mm_272 : mInfo 272 = some (yX13_whichOf, cX13_whichOf, 2, (some .int), 13, 1, 1) := rfl
set_option maxRecDepth 100000 in
theorem mc_273 : mInfC 273 = some (yX13_word, cX13_word, 9, none, 13, 3, 0) := rfl
set_option maxRecDepth 100000 in
theorem mm_273 : mInfo 273 = some (yX13_word, cX13_word, 9, none, 13, 3, 0) := rfl
set_option maxRecDepth 100000 in
theorem mc_274 : mInfC 274 = some (yX13_wordName, cX13_wordName, 3, (some .int), 13, 2, 0) := rfl
set_option maxRecDepth 100000 in
theorem mm_274 : mInfo 274 = some (yX13_wordName, cX13_wordName, 3, (some .int), 13, 2, 0) := rfl
set_option maxRecDepth 100000 in
theorem mc_275 : mInfC 275 = some (yX13_wordOf, cX13_wordOf, 4, (some .int), 13, 2, 0) := rfl
set_option maxRecDepth 100000 in
theorem mm_275 : mInfo 275 = some (yX13_wordOf, cX13_wordOf, 4, (some .int), 13, 2, 0) := rfl
set_option maxRecDepth 100000 in
theorem mc_276 : mInfC 276 = some (yX13_works, cX13_works, 4, none, 13, 2, 0) := rfl
set_option maxRecDepth 100000 in
theorem mm_276 : mInfo 276 = some (yX13_works, cX13_works, 4, none, 13, 2, 0) := rfl
set_option maxRecDepth 100000 in
theorem mc_277 : mInfC 277 = some (yX13_worksList, cX13_worksList, 2, none, 13, 2, 0) := rfl
set_option maxRecDepth 100000 in
theorem mm_277 : mInfo 277 = some (yX13_worksList, cX13_worksList, 2, none, 13, 2, 0) := rfl
set_option maxRecDepth 100000 in
theorem mc_278 : mInfC 278 = some (yX13_wrong, cX13_wrong, 3, none, 13, 3, 0) := rfl
set_option maxRecDepth 100000 in
theorem mm_278 : mInfo 278 = some (yX13_wrong, cX13_wrong, 3, none, 13, 3, 0) := rfl
set_option maxRecDepth 100000 in
theorem mc_279 : mInfC 279 = some (yJ7_copyOf_59c91, cJ7_copyOf_59c91, 3, (some (.array .int)), 14, 2, 1) := rfl
set_option maxRecDepth 100000 in
theorem mm_279 : mInfo 279 = some (yJ7_copyOf_59c91, cJ7_copyOf_59c91, 3, (some (.array .int)), 14, 2, 1) := rfl
set_option maxRecDepth 100000 in
theorem mc_280 : mInfC 280 = some (yJ7_copyOf_c38d5, cJ7_copyOf_c38d5, 3, (some (.array .long)), 14, 2, 1) := rfl
set_option maxRecDepth 100000 in
theorem mm_280 : mInfo 280 = some (yJ7_copyOf_c38d5, cJ7_copyOf_c38d5, 3, (some (.array .long)), 14, 2, 1) := rfl
set_option maxRecDepth 100000 in
theorem mc_281 : mInfC 281 = some (yJ7_fill_53178, cJ7_fill_53178, 4, none, 14, 2, 1) := rfl
set_option maxRecDepth 100000 in
theorem mm_281 : mInfo 281 = some (yJ7_fill_53178, cJ7_fill_53178, 4, none, 14, 2, 1) := rfl
set_option maxRecDepth 100000 in
theorem mc_282 : mInfC 282 = some (yJ7_fill_d0a16, cJ7_fill_d0a16, 5, none, 14, 2, 1) := rfl
set_option maxRecDepth 100000 in
theorem mm_282 : mInfo 282 = some (yJ7_fill_d0a16, cJ7_fill_d0a16, 5, none, 14, 2, 1) := rfl
set_option maxRecDepth 100000 in
theorem mc_283 : mInfC 283 = some (yJ9_floorMod_7cf53, cJ9_floorMod_7cf53, 3, (some .int), 15, 2, 1) := rfl
set_option maxRecDepth 100000 in
theorem mm_283 : mInfo 283 = some (yJ9_floorMod_7cf53, cJ9_floorMod_7cf53, 3, (some .int), 15, 2, 1) := rfl
set_option maxRecDepth 100000 in
theorem mc_284 : mInfC 284 = some (yJ9_max_7cf53, cJ9_max_7cf53, 2, (some .int), 15, 2, 1) := rfl
set_option maxRecDepth 100000 in
theorem mm_284 : mInfo 284 = some (yJ9_max_7cf53, cJ9_max_7cf53, 2, (some .int), 15, 2, 1) := rfl
set_option maxRecDepth 100000 in
theorem mc_285 : mInfC 285 = some (yJ9_min_7cf53, cJ9_min_7cf53, 2, (some .int), 15, 2, 1) := rfl
set_option maxRecDepth 100000 in
theorem mm_285 : mInfo 285 = some (yJ9_min_7cf53, cJ9_min_7cf53, 2, (some .int), 15, 2, 1) := rfl
set_option maxRecDepth 100000 in
theorem mc_286 : mInfC 286 = some (yJ9_min_f86c9, cJ9_min_f86c9, 4, (some .long), 15, 2, 1) := rfl
set_option maxRecDepth 100000 in
theorem mm_286 : mInfo 286 = some (yJ9_min_f86c9, cJ9_min_f86c9, 4, (some .long), 15, 2, 1) := rfl
set_option maxRecDepth 100000 in
theorem mc_287 : mInfC 287 = some (yX0_definedNumber, cX0_definedNumber, 2, (some .int), 0, 2, 0) := rfl
set_option maxRecDepth 100000 in
theorem mm_287 : mInfo 287 = some (yX0_definedNumber, cX0_definedNumber, 2, (some .int), 0, 2, 0) := rfl
set_option maxRecDepth 100000 in
theorem mc_288 : mInfC 288 = some (yX7_isInQuote, cX7_isInQuote, 1, (some .boolean), 7, 1, 0) := rfl
set_option maxRecDepth 100000 in
theorem mm_288 : mInfo 288 = some (yX7_isInQuote, cX7_isInQuote, 1, (some .boolean), 7, 1, 0) := rfl
set_option maxRecDepth 100000 in
theorem mc_289 : mInfC 289 = some (yX9_ownerOf, cX9_ownerOf, 2, (some .int), 9, 2, 0) := rfl
set_option maxRecDepth 100000 in
theorem mm_289 : mInfo 289 = some (yX9_ownerOf, cX9_ownerOf, 2, (some .int), 9, 2, 0) := rfl
set_option maxRecDepth 100000 in
theorem mm_290 : mInfo 290 = some (yX13_build, cX13_build, 3, (some .int), 13, 2, 0) := rfl
