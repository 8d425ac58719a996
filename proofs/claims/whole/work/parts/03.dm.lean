theorem dX12_init_0 : decode cX12_init 0 = .ok (.aload_n 0, 1) := by decide +kernel
theorem dX12_init_1 : decode cX12_init 1 = .ok (.invokespecial 3, 3) := by decide +kernel
theorem dX12_init_4 : decode cX12_init 4 = .ok (.aload_n 0, 1) := by decide +kernel
theorem dX12_init_5 : decode cX12_init 5 = .ok (.sipush 6200, 3) := by decide +kernel
theorem dX12_init_8 : decode cX12_init 8 = .ok (.newarray .int, 2) := by decide +kernel
theorem dX12_init_10 : decode cX12_init 10 = .ok (.putfield 9, 3) := by decide +kernel
theorem dX12_init_13 : decode cX12_init 13 = .ok (.aload_n 0, 1) := by decide +kernel
theorem dX12_init_14 : decode cX12_init 14 = .ok (.sipush 6200, 3) := by decide +kernel
theorem dX12_init_17 : decode cX12_init 17 = .ok (.newarray .int, 2) := by decide +kernel
theorem dX12_init_19 : decode cX12_init 19 = .ok (.putfield 15, 3) := by decide +kernel
theorem dX12_init_22 : decode cX12_init 22 = .ok (.aload_n 0, 1) := by decide +kernel
theorem dX12_init_23 : decode cX12_init 23 = .ok (.sipush 6200, 3) := by decide +kernel
theorem dX12_init_26 : decode cX12_init 26 = .ok (.newarray .int, 2) := by decide +kernel
theorem dX12_init_28 : decode cX12_init 28 = .ok (.putfield 18, 3) := by decide +kernel
theorem dX12_init_31 : decode cX12_init 31 = .ok (.aload_n 0, 1) := by decide +kernel
theorem dX12_init_32 : decode cX12_init 32 = .ok (.sipush 6200, 3) := by decide +kernel
theorem dX12_init_35 : decode cX12_init 35 = .ok (.newarray .int, 2) := by decide +kernel
theorem dX12_init_37 : decode cX12_init 37 = .ok (.putfield 21, 3) := by decide +kernel
theorem dX12_init_40 : decode cX12_init 40 = .ok (.aload_n 0, 1) := by decide +kernel
theorem dX12_init_41 : decode cX12_init 41 = .ok (.sipush 6200, 3) := by decide +kernel
theorem dX12_init_44 : decode cX12_init 44 = .ok (.newarray .int, 2) := by decide +kernel
theorem dX12_init_46 : decode cX12_init 46 = .ok (.putfield 24, 3) := by decide +kernel
theorem dX12_init_49 : decode cX12_init 49 = .ok (.aload_n 0, 1) := by decide +kernel
theorem dX12_init_50 : decode cX12_init 50 = .ok (.sipush 6200, 3) := by decide +kernel
theorem dX12_init_53 : decode cX12_init 53 = .ok (.newarray .int, 2) := by decide +kernel
theorem dX12_init_55 : decode cX12_init 55 = .ok (.putfield 27, 3) := by decide +kernel
theorem dX12_init_58 : decode cX12_init 58 = .ok (.aload_n 0, 1) := by decide +kernel
theorem dX12_init_59 : decode cX12_init 59 = .ok (.sipush 6200, 3) := by decide +kernel
theorem dX12_init_62 : decode cX12_init 62 = .ok (.newarray .int, 2) := by decide +kernel
theorem dX12_init_64 : decode cX12_init 64 = .ok (.putfield 30, 3) := by decide +kernel
theorem dX12_init_67 : decode cX12_init 67 = .ok (.aload_n 0, 1) := by decide +kernel
theorem dX12_init_68 : decode cX12_init 68 = .ok (.sipush 3000, 3) := by decide +kernel
theorem dX12_init_71 : decode cX12_init 71 = .ok (.newarray .int, 2) := by decide +kernel
theorem dX12_init_73 : decode cX12_init 73 = .ok (.putfield 33, 3) := by decide +kernel
theorem dX12_init_76 : decode cX12_init 76 = .ok (.aload_n 0, 1) := by decide +kernel
theorem dX12_init_77 : decode cX12_init 77 = .ok (.sipush 3000, 3) := by decide +kernel
theorem dX12_init_80 : decode cX12_init 80 = .ok (.newarray .int, 2) := by decide +kernel
theorem dX12_init_82 : decode cX12_init 82 = .ok (.putfield 36, 3) := by decide +kernel
theorem dX12_init_85 : decode cX12_init 85 = .ok (.aload_n 0, 1) := by decide +kernel
theorem dX12_init_86 : decode cX12_init 86 = .ok (.sipush 3000, 3) := by decide +kernel
theorem dX12_init_89 : decode cX12_init 89 = .ok (.newarray .int, 2) := by decide +kernel
theorem dX12_init_91 : decode cX12_init 91 = .ok (.putfield 39, 3) := by decide +kernel
theorem dX12_init_94 : decode cX12_init 94 = .ok (.aload_n 0, 1) := by decide +kernel
theorem dX12_init_95 : decode cX12_init 95 = .ok (.sipush 3000, 3) := by decide +kernel
theorem dX12_init_98 : decode cX12_init 98 = .ok (.newarray .int, 2) := by decide +kernel
theorem dX12_init_100 : decode cX12_init 100 = .ok (.putfield 42, 3) := by decide +kernel
theorem dX12_init_103 : decode cX12_init 103 = .ok (.aload_n 0, 1) := by decide +kernel
theorem dX12_init_104 : decode cX12_init 104 = .ok (.sipush 3000, 3) := by decide +kernel
theorem dX12_init_107 : decode cX12_init 107 = .ok (.newarray .int, 2) := by decide +kernel
theorem dX12_init_109 : decode cX12_init 109 = .ok (.putfield 45, 3) := by decide +kernel
theorem dX12_init_112 : decode cX12_init 112 = .ok (.aload_n 0, 1) := by decide +kernel
theorem dX12_init_113 : decode cX12_init 113 = .ok (.sipush 3000, 3) := by decide +kernel
theorem dX12_init_116 : decode cX12_init 116 = .ok (.newarray .byte, 2) := by decide +kernel
theorem dX12_init_118 : decode cX12_init 118 = .ok (.putfield 48, 3) := by decide +kernel
theorem dX12_init_121 : decode cX12_init 121 = .ok (.aload_n 0, 1) := by decide +kernel
theorem dX12_init_122 : decode cX12_init 122 = .ok (.sipush 3000, 3) := by decide +kernel
theorem dX12_init_125 : decode cX12_init 125 = .ok (.newarray .int, 2) := by decide +kernel
theorem dX12_init_127 : decode cX12_init 127 = .ok (.putfield 52, 3) := by decide +kernel
theorem dX12_init_130 : decode cX12_init 130 = .ok (.aload_n 0, 1) := by decide +kernel
theorem dX12_init_131 : decode cX12_init 131 = .ok (.sipush 3000, 3) := by decide +kernel
theorem dX12_init_134 : decode cX12_init 134 = .ok (.newarray .int, 2) := by decide +kernel
theorem dX12_init_136 : decode cX12_init 136 = .ok (.putfield 55, 3) := by decide +kernel
theorem dX12_init_139 : decode cX12_init 139 = .ok (.aload_n 0, 1) := by decide +kernel
theorem dX12_init_140 : decode cX12_init 140 = .ok (.sipush 3000, 3) := by decide +kernel
theorem dX12_init_143 : decode cX12_init 143 = .ok (.newarray .int, 2) := by decide +kernel
theorem dX12_init_145 : decode cX12_init 145 = .ok (.putfield 58, 3) := by decide +kernel
theorem dX12_init_148 : decode cX12_init 148 = .ok (.aload_n 0, 1) := by decide +kernel
theorem dX12_init_149 : decode cX12_init 149 = .ok (.sipush 3000, 3) := by decide +kernel
theorem dX12_init_152 : decode cX12_init 152 = .ok (.newarray .int, 2) := by decide +kernel
theorem dX12_init_154 : decode cX12_init 154 = .ok (.putfield 61, 3) := by decide +kernel
theorem dX12_init_157 : decode cX12_init 157 = .ok (.aload_n 0, 1) := by decide +kernel
theorem dX12_init_158 : decode cX12_init 158 = .ok (.sipush 30976, 3) := by decide +kernel
theorem dX12_init_161 : decode cX12_init 161 = .ok (.newarray .int, 2) := by decide +kernel
theorem dX12_init_163 : decode cX12_init 163 = .ok (.putfield 64, 3) := by decide +kernel
theorem dX12_init_166 : decode cX12_init 166 = .ok (.aload_n 0, 1) := by decide +kernel
theorem dX12_init_167 : decode cX12_init 167 = .ok (.sipush 30976, 3) := by decide +kernel
theorem dX12_init_170 : decode cX12_init 170 = .ok (.newarray .int, 2) := by decide +kernel
theorem dX12_init_172 : decode cX12_init 172 = .ok (.putfield 67, 3) := by decide +kernel
theorem dX12_init_175 : decode cX12_init 175 = .ok (.return_, 1) := by decide +kernel
theorem dX12_clear_0 : decode cX12_clear 0 = .ok (.aload_n 0, 1) := by decide +kernel
theorem dX12_clear_1 : decode cX12_clear 1 = .ok (.iconst 0, 1) := by decide +kernel
theorem dX12_clear_2 : decode cX12_clear 2 = .ok (.putfield 70, 3) := by decide +kernel
theorem dX12_clear_5 : decode cX12_clear 5 = .ok (.aload_n 0, 1) := by decide +kernel
theorem dX12_clear_6 : decode cX12_clear 6 = .ok (.iconst 0, 1) := by decide +kernel
theorem dX12_clear_7 : decode cX12_clear 7 = .ok (.putfield 74, 3) := by decide +kernel
theorem dX12_clear_10 : decode cX12_clear 10 = .ok (.aload_n 0, 1) := by decide +kernel
theorem dX12_clear_11 : decode cX12_clear 11 = .ok (.iconst 0, 1) := by decide +kernel
theorem dX12_clear_12 : decode cX12_clear 12 = .ok (.putfield 77, 3) := by decide +kernel
theorem dX12_clear_15 : decode cX12_clear 15 = .ok (.aload_n 0, 1) := by decide +kernel
theorem dX12_clear_16 : decode cX12_clear 16 = .ok (.iconst (-1), 1) := by decide +kernel
theorem dX12_clear_17 : decode cX12_clear 17 = .ok (.putfield 80, 3) := by decide +kernel
theorem dX12_clear_20 : decode cX12_clear 20 = .ok (.aload_n 0, 1) := by decide +kernel
theorem dX12_clear_21 : decode cX12_clear 21 = .ok (.iconst 0, 1) := by decide +kernel
theorem dX12_clear_22 : decode cX12_clear 22 = .ok (.putfield 83, 3) := by decide +kernel
theorem dX12_clear_25 : decode cX12_clear 25 = .ok (.aload_n 0, 1) := by decide +kernel
theorem dX12_clear_26 : decode cX12_clear 26 = .ok (.iconst 0, 1) := by decide +kernel
theorem dX12_clear_27 : decode cX12_clear 27 = .ok (.putfield 86, 3) := by decide +kernel
theorem dX12_clear_30 : decode cX12_clear 30 = .ok (.aload_n 0, 1) := by decide +kernel
theorem dX12_clear_31 : decode cX12_clear 31 = .ok (.iconst 0, 1) := by decide +kernel
theorem dX12_clear_32 : decode cX12_clear 32 = .ok (.putfield 89, 3) := by decide +kernel
theorem dX12_clear_35 : decode cX12_clear 35 = .ok (.aload_n 0, 1) := by decide +kernel
theorem dX12_clear_36 : decode cX12_clear 36 = .ok (.iconst 0, 1) := by decide +kernel
theorem dX12_clear_37 : decode cX12_clear 37 = .ok (.putfield 92, 3) := by decide +kernel
theorem dX12_clear_40 : decode cX12_clear 40 = .ok (.return_, 1) := by decide +kernel
theorem dX13_init_0 : decode cX13_init 0 = .ok (.aload_n 0, 1) := by decide +kernel
theorem dX13_init_1 : decode cX13_init 1 = .ok (.invokespecial 3, 3) := by decide +kernel
theorem dX13_init_4 : decode cX13_init 4 = .ok (.aload_n 0, 1) := by decide +kernel
theorem dX13_init_5 : decode cX13_init 5 = .ok (.sipush 3000, 3) := by decide +kernel
theorem dX13_init_8 : decode cX13_init 8 = .ok (.newarray .byte, 2) := by decide +kernel
theorem dX13_init_10 : decode cX13_init 10 = .ok (.putfield 9, 3) := by decide +kernel
theorem dX13_init_13 : decode cX13_init 13 = .ok (.aload_n 0, 1) := by decide +kernel
theorem dX13_init_14 : decode cX13_init 14 = .ok (.iconst (-1), 1) := by decide +kernel
theorem dX13_init_15 : decode cX13_init 15 = .ok (.putfield 13, 3) := by decide +kernel
theorem dX13_init_18 : decode cX13_init 18 = .ok (.aload_n 0, 1) := by decide +kernel
theorem dX13_init_19 : decode cX13_init 19 = .ok (.sipush 3000, 3) := by decide +kernel
theorem dX13_init_22 : decode cX13_init 22 = .ok (.newarray .byte, 2) := by decide +kernel
theorem dX13_init_24 : decode cX13_init 24 = .ok (.putfield 17, 3) := by decide +kernel
theorem dX13_init_27 : decode cX13_init 27 = .ok (.aload_n 0, 1) := by decide +kernel
theorem dX13_init_28 : decode cX13_init 28 = .ok (.sipush 3002, 3) := by decide +kernel
theorem dX13_init_31 : decode cX13_init 31 = .ok (.newarray .int, 2) := by decide +kernel
theorem dX13_init_33 : decode cX13_init 33 = .ok (.putfield 20, 3) := by decide +kernel
theorem dX13_init_36 : decode cX13_init 36 = .ok (.aload_n 0, 1) := by decide +kernel
theorem dX13_init_37 : decode cX13_init 37 = .ok (.sipush 3002, 3) := by decide +kernel
theorem dX13_init_40 : decode cX13_init 40 = .ok (.newarray .int, 2) := by decide +kernel
theorem dX13_init_42 : decode cX13_init 42 = .ok (.putfield 24, 3) := by decide +kernel
theorem dX13_init_45 : decode cX13_init 45 = .ok (.aload_n 0, 1) := by decide +kernel
theorem dX13_init_46 : decode cX13_init 46 = .ok (.sipush 3002, 3) := by decide +kernel
theorem dX13_init_49 : decode cX13_init 49 = .ok (.newarray .int, 2) := by decide +kernel
theorem dX13_init_51 : decode cX13_init 51 = .ok (.putfield 27, 3) := by decide +kernel
theorem dX13_init_54 : decode cX13_init 54 = .ok (.aload_n 0, 1) := by decide +kernel
theorem dX13_init_55 : decode cX13_init 55 = .ok (.new 30, 3) := by decide +kernel
theorem dX13_init_58 : decode cX13_init 58 = .ok (.dup, 1) := by decide +kernel
theorem dX13_init_59 : decode cX13_init 59 = .ok (.ldc 32, 2) := by decide +kernel
theorem dX13_init_61 : decode cX13_init 61 = .ok (.invokespecial 34, 3) := by decide +kernel
theorem dX13_init_64 : decode cX13_init 64 = .ok (.putfield 37, 3) := by decide +kernel
theorem dX13_init_67 : decode cX13_init 67 = .ok (.aload_n 0, 1) := by decide +kernel
theorem dX13_init_68 : decode cX13_init 68 = .ok (.new 40, 3) := by decide +kernel
theorem dX13_init_71 : decode cX13_init 71 = .ok (.dup, 1) := by decide +kernel
theorem dX13_init_72 : decode cX13_init 72 = .ok (.invokespecial 42, 3) := by decide +kernel
theorem dX13_init_75 : decode cX13_init 75 = .ok (.putfield 43, 3) := by decide +kernel
theorem dX13_init_78 : decode cX13_init 78 = .ok (.aload_n 0, 1) := by decide +kernel
theorem dX13_init_79 : decode cX13_init 79 = .ok (.new 40, 3) := by decide +kernel
theorem dX13_init_82 : decode cX13_init 82 = .ok (.dup, 1) := by decide +kernel
theorem dX13_init_83 : decode cX13_init 83 = .ok (.invokespecial 42, 3) := by decide +kernel
theorem dX13_init_86 : decode cX13_init 86 = .ok (.putfield 47, 3) := by decide +kernel
theorem dX13_init_89 : decode cX13_init 89 = .ok (.aload_n 0, 1) := by decide +kernel
theorem dX13_init_90 : decode cX13_init 90 = .ok (.sipush 6200, 3) := by decide +kernel
theorem dX13_init_93 : decode cX13_init 93 = .ok (.newarray .int, 2) := by decide +kernel
theorem dX13_init_95 : decode cX13_init 95 = .ok (.putfield 50, 3) := by decide +kernel
theorem dX13_init_98 : decode cX13_init 98 = .ok (.aload_n 0, 1) := by decide +kernel
theorem dX13_init_99 : decode cX13_init 99 = .ok (.sipush 6200, 3) := by decide +kernel
theorem dX13_init_102 : decode cX13_init 102 = .ok (.newarray .int, 2) := by decide +kernel
theorem dX13_init_104 : decode cX13_init 104 = .ok (.putfield 53, 3) := by decide +kernel
theorem dX13_init_107 : decode cX13_init 107 = .ok (.aload_n 0, 1) := by decide +kernel
theorem dX13_init_108 : decode cX13_init 108 = .ok (.sipush 6200, 3) := by decide +kernel
theorem dX13_init_111 : decode cX13_init 111 = .ok (.newarray .int, 2) := by decide +kernel
theorem dX13_init_113 : decode cX13_init 113 = .ok (.putfield 56, 3) := by decide +kernel
theorem dX13_init_116 : decode cX13_init 116 = .ok (.aload_n 0, 1) := by decide +kernel
theorem dX13_init_117 : decode cX13_init 117 = .ok (.bipush 32, 2) := by decide +kernel
theorem dX13_init_119 : decode cX13_init 119 = .ok (.newarray .int, 2) := by decide +kernel
theorem dX13_init_121 : decode cX13_init 121 = .ok (.putfield 59, 3) := by decide +kernel
theorem dX13_init_124 : decode cX13_init 124 = .ok (.aload_n 0, 1) := by decide +kernel
theorem dX13_init_125 : decode cX13_init 125 = .ok (.bipush 32, 2) := by decide +kernel
theorem dX13_init_127 : decode cX13_init 127 = .ok (.newarray .int, 2) := by decide +kernel
theorem dX13_init_129 : decode cX13_init 129 = .ok (.putfield 62, 3) := by decide +kernel
theorem dX13_init_132 : decode cX13_init 132 = .ok (.aload_n 0, 1) := by decide +kernel
theorem dX13_init_133 : decode cX13_init 133 = .ok (.sipush 8192, 3) := by decide +kernel
theorem dX13_init_136 : decode cX13_init 136 = .ok (.newarray .int, 2) := by decide +kernel
theorem dX13_init_138 : decode cX13_init 138 = .ok (.putfield 65, 3) := by decide +kernel
theorem dX13_init_141 : decode cX13_init 141 = .ok (.aload_n 0, 1) := by decide +kernel
theorem dX13_init_142 : decode cX13_init 142 = .ok (.ldc 68, 2) := by decide +kernel
theorem dX13_init_144 : decode cX13_init 144 = .ok (.newarray .long, 2) := by decide +kernel
theorem dX13_init_146 : decode cX13_init 146 = .ok (.putfield 69, 3) := by decide +kernel
theorem dX13_init_149 : decode cX13_init 149 = .ok (.aload_n 0, 1) := by decide +kernel
theorem dX13_init_150 : decode cX13_init 150 = .ok (.ldc 68, 2) := by decide +kernel
theorem dX13_init_152 : decode cX13_init 152 = .ok (.newarray .long, 2) := by decide +kernel
theorem dX13_init_154 : decode cX13_init 154 = .ok (.putfield 73, 3) := by decide +kernel
theorem dX13_init_157 : decode cX13_init 157 = .ok (.aload_n 0, 1) := by decide +kernel
theorem dX13_init_158 : decode cX13_init 158 = .ok (.sipush 6200, 3) := by decide +kernel
theorem dX13_init_161 : decode cX13_init 161 = .ok (.newarray .long, 2) := by decide +kernel
theorem dX13_init_163 : decode cX13_init 163 = .ok (.putfield 76, 3) := by decide +kernel
theorem dX13_init_166 : decode cX13_init 166 = .ok (.aload_n 0, 1) := by decide +kernel
theorem dX13_init_167 : decode cX13_init 167 = .ok (.sipush 6200, 3) := by decide +kernel
theorem dX13_init_170 : decode cX13_init 170 = .ok (.newarray .int, 2) := by decide +kernel
theorem dX13_init_172 : decode cX13_init 172 = .ok (.putfield 79, 3) := by decide +kernel
theorem dX13_init_175 : decode cX13_init 175 = .ok (.aload_n 0, 1) := by decide +kernel
theorem dX13_init_176 : decode cX13_init 176 = .ok (.ldc 82, 2) := by decide +kernel
theorem dX13_init_178 : decode cX13_init 178 = .ok (.newarray .int, 2) := by decide +kernel
theorem dX13_init_180 : decode cX13_init 180 = .ok (.putfield 83, 3) := by decide +kernel
theorem dX13_init_183 : decode cX13_init 183 = .ok (.aload_n 0, 1) := by decide +kernel
theorem dX13_init_184 : decode cX13_init 184 = .ok (.ldc 82, 2) := by decide +kernel
theorem dX13_init_186 : decode cX13_init 186 = .ok (.newarray .int, 2) := by decide +kernel
theorem dX13_init_188 : decode cX13_init 188 = .ok (.putfield 86, 3) := by decide +kernel
theorem dX13_init_191 : decode cX13_init 191 = .ok (.aload_n 0, 1) := by decide +kernel
theorem dX13_init_192 : decode cX13_init 192 = .ok (.ldc 82, 2) := by decide +kernel
theorem dX13_init_194 : decode cX13_init 194 = .ok (.newarray .int, 2) := by decide +kernel
theorem dX13_init_196 : decode cX13_init 196 = .ok (.putfield 89, 3) := by decide +kernel
theorem dX13_init_199 : decode cX13_init 199 = .ok (.aload_n 0, 1) := by decide +kernel
theorem dX13_init_200 : decode cX13_init 200 = .ok (.sipush 4096, 3) := by decide +kernel
theorem dX13_init_203 : decode cX13_init 203 = .ok (.newarray .long, 2) := by decide +kernel
theorem dX13_init_205 : decode cX13_init 205 = .ok (.putfield 92, 3) := by decide +kernel
theorem dX13_init_208 : decode cX13_init 208 = .ok (.aload_n 0, 1) := by decide +kernel
theorem dX13_init_209 : decode cX13_init 209 = .ok (.sipush 4096, 3) := by decide +kernel
theorem dX13_init_212 : decode cX13_init 212 = .ok (.newarray .int, 2) := by decide +kernel
theorem dX13_init_214 : decode cX13_init 214 = .ok (.putfield 95, 3) := by decide +kernel
theorem dX13_init_217 : decode cX13_init 217 = .ok (.aload_n 0, 1) := by decide +kernel
theorem dX13_init_218 : decode cX13_init 218 = .ok (.sipush 1024, 3) := by decide +kernel
theorem dX13_init_221 : decode cX13_init 221 = .ok (.newarray .int, 2) := by decide +kernel
theorem dX13_init_223 : decode cX13_init 223 = .ok (.putfield 98, 3) := by decide +kernel
theorem dX13_init_226 : decode cX13_init 226 = .ok (.aload_n 0, 1) := by decide +kernel
theorem dX13_init_227 : decode cX13_init 227 = .ok (.sipush 1024, 3) := by decide +kernel
theorem dX13_init_230 : decode cX13_init 230 = .ok (.newarray .int, 2) := by decide +kernel
theorem dX13_init_232 : decode cX13_init 232 = .ok (.putfield 101, 3) := by decide +kernel
theorem dX13_init_235 : decode cX13_init 235 = .ok (.aload_n 0, 1) := by decide +kernel
theorem dX13_init_236 : decode cX13_init 236 = .ok (.sipush 1024, 3) := by decide +kernel
theorem dX13_init_239 : decode cX13_init 239 = .ok (.newarray .int, 2) := by decide +kernel
theorem dX13_init_241 : decode cX13_init 241 = .ok (.putfield 104, 3) := by decide +kernel
theorem dX13_init_244 : decode cX13_init 244 = .ok (.aload_n 0, 1) := by decide +kernel
theorem dX13_init_245 : decode cX13_init 245 = .ok (.sipush 1024, 3) := by decide +kernel
theorem dX13_init_248 : decode cX13_init 248 = .ok (.newarray .int, 2) := by decide +kernel
theorem dX13_init_250 : decode cX13_init 250 = .ok (.putfield 107, 3) := by decide +kernel
theorem dX13_init_253 : decode cX13_init 253 = .ok (.aload_n 0, 1) := by decide +kernel
theorem dX13_init_254 : decode cX13_init 254 = .ok (.sipush 1024, 3) := by decide +kernel
theorem dX13_init_257 : decode cX13_init 257 = .ok (.newarray .long, 2) := by decide +kernel
theorem dX13_init_259 : decode cX13_init 259 = .ok (.putfield 110, 3) := by decide +kernel
theorem dX13_init_262 : decode cX13_init 262 = .ok (.aload_n 0, 1) := by decide +kernel
theorem dX13_init_263 : decode cX13_init 263 = .ok (.sipush 3000, 3) := by decide +kernel
theorem dX13_init_266 : decode cX13_init 266 = .ok (.newarray .long, 2) := by decide +kernel
theorem dX13_init_268 : decode cX13_init 268 = .ok (.putfield 113, 3) := by decide +kernel
theorem dX13_init_271 : decode cX13_init 271 = .ok (.aload_n 0, 1) := by decide +kernel
theorem dX13_init_272 : decode cX13_init 272 = .ok (.sipush 200, 3) := by decide +kernel
theorem dX13_init_275 : decode cX13_init 275 = .ok (.newarray .int, 2) := by decide +kernel
theorem dX13_init_277 : decode cX13_init 277 = .ok (.putfield 116, 3) := by decide +kernel
theorem dX13_init_280 : decode cX13_init 280 = .ok (.aload_n 0, 1) := by decide +kernel
theorem dX13_init_281 : decode cX13_init 281 = .ok (.sipush 1000, 3) := by decide +kernel
theorem dX13_init_284 : decode cX13_init 284 = .ok (.newarray .int, 2) := by decide +kernel
theorem dX13_init_286 : decode cX13_init 286 = .ok (.putfield 119, 3) := by decide +kernel
theorem dX13_init_289 : decode cX13_init 289 = .ok (.aload_n 0, 1) := by decide +kernel
theorem dX13_init_290 : decode cX13_init 290 = .ok (.iconst 4, 1) := by decide +kernel
theorem dX13_init_291 : decode cX13_init 291 = .ok (.newarray .long, 2) := by decide +kernel
theorem dX13_init_293 : decode cX13_init 293 = .ok (.putfield 122, 3) := by decide +kernel
theorem dX13_init_296 : decode cX13_init 296 = .ok (.return_, 1) := by decide +kernel
theorem dX13_feed_0 : decode cX13_feed 0 = .ok (.aload_n 0, 1) := by decide +kernel
theorem dX13_feed_1 : decode cX13_feed 1 = .ok (.getfield 125, 3) := by decide +kernel
theorem dX13_feed_4 : decode cX13_feed 4 = .ok (.bipush 20, 2) := by decide +kernel
theorem dX13_feed_6 : decode cX13_feed 6 = .ok (.iadd, 1) := by decide +kernel
theorem dX13_feed_7 : decode cX13_feed 7 = .ok (.sipush 3000, 3) := by decide +kernel
theorem dX13_feed_10 : decode cX13_feed 10 = .ok (.if_icmp .le 5, 3) := by decide +kernel
theorem dX13_feed_13 : decode cX13_feed 13 = .ok (.iconst (-1), 1) := by decide +kernel
theorem dX13_feed_14 : decode cX13_feed 14 = .ok (.ireturn, 1) := by decide +kernel
theorem dX13_feed_15 : decode cX13_feed 15 = .ok (.aload_n 0, 1) := by decide +kernel
theorem dX13_feed_16 : decode cX13_feed 16 = .ok (.iload_n 1, 1) := by decide +kernel
theorem dX13_feed_17 : decode cX13_feed 17 = .ok (.invokevirtual 128, 3) := by decide +kernel
theorem dX13_feed_20 : decode cX13_feed 20 = .ok (.aload_n 0, 1) := by decide +kernel
theorem dX13_feed_21 : decode cX13_feed 21 = .ok (.iload_n 2, 1) := by decide +kernel
theorem dX13_feed_22 : decode cX13_feed 22 = .ok (.invokevirtual 128, 3) := by decide +kernel
theorem dX13_feed_25 : decode cX13_feed 25 = .ok (.aload_n 0, 1) := by decide +kernel
theorem dX13_feed_26 : decode cX13_feed 26 = .ok (.iload_n 3, 1) := by decide +kernel
theorem dX13_feed_27 : decode cX13_feed 27 = .ok (.invokevirtual 128, 3) := by decide +kernel
theorem dX13_feed_30 : decode cX13_feed 30 = .ok (.aload_n 0, 1) := by decide +kernel
theorem dX13_feed_31 : decode cX13_feed 31 = .ok (.iload 4, 2) := by decide +kernel
theorem dX13_feed_33 : decode cX13_feed 33 = .ok (.invokevirtual 128, 3) := by decide +kernel
theorem dX13_feed_36 : decode cX13_feed 36 = .ok (.aload_n 0, 1) := by decide +kernel
theorem dX13_feed_37 : decode cX13_feed 37 = .ok (.iload 5, 2) := by decide +kernel
theorem dX13_feed_39 : decode cX13_feed 39 = .ok (.invokevirtual 128, 3) := by decide +kernel
theorem dX13_feed_42 : decode cX13_feed 42 = .ok (.aload_n 0, 1) := by decide +kernel
theorem dX13_feed_43 : decode cX13_feed 43 = .ok (.getfield 125, 3) := by decide +kernel
theorem dX13_feed_46 : decode cX13_feed 46 = .ok (.ireturn, 1) := by decide +kernel
theorem dX13_four_0 : decode cX13_four 0 = .ok (.bipush 24, 2) := by decide +kernel
theorem dX13_four_2 : decode cX13_four 2 = .ok (.istore_n 2, 1) := by decide +kernel
theorem dX13_four_3 : decode cX13_four 3 = .ok (.iload_n 2, 1) := by decide +kernel
theorem dX13_four_4 : decode cX13_four 4 = .ok (.ifCond .lt 32, 3) := by decide +kernel
theorem dX13_four_7 : decode cX13_four 7 = .ok (.aload_n 0, 1) := by decide +kernel
theorem dX13_four_8 : decode cX13_four 8 = .ok (.getfield 9, 3) := by decide +kernel
theorem dX13_four_11 : decode cX13_four 11 = .ok (.aload_n 0, 1) := by decide +kernel
theorem dX13_four_12 : decode cX13_four 12 = .ok (.getfield 125, 3) := by decide +kernel
theorem dX13_four_15 : decode cX13_four 15 = .ok (.iload_n 1, 1) := by decide +kernel
theorem dX13_four_16 : decode cX13_four 16 = .ok (.iload_n 2, 1) := by decide +kernel
theorem dX13_four_17 : decode cX13_four 17 = .ok (.ishr, 1) := by decide +kernel
theorem dX13_four_18 : decode cX13_four 18 = .ok (.i2b, 1) := by decide +kernel
theorem dX13_four_19 : decode cX13_four 19 = .ok (.bastore, 1) := by decide +kernel
theorem dX13_four_20 : decode cX13_four 20 = .ok (.aload_n 0, 1) := by decide +kernel
theorem dX13_four_21 : decode cX13_four 21 = .ok (.dup, 1) := by decide +kernel
theorem dX13_four_22 : decode cX13_four 22 = .ok (.getfield 125, 3) := by decide +kernel
theorem dX13_four_25 : decode cX13_four 25 = .ok (.iconst 1, 1) := by decide +kernel
theorem dX13_four_26 : decode cX13_four 26 = .ok (.iadd, 1) := by decide +kernel
theorem dX13_four_27 : decode cX13_four 27 = .ok (.putfield 125, 3) := by decide +kernel
theorem dX13_four_30 : decode cX13_four 30 = .ok (.iinc 2 (-8), 3) := by decide +kernel
theorem dX13_four_33 : decode cX13_four 33 = .ok (.goto (-30), 3) := by decide +kernel
theorem dX13_four_36 : decode cX13_four 36 = .ok (.return_, 1) := by decide +kernel
theorem dX13_isDigit_0 : decode cX13_isDigit 0 = .ok (.iload_n 0, 1) := by decide +kernel
theorem dX13_isDigit_1 : decode cX13_isDigit 1 = .ok (.bipush 48, 2) := by decide +kernel
theorem dX13_isDigit_3 : decode cX13_isDigit 3 = .ok (.if_icmp .lt 13, 3) := by decide +kernel
theorem dX13_isDigit_6 : decode cX13_isDigit 6 = .ok (.iload_n 0, 1) := by decide +kernel
theorem dX13_isDigit_7 : decode cX13_isDigit 7 = .ok (.bipush 57, 2) := by decide +kernel
theorem dX13_isDigit_9 : decode cX13_isDigit 9 = .ok (.if_icmp .gt 7, 3) := by decide +kernel
theorem dX13_isDigit_12 : decode cX13_isDigit 12 = .ok (.iconst 1, 1) := by decide +kernel
theorem dX13_isDigit_13 : decode cX13_isDigit 13 = .ok (.goto 4, 3) := by decide +kernel
theorem dX13_isDigit_16 : decode cX13_isDigit 16 = .ok (.iconst 0, 1) := by decide +kernel
theorem dX13_isDigit_17 : decode cX13_isDigit 17 = .ok (.ireturn, 1) := by decide +kernel
theorem dX13_isOfWord_0 : decode cX13_isOfWord 0 = .ok (.iload_n 0, 1) := by decide +kernel
theorem dX13_isOfWord_1 : decode cX13_isOfWord 1 = .ok (.bipush 97, 2) := by decide +kernel
theorem dX13_isOfWord_3 : decode cX13_isOfWord 3 = .ok (.if_icmp .lt 9, 3) := by decide +kernel
theorem dX13_isOfWord_6 : decode cX13_isOfWord 6 = .ok (.iload_n 0, 1) := by decide +kernel
theorem dX13_isOfWord_7 : decode cX13_isOfWord 7 = .ok (.bipush 122, 2) := by decide +kernel
theorem dX13_isOfWord_9 : decode cX13_isOfWord 9 = .ok (.if_icmp .le 10, 3) := by decide +kernel
theorem dX13_isOfWord_12 : decode cX13_isOfWord 12 = .ok (.iload_n 0, 1) := by decide +kernel
theorem dX13_isOfWord_13 : decode cX13_isOfWord 13 = .ok (.invokestatic 132, 3) := by decide +kernel
theorem dX13_isOfWord_16 : decode cX13_isOfWord 16 = .ok (.ifCond .eq 5, 3) := by decide +kernel
theorem dX13_isOfWord_19 : decode cX13_isOfWord 19 = .ok (.iconst 1, 1) := by decide +kernel
theorem dX13_isOfWord_20 : decode cX13_isOfWord 20 = .ok (.ireturn, 1) := by decide +kernel
theorem dX13_isOfWord_21 : decode cX13_isOfWord 21 = .ok (.iload_n 0, 1) := by decide +kernel
theorem dX13_isOfWord_22 : decode cX13_isOfWord 22 = .ok (.lookupswitch 100 #[(33, 98), (35, 98), (42, 98), (43, 98), (45, 98), (47, 98), (60, 98), (61, 98), (62, 98), (63, 98), (95, 98)], 98) := by decide +kernel
theorem dX13_isOfWord_120 : decode cX13_isOfWord 120 = .ok (.iconst 1, 1) := by decide +kernel
theorem dX13_isOfWord_121 : decode cX13_isOfWord 121 = .ok (.ireturn, 1) := by decide +kernel
theorem dX13_isOfWord_122 : decode cX13_isOfWord 122 = .ok (.iconst 0, 1) := by decide +kernel
theorem dX13_isOfWord_123 : decode cX13_isOfWord 123 = .ok (.ireturn, 1) := by decide +kernel
theorem dX13_token_0 : decode cX13_token 0 = .ok (.aload_n 0, 1) := by decide +kernel
theorem dX13_token_1 : decode cX13_token 1 = .ok (.getfield 20, 3) := by decide +kernel
theorem dX13_token_4 : decode cX13_token 4 = .ok (.aload_n 0, 1) := by decide +kernel
theorem dX13_token_5 : decode cX13_token 5 = .ok (.getfield 136, 3) := by decide +kernel
theorem dX13_token_8 : decode cX13_token 8 = .ok (.iload_n 1, 1) := by decide +kernel
theorem dX13_token_9 : decode cX13_token 9 = .ok (.iastore, 1) := by decide +kernel
theorem dX13_token_10 : decode cX13_token 10 = .ok (.aload_n 0, 1) := by decide +kernel
theorem dX13_token_11 : decode cX13_token 11 = .ok (.getfield 24, 3) := by decide +kernel
theorem dX13_token_14 : decode cX13_token 14 = .ok (.aload_n 0, 1) := by decide +kernel
theorem dX13_token_15 : decode cX13_token 15 = .ok (.getfield 136, 3) := by decide +kernel
theorem dX13_token_18 : decode cX13_token 18 = .ok (.iload_n 2, 1) := by decide +kernel
theorem dX13_token_19 : decode cX13_token 19 = .ok (.iastore, 1) := by decide +kernel
theorem dX13_token_20 : decode cX13_token 20 = .ok (.aload_n 0, 1) := by decide +kernel
theorem dX13_token_21 : decode cX13_token 21 = .ok (.getfield 27, 3) := by decide +kernel
theorem dX13_token_24 : decode cX13_token 24 = .ok (.aload_n 0, 1) := by decide +kernel
theorem dX13_token_25 : decode cX13_token 25 = .ok (.getfield 136, 3) := by decide +kernel
theorem dX13_token_28 : decode cX13_token 28 = .ok (.iload_n 3, 1) := by decide +kernel
theorem dX13_token_29 : decode cX13_token 29 = .ok (.iastore, 1) := by decide +kernel
theorem dX13_token_30 : decode cX13_token 30 = .ok (.aload_n 0, 1) := by decide +kernel
theorem dX13_token_31 : decode cX13_token 31 = .ok (.dup, 1) := by decide +kernel
theorem dX13_token_32 : decode cX13_token 32 = .ok (.getfield 136, 3) := by decide +kernel
theorem dX13_token_35 : decode cX13_token 35 = .ok (.iconst 1, 1) := by decide +kernel
theorem dX13_token_36 : decode cX13_token 36 = .ok (.iadd, 1) := by decide +kernel
theorem dX13_token_37 : decode cX13_token 37 = .ok (.putfield 136, 3) := by decide +kernel
theorem dX13_token_40 : decode cX13_token 40 = .ok (.return_, 1) := by decide +kernel
theorem dX13_blanks_0 : decode cX13_blanks 0 = .ok (.iload_n 1, 1) := by decide +kernel
theorem dX13_blanks_1 : decode cX13_blanks 1 = .ok (.istore_n 2, 1) := by decide +kernel
theorem dX13_blanks_2 : decode cX13_blanks 2 = .ok (.iload_n 2, 1) := by decide +kernel
theorem dX13_blanks_3 : decode cX13_blanks 3 = .ok (.aload_n 0, 1) := by decide +kernel
theorem dX13_blanks_4 : decode cX13_blanks 4 = .ok (.getfield 139, 3) := by decide +kernel
theorem dX13_blanks_7 : decode cX13_blanks 7 = .ok (.if_icmp .ge 89, 3) := by decide +kernel
theorem dX13_blanks_10 : decode cX13_blanks 10 = .ok (.aload_n 0, 1) := by decide +kernel
theorem dX13_blanks_11 : decode cX13_blanks 11 = .ok (.getfield 17, 3) := by decide +kernel
theorem dX13_blanks_14 : decode cX13_blanks 14 = .ok (.iload_n 2, 1) := by decide +kernel
theorem dX13_blanks_15 : decode cX13_blanks 15 = .ok (.baload, 1) := by decide +kernel
theorem dX13_blanks_16 : decode cX13_blanks 16 = .ok (.bipush 9, 2) := by decide +kernel
theorem dX13_blanks_18 : decode cX13_blanks 18 = .ok (.if_icmp .eq 36, 3) := by decide +kernel
theorem dX13_blanks_21 : decode cX13_blanks 21 = .ok (.aload_n 0, 1) := by decide +kernel
theorem dX13_blanks_22 : decode cX13_blanks 22 = .ok (.getfield 17, 3) := by decide +kernel
theorem dX13_blanks_25 : decode cX13_blanks 25 = .ok (.iload_n 2, 1) := by decide +kernel
theorem dX13_blanks_26 : decode cX13_blanks 26 = .ok (.baload, 1) := by decide +kernel
theorem dX13_blanks_27 : decode cX13_blanks 27 = .ok (.bipush 10, 2) := by decide +kernel
theorem dX13_blanks_29 : decode cX13_blanks 29 = .ok (.if_icmp .eq 25, 3) := by decide +kernel
theorem dX13_blanks_32 : decode cX13_blanks 32 = .ok (.aload_n 0, 1) := by decide +kernel
theorem dX13_blanks_33 : decode cX13_blanks 33 = .ok (.getfield 17, 3) := by decide +kernel
theorem dX13_blanks_36 : decode cX13_blanks 36 = .ok (.iload_n 2, 1) := by decide +kernel
theorem dX13_blanks_37 : decode cX13_blanks 37 = .ok (.baload, 1) := by decide +kernel
theorem dX13_blanks_38 : decode cX13_blanks 38 = .ok (.bipush 32, 2) := by decide +kernel
theorem dX13_blanks_40 : decode cX13_blanks 40 = .ok (.if_icmp .eq 14, 3) := by decide +kernel
theorem dX13_blanks_43 : decode cX13_blanks 43 = .ok (.aload_n 0, 1) := by decide +kernel
theorem dX13_blanks_44 : decode cX13_blanks 44 = .ok (.getfield 17, 3) := by decide +kernel
theorem dX13_blanks_47 : decode cX13_blanks 47 = .ok (.iload_n 2, 1) := by decide +kernel
theorem dX13_blanks_48 : decode cX13_blanks 48 = .ok (.baload, 1) := by decide +kernel
theorem dX13_blanks_49 : decode cX13_blanks 49 = .ok (.bipush 59, 2) := by decide +kernel
theorem dX13_blanks_51 : decode cX13_blanks 51 = .ok (.if_icmp .ne 45, 3) := by decide +kernel
theorem dX13_blanks_54 : decode cX13_blanks 54 = .ok (.aload_n 0, 1) := by decide +kernel
theorem dX13_blanks_55 : decode cX13_blanks 55 = .ok (.getfield 17, 3) := by decide +kernel
theorem dX13_blanks_58 : decode cX13_blanks 58 = .ok (.iload_n 2, 1) := by decide +kernel
theorem dX13_blanks_59 : decode cX13_blanks 59 = .ok (.baload, 1) := by decide +kernel
theorem dX13_blanks_60 : decode cX13_blanks 60 = .ok (.bipush 59, 2) := by decide +kernel
theorem dX13_blanks_62 : decode cX13_blanks 62 = .ok (.if_icmp .ne 28, 3) := by decide +kernel
theorem dX13_blanks_65 : decode cX13_blanks 65 = .ok (.iload_n 2, 1) := by decide +kernel
theorem dX13_blanks_66 : decode cX13_blanks 66 = .ok (.aload_n 0, 1) := by decide +kernel
theorem dX13_blanks_67 : decode cX13_blanks 67 = .ok (.getfield 139, 3) := by decide +kernel
theorem dX13_blanks_70 : decode cX13_blanks 70 = .ok (.if_icmp .ge (-68), 3) := by decide +kernel
theorem dX13_blanks_73 : decode cX13_blanks 73 = .ok (.aload_n 0, 1) := by decide +kernel
theorem dX13_blanks_74 : decode cX13_blanks 74 = .ok (.getfield 17, 3) := by decide +kernel
theorem dX13_blanks_77 : decode cX13_blanks 77 = .ok (.iload_n 2, 1) := by decide +kernel
theorem dX13_blanks_78 : decode cX13_blanks 78 = .ok (.baload, 1) := by decide +kernel
theorem dX13_blanks_79 : decode cX13_blanks 79 = .ok (.bipush 10, 2) := by decide +kernel
theorem dX13_blanks_81 : decode cX13_blanks 81 = .ok (.if_icmp .eq (-79), 3) := by decide +kernel
theorem dX13_blanks_84 : decode cX13_blanks 84 = .ok (.iinc 2 1, 3) := by decide +kernel
theorem dX13_blanks_87 : decode cX13_blanks 87 = .ok (.goto (-22), 3) := by decide +kernel
theorem dX13_blanks_90 : decode cX13_blanks 90 = .ok (.iinc 2 1, 3) := by decide +kernel
theorem dX13_blanks_93 : decode cX13_blanks 93 = .ok (.goto (-91), 3) := by decide +kernel
theorem dX13_blanks_96 : decode cX13_blanks 96 = .ok (.iload_n 2, 1) := by decide +kernel
theorem dX13_blanks_97 : decode cX13_blanks 97 = .ok (.ireturn, 1) := by decide +kernel
theorem dX13_scans_0 : decode cX13_scans 0 = .ok (.aload_n 0, 1) := by decide +kernel
theorem dX13_scans_1 : decode cX13_scans 1 = .ok (.iconst 0, 1) := by decide +kernel
theorem dX13_scans_2 : decode cX13_scans 2 = .ok (.putfield 136, 3) := by decide +kernel
theorem dX13_scans_5 : decode cX13_scans 5 = .ok (.iconst 0, 1) := by decide +kernel
theorem dX13_scans_6 : decode cX13_scans 6 = .ok (.istore_n 1, 1) := by decide +kernel
theorem dX13_scans_7 : decode cX13_scans 7 = .ok (.iload_n 1, 1) := by decide +kernel
theorem dX13_scans_8 : decode cX13_scans 8 = .ok (.aload_n 0, 1) := by decide +kernel
theorem dX13_scans_9 : decode cX13_scans 9 = .ok (.getfield 139, 3) := by decide +kernel
theorem dX13_scans_12 : decode cX13_scans 12 = .ok (.if_icmp .ge 24, 3) := by decide +kernel
theorem dX13_scans_15 : decode cX13_scans 15 = .ok (.aload_n 0, 1) := by decide +kernel
theorem dX13_scans_16 : decode cX13_scans 16 = .ok (.getfield 47, 3) := by decide +kernel
theorem dX13_scans_19 : decode cX13_scans 19 = .ok (.getfield 142, 3) := by decide +kernel
theorem dX13_scans_22 : decode cX13_scans 22 = .ok (.iload_n 1, 1) := by decide +kernel
theorem dX13_scans_23 : decode cX13_scans 23 = .ok (.aload_n 0, 1) := by decide +kernel
theorem dX13_scans_24 : decode cX13_scans 24 = .ok (.getfield 17, 3) := by decide +kernel
theorem dX13_scans_27 : decode cX13_scans 27 = .ok (.iload_n 1, 1) := by decide +kernel
theorem dX13_scans_28 : decode cX13_scans 28 = .ok (.baload, 1) := by decide +kernel
theorem dX13_scans_29 : decode cX13_scans 29 = .ok (.bastore, 1) := by decide +kernel
theorem dX13_scans_30 : decode cX13_scans 30 = .ok (.iinc 1 1, 3) := by decide +kernel
theorem dX13_scans_33 : decode cX13_scans 33 = .ok (.goto (-26), 3) := by decide +kernel
theorem dX13_scans_36 : decode cX13_scans 36 = .ok (.aload_n 0, 1) := by decide +kernel
theorem dX13_scans_37 : decode cX13_scans 37 = .ok (.iconst 0, 1) := by decide +kernel
theorem dX13_scans_38 : decode cX13_scans 38 = .ok (.invokevirtual 143, 3) := by decide +kernel
theorem dX13_scans_41 : decode cX13_scans 41 = .ok (.istore_n 1, 1) := by decide +kernel
theorem dX13_scans_42 : decode cX13_scans 42 = .ok (.iload_n 1, 1) := by decide +kernel
theorem dX13_scans_43 : decode cX13_scans 43 = .ok (.aload_n 0, 1) := by decide +kernel
theorem dX13_scans_44 : decode cX13_scans 44 = .ok (.getfield 139, 3) := by decide +kernel
theorem dX13_scans_47 : decode cX13_scans 47 = .ok (.if_icmp .ge 136, 3) := by decide +kernel
theorem dX13_scans_50 : decode cX13_scans 50 = .ok (.iload_n 1, 1) := by decide +kernel
theorem dX13_scans_51 : decode cX13_scans 51 = .ok (.istore_n 2, 1) := by decide +kernel
theorem dX13_scans_52 : decode cX13_scans 52 = .ok (.aload_n 0, 1) := by decide +kernel
theorem dX13_scans_53 : decode cX13_scans 53 = .ok (.getfield 17, 3) := by decide +kernel
theorem dX13_scans_56 : decode cX13_scans 56 = .ok (.iload_n 1, 1) := by decide +kernel
theorem dX13_scans_57 : decode cX13_scans 57 = .ok (.baload, 1) := by decide +kernel
theorem dX13_scans_58 : decode cX13_scans 58 = .ok (.istore_n 3, 1) := by decide +kernel
theorem dX13_scans_59 : decode cX13_scans 59 = .ok (.iload_n 3, 1) := by decide +kernel
theorem dX13_scans_60 : decode cX13_scans 60 = .ok (.bipush 40, 2) := by decide +kernel
theorem dX13_scans_62 : decode cX13_scans 62 = .ok (.if_icmp .eq 15, 3) := by decide +kernel
theorem dX13_scans_65 : decode cX13_scans 65 = .ok (.iload_n 3, 1) := by decide +kernel
theorem dX13_scans_66 : decode cX13_scans 66 = .ok (.bipush 41, 2) := by decide +kernel
theorem dX13_scans_68 : decode cX13_scans 68 = .ok (.if_icmp .eq 9, 3) := by decide +kernel
theorem dX13_scans_71 : decode cX13_scans 71 = .ok (.iload_n 3, 1) := by decide +kernel
theorem dX13_scans_72 : decode cX13_scans 72 = .ok (.bipush 39, 2) := by decide +kernel
theorem dX13_scans_74 : decode cX13_scans 74 = .ok (.if_icmp .ne 50, 3) := by decide +kernel
theorem dX13_scans_77 : decode cX13_scans 77 = .ok (.aload_n 0, 1) := by decide +kernel
theorem dX13_scans_78 : decode cX13_scans 78 = .ok (.iload_n 3, 1) := by decide +kernel
theorem dX13_scans_79 : decode cX13_scans 79 = .ok (.bipush 40, 2) := by decide +kernel
theorem dX13_scans_81 : decode cX13_scans 81 = .ok (.if_icmp .ne 7, 3) := by decide +kernel
theorem dX13_scans_84 : decode cX13_scans 84 = .ok (.iconst 2, 1) := by decide +kernel
theorem dX13_scans_85 : decode cX13_scans 85 = .ok (.goto 14, 3) := by decide +kernel
theorem dX13_scans_88 : decode cX13_scans 88 = .ok (.iload_n 3, 1) := by decide +kernel
theorem dX13_scans_89 : decode cX13_scans 89 = .ok (.bipush 41, 2) := by decide +kernel
theorem dX13_scans_91 : decode cX13_scans 91 = .ok (.if_icmp .ne 7, 3) := by decide +kernel
theorem dX13_scans_94 : decode cX13_scans 94 = .ok (.iconst 3, 1) := by decide +kernel
theorem dX13_scans_95 : decode cX13_scans 95 = .ok (.goto 4, 3) := by decide +kernel
theorem dX13_scans_98 : decode cX13_scans 98 = .ok (.iconst 4, 1) := by decide +kernel
theorem dX13_scans_99 : decode cX13_scans 99 = .ok (.iload_n 2, 1) := by decide +kernel
theorem dX13_scans_100 : decode cX13_scans 100 = .ok (.iload_n 3, 1) := by decide +kernel
theorem dX13_scans_101 : decode cX13_scans 101 = .ok (.bipush 39, 2) := by decide +kernel
theorem dX13_scans_103 : decode cX13_scans 103 = .ok (.if_icmp .ne 11, 3) := by decide +kernel
theorem dX13_scans_106 : decode cX13_scans 106 = .ok (.aload_n 0, 1) := by decide +kernel
theorem dX13_scans_107 : decode cX13_scans 107 = .ok (.iconst 1, 1) := by decide +kernel
theorem dX13_scans_108 : decode cX13_scans 108 = .ok (.invokevirtual 147, 3) := by decide +kernel
theorem dX13_scans_111 : decode cX13_scans 111 = .ok (.goto 4, 3) := by decide +kernel
theorem dX13_scans_114 : decode cX13_scans 114 = .ok (.iconst 0, 1) := by decide +kernel
theorem dX13_scans_115 : decode cX13_scans 115 = .ok (.invokevirtual 150, 3) := by decide +kernel
theorem dX13_scans_118 : decode cX13_scans 118 = .ok (.iinc 1 1, 3) := by decide +kernel
theorem dX13_scans_121 : decode cX13_scans 121 = .ok (.goto 53, 3) := by decide +kernel
theorem dX13_scans_124 : decode cX13_scans 124 = .ok (.iload_n 1, 1) := by decide +kernel
theorem dX13_scans_125 : decode cX13_scans 125 = .ok (.aload_n 0, 1) := by decide +kernel
theorem dX13_scans_126 : decode cX13_scans 126 = .ok (.getfield 139, 3) := by decide +kernel
theorem dX13_scans_129 : decode cX13_scans 129 = .ok (.if_icmp .ge 21, 3) := by decide +kernel
theorem dX13_scans_132 : decode cX13_scans 132 = .ok (.aload_n 0, 1) := by decide +kernel
theorem dX13_scans_133 : decode cX13_scans 133 = .ok (.getfield 17, 3) := by decide +kernel
theorem dX13_scans_136 : decode cX13_scans 136 = .ok (.iload_n 1, 1) := by decide +kernel
theorem dX13_scans_137 : decode cX13_scans 137 = .ok (.baload, 1) := by decide +kernel
theorem dX13_scans_138 : decode cX13_scans 138 = .ok (.invokestatic 154, 3) := by decide +kernel
theorem dX13_scans_141 : decode cX13_scans 141 = .ok (.ifCond .eq 9, 3) := by decide +kernel
theorem dX13_scans_144 : decode cX13_scans 144 = .ok (.iinc 1 1, 3) := by decide +kernel
theorem dX13_scans_147 : decode cX13_scans 147 = .ok (.goto (-23), 3) := by decide +kernel
theorem dX13_scans_150 : decode cX13_scans 150 = .ok (.aload_n 0, 1) := by decide +kernel
theorem dX13_scans_151 : decode cX13_scans 151 = .ok (.iload_n 2, 1) := by decide +kernel
theorem dX13_scans_152 : decode cX13_scans 152 = .ok (.iload_n 1, 1) := by decide +kernel
theorem dX13_scans_153 : decode cX13_scans 153 = .ok (.iload_n 2, 1) := by decide +kernel
theorem dX13_scans_154 : decode cX13_scans 154 = .ok (.isub, 1) := by decide +kernel
theorem dX13_scans_155 : decode cX13_scans 155 = .ok (.invokevirtual 157, 3) := by decide +kernel
theorem dX13_scans_158 : decode cX13_scans 158 = .ok (.aload_n 0, 1) := by decide +kernel
theorem dX13_scans_159 : decode cX13_scans 159 = .ok (.getfield 20, 3) := by decide +kernel
theorem dX13_scans_162 : decode cX13_scans 162 = .ok (.aload_n 0, 1) := by decide +kernel
theorem dX13_scans_163 : decode cX13_scans 163 = .ok (.getfield 136, 3) := by decide +kernel
theorem dX13_scans_166 : decode cX13_scans 166 = .ok (.iconst 1, 1) := by decide +kernel
theorem dX13_scans_167 : decode cX13_scans 167 = .ok (.isub, 1) := by decide +kernel
theorem dX13_scans_168 : decode cX13_scans 168 = .ok (.iaload, 1) := by decide +kernel
theorem dX13_scans_169 : decode cX13_scans 169 = .ok (.iconst 1, 1) := by decide +kernel
theorem dX13_scans_170 : decode cX13_scans 170 = .ok (.if_icmp .ne 4, 3) := by decide +kernel
theorem dX13_scans_173 : decode cX13_scans 173 = .ok (.return_, 1) := by decide +kernel
theorem dX13_scans_174 : decode cX13_scans 174 = .ok (.aload_n 0, 1) := by decide +kernel
theorem dX13_scans_175 : decode cX13_scans 175 = .ok (.iload_n 1, 1) := by decide +kernel
theorem dX13_scans_176 : decode cX13_scans 176 = .ok (.invokevirtual 143, 3) := by decide +kernel
theorem dX13_scans_179 : decode cX13_scans 179 = .ok (.istore_n 1, 1) := by decide +kernel
theorem dX13_scans_180 : decode cX13_scans 180 = .ok (.goto (-138), 3) := by decide +kernel
theorem dX13_scans_183 : decode cX13_scans 183 = .ok (.aload_n 0, 1) := by decide +kernel
theorem dX13_scans_184 : decode cX13_scans 184 = .ok (.iconst 0, 1) := by decide +kernel
theorem dX13_scans_185 : decode cX13_scans 185 = .ok (.aload_n 0, 1) := by decide +kernel
theorem dX13_scans_186 : decode cX13_scans 186 = .ok (.getfield 139, 3) := by decide +kernel
theorem dX13_scans_189 : decode cX13_scans 189 = .ok (.iconst 0, 1) := by decide +kernel
theorem dX13_scans_190 : decode cX13_scans 190 = .ok (.invokevirtual 150, 3) := by decide +kernel
theorem dX13_scans_193 : decode cX13_scans 193 = .ok (.return_, 1) := by decide +kernel
theorem dX13_word_0 : decode cX13_word 0 = .ok (.iload_n 2, 1) := by decide +kernel
theorem dX13_word_1 : decode cX13_word 1 = .ok (.ifCond .ne 7, 3) := by decide +kernel
theorem dX13_word_4 : decode cX13_word 4 = .ok (.iconst 0, 1) := by decide +kernel
theorem dX13_word_5 : decode cX13_word 5 = .ok (.goto 9, 3) := by decide +kernel
theorem dX13_word_8 : decode cX13_word 8 = .ok (.aload_n 0, 1) := by decide +kernel
theorem dX13_word_9 : decode cX13_word 9 = .ok (.getfield 17, 3) := by decide +kernel
theorem dX13_word_12 : decode cX13_word 12 = .ok (.iload_n 1, 1) := by decide +kernel
theorem dX13_word_13 : decode cX13_word 13 = .ok (.baload, 1) := by decide +kernel
theorem dX13_word_14 : decode cX13_word 14 = .ok (.istore_n 3, 1) := by decide +kernel
theorem dX13_word_15 : decode cX13_word 15 = .ok (.iload_n 3, 1) := by decide +kernel
theorem dX13_word_16 : decode cX13_word 16 = .ok (.bipush 45, 2) := by decide +kernel
theorem dX13_word_18 : decode cX13_word 18 = .ok (.if_icmp .ne 12, 3) := by decide +kernel
theorem dX13_word_21 : decode cX13_word 21 = .ok (.iload_n 2, 1) := by decide +kernel
theorem dX13_word_22 : decode cX13_word 22 = .ok (.iconst 1, 1) := by decide +kernel
theorem dX13_word_23 : decode cX13_word 23 = .ok (.if_icmp .le 7, 3) := by decide +kernel
theorem dX13_word_26 : decode cX13_word 26 = .ok (.iconst 1, 1) := by decide +kernel
theorem dX13_word_27 : decode cX13_word 27 = .ok (.goto 4, 3) := by decide +kernel
theorem dX13_word_30 : decode cX13_word 30 = .ok (.iconst 0, 1) := by decide +kernel
theorem dX13_word_31 : decode cX13_word 31 = .ok (.istore 4, 2) := by decide +kernel
theorem dX13_word_33 : decode cX13_word 33 = .ok (.iload_n 2, 1) := by decide +kernel
theorem dX13_word_34 : decode cX13_word 34 = .ok (.iload 4, 2) := by decide +kernel
theorem dX13_word_36 : decode cX13_word 36 = .ok (.ifCond .eq 7, 3) := by decide +kernel
theorem dX13_word_39 : decode cX13_word 39 = .ok (.iconst 1, 1) := by decide +kernel
theorem dX13_word_40 : decode cX13_word 40 = .ok (.goto 4, 3) := by decide +kernel
theorem dX13_word_43 : decode cX13_word 43 = .ok (.iconst 0, 1) := by decide +kernel
theorem dX13_word_44 : decode cX13_word 44 = .ok (.if_icmp .le 7, 3) := by decide +kernel
theorem dX13_word_47 : decode cX13_word 47 = .ok (.iconst 1, 1) := by decide +kernel
theorem dX13_word_48 : decode cX13_word 48 = .ok (.goto 4, 3) := by decide +kernel
theorem dX13_word_51 : decode cX13_word 51 = .ok (.iconst 0, 1) := by decide +kernel
theorem dX13_word_52 : decode cX13_word 52 = .ok (.istore 5, 2) := by decide +kernel
theorem dX13_word_54 : decode cX13_word 54 = .ok (.lconst 0, 1) := by decide +kernel
theorem dX13_word_55 : decode cX13_word 55 = .ok (.lstore 6, 2) := by decide +kernel
theorem dX13_word_57 : decode cX13_word 57 = .ok (.iload 4, 2) := by decide +kernel
theorem dX13_word_59 : decode cX13_word 59 = .ok (.ifCond .eq 7, 3) := by decide +kernel
theorem dX13_word_62 : decode cX13_word 62 = .ok (.iconst 1, 1) := by decide +kernel
theorem dX13_word_63 : decode cX13_word 63 = .ok (.goto 4, 3) := by decide +kernel
theorem dX13_word_66 : decode cX13_word 66 = .ok (.iconst 0, 1) := by decide +kernel
theorem dX13_word_67 : decode cX13_word 67 = .ok (.istore 8, 2) := by decide +kernel
theorem dX13_word_69 : decode cX13_word 69 = .ok (.iload 8, 2) := by decide +kernel
theorem dX13_word_71 : decode cX13_word 71 = .ok (.iload_n 2, 1) := by decide +kernel
theorem dX13_word_72 : decode cX13_word 72 = .ok (.if_icmp .ge 65, 3) := by decide +kernel
theorem dX13_word_75 : decode cX13_word 75 = .ok (.iload 5, 2) := by decide +kernel
theorem dX13_word_77 : decode cX13_word 77 = .ok (.ifCond .eq 22, 3) := by decide +kernel
theorem dX13_word_80 : decode cX13_word 80 = .ok (.aload_n 0, 1) := by decide +kernel
theorem dX13_word_81 : decode cX13_word 81 = .ok (.getfield 17, 3) := by decide +kernel
theorem dX13_word_84 : decode cX13_word 84 = .ok (.iload_n 1, 1) := by decide +kernel
theorem dX13_word_85 : decode cX13_word 85 = .ok (.iload 8, 2) := by decide +kernel
theorem dX13_word_87 : decode cX13_word 87 = .ok (.iadd, 1) := by decide +kernel
theorem dX13_word_88 : decode cX13_word 88 = .ok (.baload, 1) := by decide +kernel
theorem dX13_word_89 : decode cX13_word 89 = .ok (.invokestatic 132, 3) := by decide +kernel
theorem dX13_word_92 : decode cX13_word 92 = .ok (.ifCond .eq 7, 3) := by decide +kernel
theorem dX13_word_95 : decode cX13_word 95 = .ok (.iconst 1, 1) := by decide +kernel
theorem dX13_word_96 : decode cX13_word 96 = .ok (.goto 4, 3) := by decide +kernel
theorem dX13_word_99 : decode cX13_word 99 = .ok (.iconst 0, 1) := by decide +kernel
theorem dX13_word_100 : decode cX13_word 100 = .ok (.istore 5, 2) := by decide +kernel
theorem dX13_word_102 : decode cX13_word 102 = .ok (.lload 6, 2) := by decide +kernel
theorem dX13_word_104 : decode cX13_word 104 = .ok (.ldc2_w 161, 3) := by decide +kernel
theorem dX13_word_107 : decode cX13_word 107 = .ok (.lmul, 1) := by decide +kernel
theorem dX13_word_108 : decode cX13_word 108 = .ok (.aload_n 0, 1) := by decide +kernel
theorem dX13_word_109 : decode cX13_word 109 = .ok (.getfield 17, 3) := by decide +kernel
theorem dX13_word_112 : decode cX13_word 112 = .ok (.iload_n 1, 1) := by decide +kernel
theorem dX13_word_113 : decode cX13_word 113 = .ok (.iload 8, 2) := by decide +kernel
theorem dX13_word_115 : decode cX13_word 115 = .ok (.iadd, 1) := by decide +kernel
theorem dX13_word_116 : decode cX13_word 116 = .ok (.baload, 1) := by decide +kernel
theorem dX13_word_117 : decode cX13_word 117 = .ok (.i2l, 1) := by decide +kernel
theorem dX13_word_118 : decode cX13_word 118 = .ok (.ladd, 1) := by decide +kernel
theorem dX13_word_119 : decode cX13_word 119 = .ok (.ldc2_w 163, 3) := by decide +kernel
theorem dX13_word_122 : decode cX13_word 122 = .ok (.lsub, 1) := by decide +kernel
theorem dX13_word_123 : decode cX13_word 123 = .ok (.ldc2_w 165, 3) := by decide +kernel
theorem dX13_word_126 : decode cX13_word 126 = .ok (.invokestatic 167, 3) := by decide +kernel
theorem dX13_word_129 : decode cX13_word 129 = .ok (.lstore 6, 2) := by decide +kernel
theorem dX13_word_131 : decode cX13_word 131 = .ok (.iinc 8 1, 3) := by decide +kernel
theorem dX13_word_134 : decode cX13_word 134 = .ok (.goto (-65), 3) := by decide +kernel
theorem dX13_word_137 : decode cX13_word 137 = .ok (.iload 5, 2) := by decide +kernel
theorem dX13_word_139 : decode cX13_word 139 = .ok (.ifCond .eq 44, 3) := by decide +kernel
theorem dX13_word_142 : decode cX13_word 142 = .ok (.iload 4, 2) := by decide +kernel
theorem dX13_word_144 : decode cX13_word 144 = .ok (.ifCond .eq 9, 3) := by decide +kernel
theorem dX13_word_147 : decode cX13_word 147 = .ok (.lload 6, 2) := by decide +kernel
theorem dX13_word_149 : decode cX13_word 149 = .ok (.lneg, 1) := by decide +kernel
theorem dX13_word_150 : decode cX13_word 150 = .ok (.goto 5, 3) := by decide +kernel
theorem dX13_word_153 : decode cX13_word 153 = .ok (.lload 6, 2) := by decide +kernel
theorem dX13_word_155 : decode cX13_word 155 = .ok (.lstore 6, 2) := by decide +kernel
theorem dX13_word_157 : decode cX13_word 157 = .ok (.aload_n 0, 1) := by decide +kernel
theorem dX13_word_158 : decode cX13_word 158 = .ok (.lload 6, 2) := by decide +kernel
theorem dX13_word_160 : decode cX13_word 160 = .ok (.lload 6, 2) := by decide +kernel
theorem dX13_word_162 : decode cX13_word 162 = .ok (.l2i, 1) := by decide +kernel
theorem dX13_word_163 : decode cX13_word 163 = .ok (.i2l, 1) := by decide +kernel
theorem dX13_word_164 : decode cX13_word 164 = .ok (.lcmp, 1) := by decide +kernel
theorem dX13_word_165 : decode cX13_word 165 = .ok (.ifCond .ne 7, 3) := by decide +kernel
theorem dX13_word_168 : decode cX13_word 168 = .ok (.iconst 5, 1) := by decide +kernel
theorem dX13_word_169 : decode cX13_word 169 = .ok (.goto 4, 3) := by decide +kernel
theorem dX13_word_172 : decode cX13_word 172 = .ok (.iconst 1, 1) := by decide +kernel
theorem dX13_word_173 : decode cX13_word 173 = .ok (.iload_n 1, 1) := by decide +kernel
theorem dX13_word_174 : decode cX13_word 174 = .ok (.lload 6, 2) := by decide +kernel
theorem dX13_word_176 : decode cX13_word 176 = .ok (.l2i, 1) := by decide +kernel
theorem dX13_word_177 : decode cX13_word 177 = .ok (.invokevirtual 150, 3) := by decide +kernel
theorem dX13_word_180 : decode cX13_word 180 = .ok (.goto 123, 3) := by decide +kernel
theorem dX13_word_183 : decode cX13_word 183 = .ok (.iload_n 3, 1) := by decide +kernel
theorem dX13_word_184 : decode cX13_word 184 = .ok (.bipush 35, 2) := by decide +kernel
theorem dX13_word_186 : decode cX13_word 186 = .ok (.if_icmp .ne 58, 3) := by decide +kernel
theorem dX13_word_189 : decode cX13_word 189 = .ok (.aload_n 0, 1) := by decide +kernel
theorem dX13_word_190 : decode cX13_word 190 = .ok (.iload_n 2, 1) := by decide +kernel
theorem dX13_word_191 : decode cX13_word 191 = .ok (.iconst 2, 1) := by decide +kernel
theorem dX13_word_192 : decode cX13_word 192 = .ok (.if_icmp .eq 7, 3) := by decide +kernel
theorem dX13_word_195 : decode cX13_word 195 = .ok (.iconst 1, 1) := by decide +kernel
theorem dX13_word_196 : decode cX13_word 196 = .ok (.goto 40, 3) := by decide +kernel
theorem dX13_word_199 : decode cX13_word 199 = .ok (.aload_n 0, 1) := by decide +kernel
theorem dX13_word_200 : decode cX13_word 200 = .ok (.getfield 17, 3) := by decide +kernel
theorem dX13_word_203 : decode cX13_word 203 = .ok (.iload_n 1, 1) := by decide +kernel
theorem dX13_word_204 : decode cX13_word 204 = .ok (.iconst 1, 1) := by decide +kernel
theorem dX13_word_205 : decode cX13_word 205 = .ok (.iadd, 1) := by decide +kernel
theorem dX13_word_206 : decode cX13_word 206 = .ok (.baload, 1) := by decide +kernel
theorem dX13_word_207 : decode cX13_word 207 = .ok (.bipush 116, 2) := by decide +kernel
theorem dX13_word_209 : decode cX13_word 209 = .ok (.if_icmp .ne 8, 3) := by decide +kernel
theorem dX13_word_212 : decode cX13_word 212 = .ok (.bipush 6, 2) := by decide +kernel
theorem dX13_word_214 : decode cX13_word 214 = .ok (.goto 22, 3) := by decide +kernel
theorem dX13_word_217 : decode cX13_word 217 = .ok (.aload_n 0, 1) := by decide +kernel
theorem dX13_word_218 : decode cX13_word 218 = .ok (.getfield 17, 3) := by decide +kernel
theorem dX13_word_221 : decode cX13_word 221 = .ok (.iload_n 1, 1) := by decide +kernel
theorem dX13_word_222 : decode cX13_word 222 = .ok (.iconst 1, 1) := by decide +kernel
theorem dX13_word_223 : decode cX13_word 223 = .ok (.iadd, 1) := by decide +kernel
theorem dX13_word_224 : decode cX13_word 224 = .ok (.baload, 1) := by decide +kernel
theorem dX13_word_225 : decode cX13_word 225 = .ok (.bipush 102, 2) := by decide +kernel
theorem dX13_word_227 : decode cX13_word 227 = .ok (.if_icmp .ne 8, 3) := by decide +kernel
theorem dX13_word_230 : decode cX13_word 230 = .ok (.bipush 7, 2) := by decide +kernel
theorem dX13_word_232 : decode cX13_word 232 = .ok (.goto 4, 3) := by decide +kernel
theorem dX13_word_235 : decode cX13_word 235 = .ok (.iconst 1, 1) := by decide +kernel
theorem dX13_word_236 : decode cX13_word 236 = .ok (.iload_n 1, 1) := by decide +kernel
theorem dX13_word_237 : decode cX13_word 237 = .ok (.iconst 0, 1) := by decide +kernel
theorem dX13_word_238 : decode cX13_word 238 = .ok (.invokevirtual 150, 3) := by decide +kernel
theorem dX13_word_241 : decode cX13_word 241 = .ok (.goto 62, 3) := by decide +kernel
theorem dX13_word_244 : decode cX13_word 244 = .ok (.iload_n 2, 1) := by decide +kernel
theorem dX13_word_245 : decode cX13_word 245 = .ok (.ifCond .eq 35, 3) := by decide +kernel
theorem dX13_word_248 : decode cX13_word 248 = .ok (.iload_n 2, 1) := by decide +kernel
theorem dX13_word_249 : decode cX13_word 249 = .ok (.bipush 12, 2) := by decide +kernel
theorem dX13_word_251 : decode cX13_word 251 = .ok (.if_icmp .gt 29, 3) := by decide +kernel
theorem dX13_word_254 : decode cX13_word 254 = .ok (.iload_n 3, 1) := by decide +kernel
theorem dX13_word_255 : decode cX13_word 255 = .ok (.invokestatic 132, 3) := by decide +kernel
theorem dX13_word_258 : decode cX13_word 258 = .ok (.ifCond .ne 22, 3) := by decide +kernel
theorem dX13_word_261 : decode cX13_word 261 = .ok (.iload 4, 2) := by decide +kernel
theorem dX13_word_263 : decode cX13_word 263 = .ok (.ifCond .eq 27, 3) := by decide +kernel
theorem dX13_word_266 : decode cX13_word 266 = .ok (.aload_n 0, 1) := by decide +kernel
theorem dX13_word_267 : decode cX13_word 267 = .ok (.getfield 17, 3) := by decide +kernel
theorem dX13_word_270 : decode cX13_word 270 = .ok (.iload_n 1, 1) := by decide +kernel
theorem dX13_word_271 : decode cX13_word 271 = .ok (.iconst 1, 1) := by decide +kernel
theorem dX13_word_272 : decode cX13_word 272 = .ok (.iadd, 1) := by decide +kernel
theorem dX13_word_273 : decode cX13_word 273 = .ok (.baload, 1) := by decide +kernel
theorem dX13_word_274 : decode cX13_word 274 = .ok (.invokestatic 132, 3) := by decide +kernel
theorem dX13_word_277 : decode cX13_word 277 = .ok (.ifCond .eq 13, 3) := by decide +kernel
theorem dX13_word_280 : decode cX13_word 280 = .ok (.aload_n 0, 1) := by decide +kernel
theorem dX13_word_281 : decode cX13_word 281 = .ok (.iconst 1, 1) := by decide +kernel
theorem dX13_word_282 : decode cX13_word 282 = .ok (.iload_n 1, 1) := by decide +kernel
theorem dX13_word_283 : decode cX13_word 283 = .ok (.iconst 0, 1) := by decide +kernel
theorem dX13_word_284 : decode cX13_word 284 = .ok (.invokevirtual 150, 3) := by decide +kernel
theorem dX13_word_287 : decode cX13_word 287 = .ok (.goto 16, 3) := by decide +kernel
theorem dX13_word_290 : decode cX13_word 290 = .ok (.aload_n 0, 1) := by decide +kernel
theorem dX13_word_291 : decode cX13_word 291 = .ok (.bipush 8, 2) := by decide +kernel
theorem dX13_word_293 : decode cX13_word 293 = .ok (.iload_n 1, 1) := by decide +kernel
theorem dX13_word_294 : decode cX13_word 294 = .ok (.aload_n 0, 1) := by decide +kernel
theorem dX13_word_295 : decode cX13_word 295 = .ok (.iload_n 1, 1) := by decide +kernel
theorem dX13_word_296 : decode cX13_word 296 = .ok (.iload_n 2, 1) := by decide +kernel
theorem dX13_word_297 : decode cX13_word 297 = .ok (.invokevirtual 173, 3) := by decide +kernel
theorem dX13_word_300 : decode cX13_word 300 = .ok (.invokevirtual 150, 3) := by decide +kernel
theorem dX13_word_303 : decode cX13_word 303 = .ok (.return_, 1) := by decide +kernel
theorem dX13_isName_0 : decode cX13_isName 0 = .ok (.aload_n 0, 1) := by decide +kernel
theorem dX13_isName_1 : decode cX13_isName 1 = .ok (.getfield 47, 3) := by decide +kernel
theorem dX13_isName_4 : decode cX13_isName 4 = .ok (.getfield 177, 3) := by decide +kernel
theorem dX13_isName_7 : decode cX13_isName 7 = .ok (.iload_n 1, 1) := by decide +kernel
theorem dX13_isName_8 : decode cX13_isName 8 = .ok (.iaload, 1) := by decide +kernel
theorem dX13_isName_9 : decode cX13_isName 9 = .ok (.iload 4, 2) := by decide +kernel
theorem dX13_isName_11 : decode cX13_isName 11 = .ok (.if_icmp .eq 5, 3) := by decide +kernel
theorem dX13_isName_14 : decode cX13_isName 14 = .ok (.iconst 0, 1) := by decide +kernel
theorem dX13_isName_15 : decode cX13_isName 15 = .ok (.ireturn, 1) := by decide +kernel
theorem dX13_isName_16 : decode cX13_isName 16 = .ok (.iconst 0, 1) := by decide +kernel
theorem dX13_isName_17 : decode cX13_isName 17 = .ok (.istore 5, 2) := by decide +kernel
theorem dX13_isName_19 : decode cX13_isName 19 = .ok (.iload 5, 2) := by decide +kernel
theorem dX13_isName_21 : decode cX13_isName 21 = .ok (.iload 4, 2) := by decide +kernel
theorem dX13_isName_23 : decode cX13_isName 23 = .ok (.if_icmp .ge 40, 3) := by decide +kernel
theorem dX13_isName_26 : decode cX13_isName 26 = .ok (.aload_n 0, 1) := by decide +kernel
theorem dX13_isName_27 : decode cX13_isName 27 = .ok (.getfield 47, 3) := by decide +kernel
theorem dX13_isName_30 : decode cX13_isName 30 = .ok (.getfield 142, 3) := by decide +kernel
theorem dX13_isName_33 : decode cX13_isName 33 = .ok (.aload_n 0, 1) := by decide +kernel
theorem dX13_isName_34 : decode cX13_isName 34 = .ok (.getfield 47, 3) := by decide +kernel
theorem dX13_isName_37 : decode cX13_isName 37 = .ok (.getfield 180, 3) := by decide +kernel
theorem dX13_isName_40 : decode cX13_isName 40 = .ok (.iload_n 1, 1) := by decide +kernel
theorem dX13_isName_41 : decode cX13_isName 41 = .ok (.iaload, 1) := by decide +kernel
theorem dX13_isName_42 : decode cX13_isName 42 = .ok (.iload 5, 2) := by decide +kernel
theorem dX13_isName_44 : decode cX13_isName 44 = .ok (.iadd, 1) := by decide +kernel
theorem dX13_isName_45 : decode cX13_isName 45 = .ok (.baload, 1) := by decide +kernel
theorem dX13_isName_46 : decode cX13_isName 46 = .ok (.aload_n 2, 1) := by decide +kernel
theorem dX13_isName_47 : decode cX13_isName 47 = .ok (.iload_n 3, 1) := by decide +kernel
theorem dX13_isName_48 : decode cX13_isName 48 = .ok (.iload 5, 2) := by decide +kernel
theorem dX13_isName_50 : decode cX13_isName 50 = .ok (.iadd, 1) := by decide +kernel
theorem dX13_isName_51 : decode cX13_isName 51 = .ok (.baload, 1) := by decide +kernel
theorem dX13_isName_52 : decode cX13_isName 52 = .ok (.if_icmp .eq 5, 3) := by decide +kernel
theorem dX13_isName_55 : decode cX13_isName 55 = .ok (.iconst 0, 1) := by decide +kernel
theorem dX13_isName_56 : decode cX13_isName 56 = .ok (.ireturn, 1) := by decide +kernel
theorem dX13_isName_57 : decode cX13_isName 57 = .ok (.iinc 5 1, 3) := by decide +kernel
theorem dX13_isName_60 : decode cX13_isName 60 = .ok (.goto (-41), 3) := by decide +kernel
theorem dX13_isName_63 : decode cX13_isName 63 = .ok (.iconst 1, 1) := by decide +kernel
theorem dX13_isName_64 : decode cX13_isName 64 = .ok (.ireturn, 1) := by decide +kernel
theorem dX13_isWord_0 : decode cX13_isWord 0 = .ok (.iload 4, 2) := by decide +kernel
theorem dX13_isWord_2 : decode cX13_isWord 2 = .ok (.tableswitch 223 15 27 #[66, 92, 223, 223, 223, 134, 160, 223, 223, 223, 223, 223, 186], 66) := by decide +kernel
theorem dX13_isWord_68 : decode cX13_isWord 68 = .ok (.iload_n 3, 1) := by decide +kernel
theorem dX13_isWord_69 : decode cX13_isWord 69 = .ok (.bipush 8, 2) := by decide +kernel
theorem dX13_isWord_71 : decode cX13_isWord 71 = .ok (.if_icmp .ne 21, 3) := by decide +kernel
theorem dX13_isWord_74 : decode cX13_isWord 74 = .ok (.aload_n 1, 1) := by decide +kernel
theorem dX13_isWord_75 : decode cX13_isWord 75 = .ok (.iload_n 2, 1) := by decide +kernel
theorem dX13_isWord_76 : decode cX13_isWord 76 = .ok (.bipush 8, 2) := by decide +kernel
theorem dX13_isWord_78 : decode cX13_isWord 78 = .ok (.invokestatic 183, 3) := by decide +kernel
theorem dX13_isWord_81 : decode cX13_isWord 81 = .ok (.ldc2_w 187, 3) := by decide +kernel
theorem dX13_isWord_84 : decode cX13_isWord 84 = .ok (.lcmp, 1) := by decide +kernel
theorem dX13_isWord_85 : decode cX13_isWord 85 = .ok (.ifCond .ne 7, 3) := by decide +kernel
theorem dX13_isWord_88 : decode cX13_isWord 88 = .ok (.iconst 1, 1) := by decide +kernel
theorem dX13_isWord_89 : decode cX13_isWord 89 = .ok (.goto 4, 3) := by decide +kernel
theorem dX13_isWord_92 : decode cX13_isWord 92 = .ok (.iconst 0, 1) := by decide +kernel
theorem dX13_isWord_93 : decode cX13_isWord 93 = .ok (.ireturn, 1) := by decide +kernel
theorem dX13_isWord_94 : decode cX13_isWord 94 = .ok (.iload_n 3, 1) := by decide +kernel
theorem dX13_isWord_95 : decode cX13_isWord 95 = .ok (.bipush 10, 2) := by decide +kernel
theorem dX13_isWord_97 : decode cX13_isWord 97 = .ok (.if_icmp .ne 37, 3) := by decide +kernel
theorem dX13_isWord_100 : decode cX13_isWord 100 = .ok (.aload_n 1, 1) := by decide +kernel
theorem dX13_isWord_101 : decode cX13_isWord 101 = .ok (.iload_n 2, 1) := by decide +kernel
theorem dX13_isWord_102 : decode cX13_isWord 102 = .ok (.bipush 8, 2) := by decide +kernel
theorem dX13_isWord_104 : decode cX13_isWord 104 = .ok (.invokestatic 183, 3) := by decide +kernel
theorem dX13_isWord_107 : decode cX13_isWord 107 = .ok (.ldc2_w 189, 3) := by decide +kernel
theorem dX13_isWord_110 : decode cX13_isWord 110 = .ok (.lcmp, 1) := by decide +kernel
theorem dX13_isWord_111 : decode cX13_isWord 111 = .ok (.ifCond .ne 23, 3) := by decide +kernel
theorem dX13_isWord_114 : decode cX13_isWord 114 = .ok (.aload_n 1, 1) := by decide +kernel
theorem dX13_isWord_115 : decode cX13_isWord 115 = .ok (.iload_n 2, 1) := by decide +kernel
theorem dX13_isWord_116 : decode cX13_isWord 116 = .ok (.bipush 8, 2) := by decide +kernel
theorem dX13_isWord_118 : decode cX13_isWord 118 = .ok (.iadd, 1) := by decide +kernel
theorem dX13_isWord_119 : decode cX13_isWord 119 = .ok (.iconst 2, 1) := by decide +kernel
theorem dX13_isWord_120 : decode cX13_isWord 120 = .ok (.invokestatic 183, 3) := by decide +kernel
theorem dX13_isWord_123 : decode cX13_isWord 123 = .ok (.ldc2_w 191, 3) := by decide +kernel
theorem dX13_isWord_126 : decode cX13_isWord 126 = .ok (.lcmp, 1) := by decide +kernel
theorem dX13_isWord_127 : decode cX13_isWord 127 = .ok (.ifCond .ne 7, 3) := by decide +kernel
theorem dX13_isWord_130 : decode cX13_isWord 130 = .ok (.iconst 1, 1) := by decide +kernel
theorem dX13_isWord_131 : decode cX13_isWord 131 = .ok (.goto 4, 3) := by decide +kernel
theorem dX13_isWord_134 : decode cX13_isWord 134 = .ok (.iconst 0, 1) := by decide +kernel
theorem dX13_isWord_135 : decode cX13_isWord 135 = .ok (.ireturn, 1) := by decide +kernel
theorem dX13_isWord_136 : decode cX13_isWord 136 = .ok (.iload_n 3, 1) := by decide +kernel
theorem dX13_isWord_137 : decode cX13_isWord 137 = .ok (.bipush 8, 2) := by decide +kernel
theorem dX13_isWord_139 : decode cX13_isWord 139 = .ok (.if_icmp .ne 21, 3) := by decide +kernel
theorem dX13_isWord_142 : decode cX13_isWord 142 = .ok (.aload_n 1, 1) := by decide +kernel
theorem dX13_isWord_143 : decode cX13_isWord 143 = .ok (.iload_n 2, 1) := by decide +kernel
theorem dX13_isWord_144 : decode cX13_isWord 144 = .ok (.bipush 8, 2) := by decide +kernel
theorem dX13_isWord_146 : decode cX13_isWord 146 = .ok (.invokestatic 183, 3) := by decide +kernel
theorem dX13_isWord_149 : decode cX13_isWord 149 = .ok (.ldc2_w 193, 3) := by decide +kernel
theorem dX13_isWord_152 : decode cX13_isWord 152 = .ok (.lcmp, 1) := by decide +kernel
theorem dX13_isWord_153 : decode cX13_isWord 153 = .ok (.ifCond .ne 7, 3) := by decide +kernel
theorem dX13_isWord_156 : decode cX13_isWord 156 = .ok (.iconst 1, 1) := by decide +kernel
theorem dX13_isWord_157 : decode cX13_isWord 157 = .ok (.goto 4, 3) := by decide +kernel
theorem dX13_isWord_160 : decode cX13_isWord 160 = .ok (.iconst 0, 1) := by decide +kernel
theorem dX13_isWord_161 : decode cX13_isWord 161 = .ok (.ireturn, 1) := by decide +kernel
theorem dX13_isWord_162 : decode cX13_isWord 162 = .ok (.iload_n 3, 1) := by decide +kernel
theorem dX13_isWord_163 : decode cX13_isWord 163 = .ok (.bipush 8, 2) := by decide +kernel
theorem dX13_isWord_165 : decode cX13_isWord 165 = .ok (.if_icmp .ne 21, 3) := by decide +kernel
theorem dX13_isWord_168 : decode cX13_isWord 168 = .ok (.aload_n 1, 1) := by decide +kernel
theorem dX13_isWord_169 : decode cX13_isWord 169 = .ok (.iload_n 2, 1) := by decide +kernel
theorem dX13_isWord_170 : decode cX13_isWord 170 = .ok (.bipush 8, 2) := by decide +kernel
theorem dX13_isWord_172 : decode cX13_isWord 172 = .ok (.invokestatic 183, 3) := by decide +kernel
theorem dX13_isWord_175 : decode cX13_isWord 175 = .ok (.ldc2_w 195, 3) := by decide +kernel
theorem dX13_isWord_178 : decode cX13_isWord 178 = .ok (.lcmp, 1) := by decide +kernel
theorem dX13_isWord_179 : decode cX13_isWord 179 = .ok (.ifCond .ne 7, 3) := by decide +kernel
theorem dX13_isWord_182 : decode cX13_isWord 182 = .ok (.iconst 1, 1) := by decide +kernel
theorem dX13_isWord_183 : decode cX13_isWord 183 = .ok (.goto 4, 3) := by decide +kernel
theorem dX13_isWord_186 : decode cX13_isWord 186 = .ok (.iconst 0, 1) := by decide +kernel
theorem dX13_isWord_187 : decode cX13_isWord 187 = .ok (.ireturn, 1) := by decide +kernel
theorem dX13_isWord_188 : decode cX13_isWord 188 = .ok (.iload_n 3, 1) := by decide +kernel
theorem dX13_isWord_189 : decode cX13_isWord 189 = .ok (.bipush 9, 2) := by decide +kernel
theorem dX13_isWord_191 : decode cX13_isWord 191 = .ok (.if_icmp .ne 32, 3) := by decide +kernel
theorem dX13_isWord_194 : decode cX13_isWord 194 = .ok (.aload_n 1, 1) := by decide +kernel
theorem dX13_isWord_195 : decode cX13_isWord 195 = .ok (.iload_n 2, 1) := by decide +kernel
theorem dX13_isWord_196 : decode cX13_isWord 196 = .ok (.bipush 8, 2) := by decide +kernel
theorem dX13_isWord_198 : decode cX13_isWord 198 = .ok (.invokestatic 183, 3) := by decide +kernel
theorem dX13_isWord_201 : decode cX13_isWord 201 = .ok (.ldc2_w 197, 3) := by decide +kernel
theorem dX13_isWord_204 : decode cX13_isWord 204 = .ok (.lcmp, 1) := by decide +kernel
theorem dX13_isWord_205 : decode cX13_isWord 205 = .ok (.ifCond .ne 18, 3) := by decide +kernel
theorem dX13_isWord_208 : decode cX13_isWord 208 = .ok (.aload_n 1, 1) := by decide +kernel
theorem dX13_isWord_209 : decode cX13_isWord 209 = .ok (.iload_n 2, 1) := by decide +kernel
theorem dX13_isWord_210 : decode cX13_isWord 210 = .ok (.bipush 8, 2) := by decide +kernel
theorem dX13_isWord_212 : decode cX13_isWord 212 = .ok (.iadd, 1) := by decide +kernel
theorem dX13_isWord_213 : decode cX13_isWord 213 = .ok (.baload, 1) := by decide +kernel
theorem dX13_isWord_214 : decode cX13_isWord 214 = .ok (.bipush 114, 2) := by decide +kernel
theorem dX13_isWord_216 : decode cX13_isWord 216 = .ok (.if_icmp .ne 7, 3) := by decide +kernel
theorem dX13_isWord_219 : decode cX13_isWord 219 = .ok (.iconst 1, 1) := by decide +kernel
theorem dX13_isWord_220 : decode cX13_isWord 220 = .ok (.goto 4, 3) := by decide +kernel
theorem dX13_isWord_223 : decode cX13_isWord 223 = .ok (.iconst 0, 1) := by decide +kernel
theorem dX13_isWord_224 : decode cX13_isWord 224 = .ok (.ireturn, 1) := by decide +kernel
theorem dX13_isWord_225 : decode cX13_isWord 225 = .ok (.iload_n 3, 1) := by decide +kernel
theorem dX13_isWord_226 : decode cX13_isWord 226 = .ok (.bipush 8, 2) := by decide +kernel
theorem dX13_isWord_228 : decode cX13_isWord 228 = .ok (.if_icmp .gt 23, 3) := by decide +kernel
theorem dX13_isWord_231 : decode cX13_isWord 231 = .ok (.aload_n 1, 1) := by decide +kernel
theorem dX13_isWord_232 : decode cX13_isWord 232 = .ok (.iload_n 2, 1) := by decide +kernel
theorem dX13_isWord_233 : decode cX13_isWord 233 = .ok (.iload_n 3, 1) := by decide +kernel
theorem dX13_isWord_234 : decode cX13_isWord 234 = .ok (.invokestatic 183, 3) := by decide +kernel
theorem dX13_isWord_237 : decode cX13_isWord 237 = .ok (.getstatic 199, 3) := by decide +kernel
theorem dX13_isWord_240 : decode cX13_isWord 240 = .ok (.iload 4, 2) := by decide +kernel
theorem dX13_isWord_242 : decode cX13_isWord 242 = .ok (.laload, 1) := by decide +kernel
theorem dX13_isWord_243 : decode cX13_isWord 243 = .ok (.lcmp, 1) := by decide +kernel
theorem dX13_isWord_244 : decode cX13_isWord 244 = .ok (.ifCond .ne 7, 3) := by decide +kernel
theorem dX13_isWord_247 : decode cX13_isWord 247 = .ok (.iconst 1, 1) := by decide +kernel
theorem dX13_isWord_248 : decode cX13_isWord 248 = .ok (.goto 4, 3) := by decide +kernel
theorem dX13_isWord_251 : decode cX13_isWord 251 = .ok (.iconst 0, 1) := by decide +kernel
theorem dX13_isWord_252 : decode cX13_isWord 252 = .ok (.ireturn, 1) := by decide +kernel
theorem dX13_number_0 : decode cX13_number 0 = .ok (.lconst 0, 1) := by decide +kernel
theorem dX13_number_1 : decode cX13_number 1 = .ok (.lstore_n 3, 1) := by decide +kernel
theorem dX13_number_2 : decode cX13_number 2 = .ok (.iconst 0, 1) := by decide +kernel
theorem dX13_number_3 : decode cX13_number 3 = .ok (.istore 5, 2) := by decide +kernel
theorem dX13_number_5 : decode cX13_number 5 = .ok (.iload 5, 2) := by decide +kernel
theorem dX13_number_7 : decode cX13_number 7 = .ok (.iload_n 2, 1) := by decide +kernel
theorem dX13_number_8 : decode cX13_number 8 = .ok (.if_icmp .ge 26, 3) := by decide +kernel
theorem dX13_number_11 : decode cX13_number 11 = .ok (.lload_n 3, 1) := by decide +kernel
theorem dX13_number_12 : decode cX13_number 12 = .ok (.bipush 8, 2) := by decide +kernel
theorem dX13_number_14 : decode cX13_number 14 = .ok (.lshl, 1) := by decide +kernel
theorem dX13_number_15 : decode cX13_number 15 = .ok (.aload_n 0, 1) := by decide +kernel
theorem dX13_number_16 : decode cX13_number 16 = .ok (.iload_n 1, 1) := by decide +kernel
theorem dX13_number_17 : decode cX13_number 17 = .ok (.iload 5, 2) := by decide +kernel
theorem dX13_number_19 : decode cX13_number 19 = .ok (.iadd, 1) := by decide +kernel
theorem dX13_number_20 : decode cX13_number 20 = .ok (.baload, 1) := by decide +kernel
theorem dX13_number_21 : decode cX13_number 21 = .ok (.sipush 255, 3) := by decide +kernel
theorem dX13_number_24 : decode cX13_number 24 = .ok (.iand, 1) := by decide +kernel
theorem dX13_number_25 : decode cX13_number 25 = .ok (.i2l, 1) := by decide +kernel
theorem dX13_number_26 : decode cX13_number 26 = .ok (.lor, 1) := by decide +kernel
theorem dX13_number_27 : decode cX13_number 27 = .ok (.lstore_n 3, 1) := by decide +kernel
theorem dX13_number_28 : decode cX13_number 28 = .ok (.iinc 5 1, 3) := by decide +kernel
theorem dX13_number_31 : decode cX13_number 31 = .ok (.goto (-26), 3) := by decide +kernel
theorem dX13_number_34 : decode cX13_number 34 = .ok (.lload_n 3, 1) := by decide +kernel
theorem dX13_number_35 : decode cX13_number 35 = .ok (.lreturn, 1) := by decide +kernel
theorem dX13_nameOf_0 : decode cX13_nameOf 0 = .ok (.iconst 0, 1) := by decide +kernel
theorem dX13_nameOf_1 : decode cX13_nameOf 1 = .ok (.istore_n 3, 1) := by decide +kernel
theorem dX13_nameOf_2 : decode cX13_nameOf 2 = .ok (.iconst 1, 1) := by decide +kernel
theorem dX13_nameOf_3 : decode cX13_nameOf 3 = .ok (.istore 4, 2) := by decide +kernel
theorem dX13_nameOf_5 : decode cX13_nameOf 5 = .ok (.iload 4, 2) := by decide +kernel
theorem dX13_nameOf_7 : decode cX13_nameOf 7 = .ok (.bipush 31, 2) := by decide +kernel
theorem dX13_nameOf_9 : decode cX13_nameOf 9 = .ok (.if_icmp .ge 27, 3) := by decide +kernel
theorem dX13_nameOf_12 : decode cX13_nameOf 12 = .ok (.aload_n 0, 1) := by decide +kernel
theorem dX13_nameOf_13 : decode cX13_nameOf 13 = .ok (.aload_n 0, 1) := by decide +kernel
theorem dX13_nameOf_14 : decode cX13_nameOf 14 = .ok (.getfield 17, 3) := by decide +kernel
theorem dX13_nameOf_17 : decode cX13_nameOf 17 = .ok (.iload_n 1, 1) := by decide +kernel
theorem dX13_nameOf_18 : decode cX13_nameOf 18 = .ok (.iload_n 2, 1) := by decide +kernel
theorem dX13_nameOf_19 : decode cX13_nameOf 19 = .ok (.iload 4, 2) := by decide +kernel
theorem dX13_nameOf_21 : decode cX13_nameOf 21 = .ok (.invokevirtual 202, 3) := by decide +kernel
theorem dX13_nameOf_24 : decode cX13_nameOf 24 = .ok (.ifCond .eq 6, 3) := by decide +kernel
theorem dX13_nameOf_27 : decode cX13_nameOf 27 = .ok (.iload 4, 2) := by decide +kernel
theorem dX13_nameOf_29 : decode cX13_nameOf 29 = .ok (.istore_n 3, 1) := by decide +kernel
theorem dX13_nameOf_30 : decode cX13_nameOf 30 = .ok (.iinc 4 1, 3) := by decide +kernel
theorem dX13_nameOf_33 : decode cX13_nameOf 33 = .ok (.goto (-28), 3) := by decide +kernel
theorem dX13_nameOf_36 : decode cX13_nameOf 36 = .ok (.iload_n 3, 1) := by decide +kernel
theorem dX13_nameOf_37 : decode cX13_nameOf 37 = .ok (.ifCond .le 9, 3) := by decide +kernel
theorem dX13_nameOf_40 : decode cX13_nameOf 40 = .ok (.aload_n 0, 1) := by decide +kernel
theorem dX13_nameOf_41 : decode cX13_nameOf 41 = .ok (.iload_n 3, 1) := by decide +kernel
theorem dX13_nameOf_42 : decode cX13_nameOf 42 = .ok (.invokevirtual 147, 3) := by decide +kernel
theorem dX13_nameOf_45 : decode cX13_nameOf 45 = .ok (.ireturn, 1) := by decide +kernel
theorem dX13_nameOf_46 : decode cX13_nameOf 46 = .ok (.iconst 0, 1) := by decide +kernel
theorem dX13_nameOf_47 : decode cX13_nameOf 47 = .ok (.istore 4, 2) := by decide +kernel
theorem dX13_nameOf_49 : decode cX13_nameOf 49 = .ok (.iload 4, 2) := by decide +kernel
theorem dX13_nameOf_51 : decode cX13_nameOf 51 = .ok (.aload_n 0, 1) := by decide +kernel
theorem dX13_nameOf_52 : decode cX13_nameOf 52 = .ok (.getfield 47, 3) := by decide +kernel
theorem dX13_nameOf_55 : decode cX13_nameOf 55 = .ok (.getfield 206, 3) := by decide +kernel
theorem dX13_nameOf_58 : decode cX13_nameOf 58 = .ok (.if_icmp .ge 40, 3) := by decide +kernel
theorem dX13_nameOf_61 : decode cX13_nameOf 61 = .ok (.aload_n 0, 1) := by decide +kernel
theorem dX13_nameOf_62 : decode cX13_nameOf 62 = .ok (.getfield 47, 3) := by decide +kernel
theorem dX13_nameOf_65 : decode cX13_nameOf 65 = .ok (.getfield 209, 3) := by decide +kernel
theorem dX13_nameOf_68 : decode cX13_nameOf 68 = .ok (.iload 4, 2) := by decide +kernel
theorem dX13_nameOf_70 : decode cX13_nameOf 70 = .ok (.iaload, 1) := by decide +kernel
theorem dX13_nameOf_71 : decode cX13_nameOf 71 = .ok (.ifCond .ne 21, 3) := by decide +kernel
theorem dX13_nameOf_74 : decode cX13_nameOf 74 = .ok (.aload_n 0, 1) := by decide +kernel
theorem dX13_nameOf_75 : decode cX13_nameOf 75 = .ok (.iload 4, 2) := by decide +kernel
theorem dX13_nameOf_77 : decode cX13_nameOf 77 = .ok (.aload_n 0, 1) := by decide +kernel
theorem dX13_nameOf_78 : decode cX13_nameOf 78 = .ok (.getfield 17, 3) := by decide +kernel
theorem dX13_nameOf_81 : decode cX13_nameOf 81 = .ok (.iload_n 1, 1) := by decide +kernel
theorem dX13_nameOf_82 : decode cX13_nameOf 82 = .ok (.iload_n 2, 1) := by decide +kernel
theorem dX13_nameOf_83 : decode cX13_nameOf 83 = .ok (.invokevirtual 212, 3) := by decide +kernel
theorem dX13_nameOf_86 : decode cX13_nameOf 86 = .ok (.ifCond .eq 6, 3) := by decide +kernel
theorem dX13_nameOf_89 : decode cX13_nameOf 89 = .ok (.iload 4, 2) := by decide +kernel
theorem dX13_nameOf_91 : decode cX13_nameOf 91 = .ok (.ireturn, 1) := by decide +kernel
theorem dX13_nameOf_92 : decode cX13_nameOf 92 = .ok (.iinc 4 1, 3) := by decide +kernel
theorem dX13_nameOf_95 : decode cX13_nameOf 95 = .ok (.goto (-46), 3) := by decide +kernel
theorem dX13_nameOf_98 : decode cX13_nameOf 98 = .ok (.aload_n 0, 1) := by decide +kernel
theorem dX13_nameOf_99 : decode cX13_nameOf 99 = .ok (.iload_n 1, 1) := by decide +kernel
theorem dX13_nameOf_100 : decode cX13_nameOf 100 = .ok (.iload_n 2, 1) := by decide +kernel
theorem dX13_nameOf_101 : decode cX13_nameOf 101 = .ok (.iconst 0, 1) := by decide +kernel
theorem dX13_nameOf_102 : decode cX13_nameOf 102 = .ok (.invokevirtual 216, 3) := by decide +kernel
theorem dX13_nameOf_105 : decode cX13_nameOf 105 = .ok (.ireturn, 1) := by decide +kernel
theorem dX13_wordName_0 : decode cX13_wordName 0 = .ok (.iconst 0, 1) := by decide +kernel
theorem dX13_wordName_1 : decode cX13_wordName 1 = .ok (.istore_n 2, 1) := by decide +kernel
theorem dX13_wordName_2 : decode cX13_wordName 2 = .ok (.iload_n 2, 1) := by decide +kernel
theorem dX13_wordName_3 : decode cX13_wordName 3 = .ok (.aload_n 0, 1) := by decide +kernel
theorem dX13_wordName_4 : decode cX13_wordName 4 = .ok (.getfield 47, 3) := by decide +kernel
theorem dX13_wordName_7 : decode cX13_wordName 7 = .ok (.getfield 206, 3) := by decide +kernel
theorem dX13_wordName_10 : decode cX13_wordName 10 = .ok (.if_icmp .ge 24, 3) := by decide +kernel
theorem dX13_wordName_13 : decode cX13_wordName 13 = .ok (.aload_n 0, 1) := by decide +kernel
theorem dX13_wordName_14 : decode cX13_wordName 14 = .ok (.getfield 47, 3) := by decide +kernel
theorem dX13_wordName_17 : decode cX13_wordName 17 = .ok (.getfield 209, 3) := by decide +kernel
theorem dX13_wordName_20 : decode cX13_wordName 20 = .ok (.iload_n 2, 1) := by decide +kernel
theorem dX13_wordName_21 : decode cX13_wordName 21 = .ok (.iaload, 1) := by decide +kernel
theorem dX13_wordName_22 : decode cX13_wordName 22 = .ok (.iload_n 1, 1) := by decide +kernel
theorem dX13_wordName_23 : decode cX13_wordName 23 = .ok (.if_icmp .ne 5, 3) := by decide +kernel
theorem dX13_wordName_26 : decode cX13_wordName 26 = .ok (.iload_n 2, 1) := by decide +kernel
theorem dX13_wordName_27 : decode cX13_wordName 27 = .ok (.ireturn, 1) := by decide +kernel
theorem dX13_wordName_28 : decode cX13_wordName 28 = .ok (.iinc 2 1, 3) := by decide +kernel
theorem dX13_wordName_31 : decode cX13_wordName 31 = .ok (.goto (-29), 3) := by decide +kernel
theorem dX13_wordName_34 : decode cX13_wordName 34 = .ok (.aload_n 0, 1) := by decide +kernel
theorem dX13_wordName_35 : decode cX13_wordName 35 = .ok (.iconst 0, 1) := by decide +kernel
theorem dX13_wordName_36 : decode cX13_wordName 36 = .ok (.iconst 0, 1) := by decide +kernel
theorem dX13_wordName_37 : decode cX13_wordName 37 = .ok (.iload_n 1, 1) := by decide +kernel
theorem dX13_wordName_38 : decode cX13_wordName 38 = .ok (.invokevirtual 216, 3) := by decide +kernel
theorem dX13_wordName_41 : decode cX13_wordName 41 = .ok (.ireturn, 1) := by decide +kernel
theorem dX13_newName_0 : decode cX13_newName 0 = .ok (.aload_n 0, 1) := by decide +kernel
theorem dX13_newName_1 : decode cX13_newName 1 = .ok (.getfield 47, 3) := by decide +kernel
theorem dX13_newName_4 : decode cX13_newName 4 = .ok (.astore 4, 2) := by decide +kernel
theorem dX13_newName_6 : decode cX13_newName 6 = .ok (.aload 4, 2) := by decide +kernel
theorem dX13_newName_8 : decode cX13_newName 8 = .ok (.getfield 206, 3) := by decide +kernel
theorem dX13_newName_11 : decode cX13_newName 11 = .ok (.istore 5, 2) := by decide +kernel
theorem dX13_newName_13 : decode cX13_newName 13 = .ok (.aload 4, 2) := by decide +kernel
theorem dX13_newName_15 : decode cX13_newName 15 = .ok (.dup, 1) := by decide +kernel
theorem dX13_newName_16 : decode cX13_newName 16 = .ok (.getfield 206, 3) := by decide +kernel
theorem dX13_newName_19 : decode cX13_newName 19 = .ok (.iconst 1, 1) := by decide +kernel
theorem dX13_newName_20 : decode cX13_newName 20 = .ok (.iadd, 1) := by decide +kernel
theorem dX13_newName_21 : decode cX13_newName 21 = .ok (.putfield 206, 3) := by decide +kernel
theorem dX13_newName_24 : decode cX13_newName 24 = .ok (.aload 4, 2) := by decide +kernel
theorem dX13_newName_26 : decode cX13_newName 26 = .ok (.getfield 180, 3) := by decide +kernel
theorem dX13_newName_29 : decode cX13_newName 29 = .ok (.iload 5, 2) := by decide +kernel
theorem dX13_newName_31 : decode cX13_newName 31 = .ok (.iload_n 1, 1) := by decide +kernel
theorem dX13_newName_32 : decode cX13_newName 32 = .ok (.iastore, 1) := by decide +kernel
theorem dX13_newName_33 : decode cX13_newName 33 = .ok (.aload 4, 2) := by decide +kernel
theorem dX13_newName_35 : decode cX13_newName 35 = .ok (.getfield 177, 3) := by decide +kernel
theorem dX13_newName_38 : decode cX13_newName 38 = .ok (.iload 5, 2) := by decide +kernel
theorem dX13_newName_40 : decode cX13_newName 40 = .ok (.iload_n 2, 1) := by decide +kernel
theorem dX13_newName_41 : decode cX13_newName 41 = .ok (.iastore, 1) := by decide +kernel
theorem dX13_newName_42 : decode cX13_newName 42 = .ok (.aload 4, 2) := by decide +kernel
theorem dX13_newName_44 : decode cX13_newName 44 = .ok (.getfield 209, 3) := by decide +kernel
theorem dX13_newName_47 : decode cX13_newName 47 = .ok (.iload 5, 2) := by decide +kernel
theorem dX13_newName_49 : decode cX13_newName 49 = .ok (.iload_n 3, 1) := by decide +kernel
theorem dX13_newName_50 : decode cX13_newName 50 = .ok (.iastore, 1) := by decide +kernel
theorem dX13_newName_51 : decode cX13_newName 51 = .ok (.aload 4, 2) := by decide +kernel
theorem dX13_newName_53 : decode cX13_newName 53 = .ok (.getfield 220, 3) := by decide +kernel
theorem dX13_newName_56 : decode cX13_newName 56 = .ok (.iload 5, 2) := by decide +kernel
theorem dX13_newName_58 : decode cX13_newName 58 = .ok (.iconst (-1), 1) := by decide +kernel
theorem dX13_newName_59 : decode cX13_newName 59 = .ok (.iastore, 1) := by decide +kernel
theorem dX13_newName_60 : decode cX13_newName 60 = .ok (.iload 5, 2) := by decide +kernel
theorem dX13_newName_62 : decode cX13_newName 62 = .ok (.ireturn, 1) := by decide +kernel
theorem dX13_bad_0 : decode cX13_bad 0 = .ok (.aload_n 0, 1) := by decide +kernel
theorem dX13_bad_1 : decode cX13_bad 1 = .ok (.iload_n 1, 1) := by decide +kernel
theorem dX13_bad_2 : decode cX13_bad 2 = .ok (.putfield 223, 3) := by decide +kernel
theorem dX13_bad_5 : decode cX13_bad 5 = .ok (.aload_n 0, 1) := by decide +kernel
theorem dX13_bad_6 : decode cX13_bad 6 = .ok (.aload_n 0, 1) := by decide +kernel
theorem dX13_bad_7 : decode cX13_bad 7 = .ok (.getfield 24, 3) := by decide +kernel
theorem dX13_bad_10 : decode cX13_bad 10 = .ok (.aload_n 0, 1) := by decide +kernel
theorem dX13_bad_11 : decode cX13_bad 11 = .ok (.getfield 226, 3) := by decide +kernel
theorem dX13_bad_14 : decode cX13_bad 14 = .ok (.iaload, 1) := by decide +kernel
theorem dX13_bad_15 : decode cX13_bad 15 = .ok (.putfield 229, 3) := by decide +kernel
theorem dX13_bad_18 : decode cX13_bad 18 = .ok (.aload_n 0, 1) := by decide +kernel
theorem dX13_bad_19 : decode cX13_bad 19 = .ok (.getfield 37, 3) := by decide +kernel
theorem dX13_bad_22 : decode cX13_bad 22 = .ok (.areturn, 1) := by decide +kernel
theorem dX13_node_0 : decode cX13_node 0 = .ok (.aload_n 0, 1) := by decide +kernel
theorem dX13_node_1 : decode cX13_node 1 = .ok (.getfield 47, 3) := by decide +kernel
theorem dX13_node_4 : decode cX13_node 4 = .ok (.astore 4, 2) := by decide +kernel
theorem dX13_node_6 : decode cX13_node 6 = .ok (.aload 4, 2) := by decide +kernel
theorem dX13_node_8 : decode cX13_node 8 = .ok (.getfield 232, 3) := by decide +kernel
theorem dX13_node_11 : decode cX13_node 11 = .ok (.istore 5, 2) := by decide +kernel
theorem dX13_node_13 : decode cX13_node 13 = .ok (.aload 4, 2) := by decide +kernel
theorem dX13_node_15 : decode cX13_node 15 = .ok (.dup, 1) := by decide +kernel
theorem dX13_node_16 : decode cX13_node 16 = .ok (.getfield 232, 3) := by decide +kernel
theorem dX13_node_19 : decode cX13_node 19 = .ok (.iconst 1, 1) := by decide +kernel
theorem dX13_node_20 : decode cX13_node 20 = .ok (.iadd, 1) := by decide +kernel
theorem dX13_node_21 : decode cX13_node 21 = .ok (.putfield 232, 3) := by decide +kernel
theorem dX13_node_24 : decode cX13_node 24 = .ok (.aload 4, 2) := by decide +kernel
theorem dX13_node_26 : decode cX13_node 26 = .ok (.getfield 235, 3) := by decide +kernel
theorem dX13_node_29 : decode cX13_node 29 = .ok (.iload 5, 2) := by decide +kernel
theorem dX13_node_31 : decode cX13_node 31 = .ok (.iload_n 1, 1) := by decide +kernel
theorem dX13_node_32 : decode cX13_node 32 = .ok (.iastore, 1) := by decide +kernel
theorem dX13_node_33 : decode cX13_node 33 = .ok (.aload 4, 2) := by decide +kernel
theorem dX13_node_35 : decode cX13_node 35 = .ok (.getfield 238, 3) := by decide +kernel
theorem dX13_node_38 : decode cX13_node 38 = .ok (.iload 5, 2) := by decide +kernel
theorem dX13_node_40 : decode cX13_node 40 = .ok (.iload_n 2, 1) := by decide +kernel
theorem dX13_node_41 : decode cX13_node 41 = .ok (.iastore, 1) := by decide +kernel
theorem dX13_node_42 : decode cX13_node 42 = .ok (.aload 4, 2) := by decide +kernel
theorem dX13_node_44 : decode cX13_node 44 = .ok (.getfield 241, 3) := by decide +kernel
theorem dX13_node_47 : decode cX13_node 47 = .ok (.iload 5, 2) := by decide +kernel
theorem dX13_node_49 : decode cX13_node 49 = .ok (.iload_n 3, 1) := by decide +kernel
theorem dX13_node_50 : decode cX13_node 50 = .ok (.iastore, 1) := by decide +kernel
theorem dX13_node_51 : decode cX13_node 51 = .ok (.aload 4, 2) := by decide +kernel
theorem dX13_node_53 : decode cX13_node 53 = .ok (.getfield 243, 3) := by decide +kernel
theorem dX13_node_56 : decode cX13_node 56 = .ok (.iload 5, 2) := by decide +kernel
theorem dX13_node_58 : decode cX13_node 58 = .ok (.iconst (-1), 1) := by decide +kernel
theorem dX13_node_59 : decode cX13_node 59 = .ok (.iastore, 1) := by decide +kernel
theorem dX13_node_60 : decode cX13_node 60 = .ok (.aload 4, 2) := by decide +kernel
theorem dX13_node_62 : decode cX13_node 62 = .ok (.getfield 246, 3) := by decide +kernel
theorem dX13_node_65 : decode cX13_node 65 = .ok (.iload 5, 2) := by decide +kernel
theorem dX13_node_67 : decode cX13_node 67 = .ok (.iconst (-1), 1) := by decide +kernel
theorem dX13_node_68 : decode cX13_node 68 = .ok (.iastore, 1) := by decide +kernel
theorem dX13_node_69 : decode cX13_node 69 = .ok (.aload 4, 2) := by decide +kernel
theorem dX13_node_71 : decode cX13_node 71 = .ok (.getfield 249, 3) := by decide +kernel
theorem dX13_node_74 : decode cX13_node 74 = .ok (.iload 5, 2) := by decide +kernel
theorem dX13_node_76 : decode cX13_node 76 = .ok (.iconst 0, 1) := by decide +kernel
theorem dX13_node_77 : decode cX13_node 77 = .ok (.iastore, 1) := by decide +kernel
theorem dX13_node_78 : decode cX13_node 78 = .ok (.aload 4, 2) := by decide +kernel
theorem dX13_node_80 : decode cX13_node 80 = .ok (.getfield 252, 3) := by decide +kernel
theorem dX13_node_83 : decode cX13_node 83 = .ok (.iload 5, 2) := by decide +kernel
theorem dX13_node_85 : decode cX13_node 85 = .ok (.iconst 0, 1) := by decide +kernel
theorem dX13_node_86 : decode cX13_node 86 = .ok (.iastore, 1) := by decide +kernel
theorem dX13_node_87 : decode cX13_node 87 = .ok (.iload 5, 2) := by decide +kernel
theorem dX13_node_89 : decode cX13_node 89 = .ok (.ireturn, 1) := by decide +kernel
theorem dX13_datum_0 : decode cX13_datum 0 = .ok (.aload_n 0, 1) := by decide +kernel
theorem dX13_datum_1 : decode cX13_datum 1 = .ok (.getfield 226, 3) := by decide +kernel
theorem dX13_datum_4 : decode cX13_datum 4 = .ok (.istore_n 1, 1) := by decide +kernel
theorem dX13_datum_5 : decode cX13_datum 5 = .ok (.aload_n 0, 1) := by decide +kernel
theorem dX13_datum_6 : decode cX13_datum 6 = .ok (.getfield 20, 3) := by decide +kernel
theorem dX13_datum_9 : decode cX13_datum 9 = .ok (.aload_n 0, 1) := by decide +kernel
theorem dX13_datum_10 : decode cX13_datum 10 = .ok (.getfield 226, 3) := by decide +kernel
theorem dX13_datum_13 : decode cX13_datum 13 = .ok (.iaload, 1) := by decide +kernel
theorem dX13_datum_14 : decode cX13_datum 14 = .ok (.tableswitch 146 2 8 #[141, 146, 136, 42, 70, 70, 108], 42) := by decide +kernel
theorem dX13_datum_56 : decode cX13_datum 56 = .ok (.aload_n 0, 1) := by decide +kernel
theorem dX13_datum_57 : decode cX13_datum 57 = .ok (.dup, 1) := by decide +kernel
theorem dX13_datum_58 : decode cX13_datum 58 = .ok (.getfield 226, 3) := by decide +kernel
theorem dX13_datum_61 : decode cX13_datum 61 = .ok (.iconst 1, 1) := by decide +kernel
theorem dX13_datum_62 : decode cX13_datum 62 = .ok (.iadd, 1) := by decide +kernel
theorem dX13_datum_63 : decode cX13_datum 63 = .ok (.putfield 226, 3) := by decide +kernel
theorem dX13_datum_66 : decode cX13_datum 66 = .ok (.aload_n 0, 1) := by decide +kernel
theorem dX13_datum_67 : decode cX13_datum 67 = .ok (.iconst 0, 1) := by decide +kernel
theorem dX13_datum_68 : decode cX13_datum 68 = .ok (.aload_n 0, 1) := by decide +kernel
theorem dX13_datum_69 : decode cX13_datum 69 = .ok (.getfield 27, 3) := by decide +kernel
theorem dX13_datum_72 : decode cX13_datum 72 = .ok (.iload_n 1, 1) := by decide +kernel
theorem dX13_datum_73 : decode cX13_datum 73 = .ok (.iaload, 1) := by decide +kernel
theorem dX13_datum_74 : decode cX13_datum 74 = .ok (.aload_n 0, 1) := by decide +kernel
theorem dX13_datum_75 : decode cX13_datum 75 = .ok (.getfield 24, 3) := by decide +kernel
theorem dX13_datum_78 : decode cX13_datum 78 = .ok (.iload_n 1, 1) := by decide +kernel
theorem dX13_datum_79 : decode cX13_datum 79 = .ok (.iaload, 1) := by decide +kernel
theorem dX13_datum_80 : decode cX13_datum 80 = .ok (.invokevirtual 254, 3) := by decide +kernel
theorem dX13_datum_83 : decode cX13_datum 83 = .ok (.ireturn, 1) := by decide +kernel
theorem dX13_datum_84 : decode cX13_datum 84 = .ok (.aload_n 0, 1) := by decide +kernel
theorem dX13_datum_85 : decode cX13_datum 85 = .ok (.dup, 1) := by decide +kernel
theorem dX13_datum_86 : decode cX13_datum 86 = .ok (.getfield 226, 3) := by decide +kernel
theorem dX13_datum_89 : decode cX13_datum 89 = .ok (.iconst 1, 1) := by decide +kernel
theorem dX13_datum_90 : decode cX13_datum 90 = .ok (.iadd, 1) := by decide +kernel
theorem dX13_datum_91 : decode cX13_datum 91 = .ok (.putfield 226, 3) := by decide +kernel
theorem dX13_datum_94 : decode cX13_datum 94 = .ok (.aload_n 0, 1) := by decide +kernel
theorem dX13_datum_95 : decode cX13_datum 95 = .ok (.aload_n 0, 1) := by decide +kernel
theorem dX13_datum_96 : decode cX13_datum 96 = .ok (.getfield 20, 3) := by decide +kernel
theorem dX13_datum_99 : decode cX13_datum 99 = .ok (.iload_n 1, 1) := by decide +kernel
theorem dX13_datum_100 : decode cX13_datum 100 = .ok (.iaload, 1) := by decide +kernel
theorem dX13_datum_101 : decode cX13_datum 101 = .ok (.bipush 6, 2) := by decide +kernel
theorem dX13_datum_103 : decode cX13_datum 103 = .ok (.if_icmp .ne 7, 3) := by decide +kernel
theorem dX13_datum_106 : decode cX13_datum 106 = .ok (.iconst 1, 1) := by decide +kernel
theorem dX13_datum_107 : decode cX13_datum 107 = .ok (.goto 4, 3) := by decide +kernel
theorem dX13_datum_110 : decode cX13_datum 110 = .ok (.iconst 2, 1) := by decide +kernel
theorem dX13_datum_111 : decode cX13_datum 111 = .ok (.iconst 0, 1) := by decide +kernel
theorem dX13_datum_112 : decode cX13_datum 112 = .ok (.aload_n 0, 1) := by decide +kernel
theorem dX13_datum_113 : decode cX13_datum 113 = .ok (.getfield 24, 3) := by decide +kernel
theorem dX13_datum_116 : decode cX13_datum 116 = .ok (.iload_n 1, 1) := by decide +kernel
theorem dX13_datum_117 : decode cX13_datum 117 = .ok (.iaload, 1) := by decide +kernel
theorem dX13_datum_118 : decode cX13_datum 118 = .ok (.invokevirtual 254, 3) := by decide +kernel
theorem dX13_datum_121 : decode cX13_datum 121 = .ok (.ireturn, 1) := by decide +kernel
theorem dX13_datum_122 : decode cX13_datum 122 = .ok (.aload_n 0, 1) := by decide +kernel
theorem dX13_datum_123 : decode cX13_datum 123 = .ok (.dup, 1) := by decide +kernel
theorem dX13_datum_124 : decode cX13_datum 124 = .ok (.getfield 226, 3) := by decide +kernel
theorem dX13_datum_127 : decode cX13_datum 127 = .ok (.iconst 1, 1) := by decide +kernel
theorem dX13_datum_128 : decode cX13_datum 128 = .ok (.iadd, 1) := by decide +kernel
theorem dX13_datum_129 : decode cX13_datum 129 = .ok (.putfield 226, 3) := by decide +kernel
theorem dX13_datum_132 : decode cX13_datum 132 = .ok (.aload_n 0, 1) := by decide +kernel
theorem dX13_datum_133 : decode cX13_datum 133 = .ok (.iconst 3, 1) := by decide +kernel
theorem dX13_datum_134 : decode cX13_datum 134 = .ok (.aload_n 0, 1) := by decide +kernel
theorem dX13_datum_135 : decode cX13_datum 135 = .ok (.getfield 27, 3) := by decide +kernel
theorem dX13_datum_138 : decode cX13_datum 138 = .ok (.iload_n 1, 1) := by decide +kernel
theorem dX13_datum_139 : decode cX13_datum 139 = .ok (.iaload, 1) := by decide +kernel
theorem dX13_datum_140 : decode cX13_datum 140 = .ok (.aload_n 0, 1) := by decide +kernel
theorem dX13_datum_141 : decode cX13_datum 141 = .ok (.getfield 24, 3) := by decide +kernel
theorem dX13_datum_144 : decode cX13_datum 144 = .ok (.iload_n 1, 1) := by decide +kernel
theorem dX13_datum_145 : decode cX13_datum 145 = .ok (.iaload, 1) := by decide +kernel
theorem dX13_datum_146 : decode cX13_datum 146 = .ok (.invokevirtual 254, 3) := by decide +kernel
theorem dX13_datum_149 : decode cX13_datum 149 = .ok (.ireturn, 1) := by decide +kernel
theorem dX13_datum_150 : decode cX13_datum 150 = .ok (.aload_n 0, 1) := by decide +kernel
theorem dX13_datum_151 : decode cX13_datum 151 = .ok (.invokevirtual 257, 3) := by decide +kernel
theorem dX13_datum_154 : decode cX13_datum 154 = .ok (.ireturn, 1) := by decide +kernel
theorem dX13_datum_155 : decode cX13_datum 155 = .ok (.aload_n 0, 1) := by decide +kernel
theorem dX13_datum_156 : decode cX13_datum 156 = .ok (.invokevirtual 261, 3) := by decide +kernel
theorem dX13_datum_159 : decode cX13_datum 159 = .ok (.ireturn, 1) := by decide +kernel
theorem dX13_datum_160 : decode cX13_datum 160 = .ok (.aload_n 0, 1) := by decide +kernel
theorem dX13_datum_161 : decode cX13_datum 161 = .ok (.iconst 1, 1) := by decide +kernel
theorem dX13_datum_162 : decode cX13_datum 162 = .ok (.invokevirtual 264, 3) := by decide +kernel
theorem dX13_datum_165 : decode cX13_datum 165 = .ok (.athrow, 1) := by decide +kernel
theorem dX13_enters_0 : decode cX13_enters 0 = .ok (.aload_n 0, 1) := by decide +kernel
theorem dX13_enters_1 : decode cX13_enters 1 = .ok (.getfield 268, 3) := by decide +kernel
theorem dX13_enters_4 : decode cX13_enters 4 = .ok (.bipush 30, 2) := by decide +kernel
theorem dX13_enters_6 : decode cX13_enters 6 = .ok (.if_icmp .ne 9, 3) := by decide +kernel
theorem dX13_enters_9 : decode cX13_enters 9 = .ok (.aload_n 0, 1) := by decide +kernel
theorem dX13_enters_10 : decode cX13_enters 10 = .ok (.iconst 2, 1) := by decide +kernel
theorem dX13_enters_11 : decode cX13_enters 11 = .ok (.invokevirtual 264, 3) := by decide +kernel
theorem dX13_enters_14 : decode cX13_enters 14 = .ok (.athrow, 1) := by decide +kernel
theorem dX13_enters_15 : decode cX13_enters 15 = .ok (.aload_n 0, 1) := by decide +kernel
theorem dX13_enters_16 : decode cX13_enters 16 = .ok (.dup, 1) := by decide +kernel
theorem dX13_enters_17 : decode cX13_enters 17 = .ok (.getfield 268, 3) := by decide +kernel
theorem dX13_enters_20 : decode cX13_enters 20 = .ok (.iconst 1, 1) := by decide +kernel
theorem dX13_enters_21 : decode cX13_enters 21 = .ok (.iadd, 1) := by decide +kernel
theorem dX13_enters_22 : decode cX13_enters 22 = .ok (.putfield 268, 3) := by decide +kernel
theorem dX13_enters_25 : decode cX13_enters 25 = .ok (.aload_n 0, 1) := by decide +kernel
theorem dX13_enters_26 : decode cX13_enters 26 = .ok (.dup, 1) := by decide +kernel
theorem dX13_enters_27 : decode cX13_enters 27 = .ok (.getfield 226, 3) := by decide +kernel
theorem dX13_enters_30 : decode cX13_enters 30 = .ok (.iconst 1, 1) := by decide +kernel
theorem dX13_enters_31 : decode cX13_enters 31 = .ok (.iadd, 1) := by decide +kernel
theorem dX13_enters_32 : decode cX13_enters 32 = .ok (.putfield 226, 3) := by decide +kernel
theorem dX13_enters_35 : decode cX13_enters 35 = .ok (.return_, 1) := by decide +kernel
theorem dX13_quoted_0 : decode cX13_quoted 0 = .ok (.aload_n 0, 1) := by decide +kernel
theorem dX13_quoted_1 : decode cX13_quoted 1 = .ok (.getfield 226, 3) := by decide +kernel
theorem dX13_quoted_4 : decode cX13_quoted 4 = .ok (.istore_n 1, 1) := by decide +kernel
theorem dX13_quoted_5 : decode cX13_quoted 5 = .ok (.aload_n 0, 1) := by decide +kernel
theorem dX13_quoted_6 : decode cX13_quoted 6 = .ok (.invokevirtual 271, 3) := by decide +kernel
theorem dX13_quoted_9 : decode cX13_quoted 9 = .ok (.aload_n 0, 1) := by decide +kernel
theorem dX13_quoted_10 : decode cX13_quoted 10 = .ok (.iconst 4, 1) := by decide +kernel
theorem dX13_quoted_11 : decode cX13_quoted 11 = .ok (.iconst 0, 1) := by decide +kernel
theorem dX13_quoted_12 : decode cX13_quoted 12 = .ok (.aload_n 0, 1) := by decide +kernel
theorem dX13_quoted_13 : decode cX13_quoted 13 = .ok (.getfield 24, 3) := by decide +kernel
theorem dX13_quoted_16 : decode cX13_quoted 16 = .ok (.iload_n 1, 1) := by decide +kernel
theorem dX13_quoted_17 : decode cX13_quoted 17 = .ok (.iaload, 1) := by decide +kernel
theorem dX13_quoted_18 : decode cX13_quoted 18 = .ok (.invokevirtual 254, 3) := by decide +kernel
theorem dX13_quoted_21 : decode cX13_quoted 21 = .ok (.istore_n 2, 1) := by decide +kernel
theorem dX13_quoted_22 : decode cX13_quoted 22 = .ok (.aload_n 0, 1) := by decide +kernel
theorem dX13_quoted_23 : decode cX13_quoted 23 = .ok (.iconst 3, 1) := by decide +kernel
theorem dX13_quoted_24 : decode cX13_quoted 24 = .ok (.aload_n 0, 1) := by decide +kernel
theorem dX13_quoted_25 : decode cX13_quoted 25 = .ok (.getfield 27, 3) := by decide +kernel
theorem dX13_quoted_28 : decode cX13_quoted 28 = .ok (.iload_n 1, 1) := by decide +kernel
theorem dX13_quoted_29 : decode cX13_quoted 29 = .ok (.iaload, 1) := by decide +kernel
theorem dX13_quoted_30 : decode cX13_quoted 30 = .ok (.aload_n 0, 1) := by decide +kernel
theorem dX13_quoted_31 : decode cX13_quoted 31 = .ok (.getfield 24, 3) := by decide +kernel
theorem dX13_quoted_34 : decode cX13_quoted 34 = .ok (.iload_n 1, 1) := by decide +kernel
theorem dX13_quoted_35 : decode cX13_quoted 35 = .ok (.iaload, 1) := by decide +kernel
theorem dX13_quoted_36 : decode cX13_quoted 36 = .ok (.invokevirtual 254, 3) := by decide +kernel
theorem dX13_quoted_39 : decode cX13_quoted 39 = .ok (.istore_n 3, 1) := by decide +kernel
theorem dX13_quoted_40 : decode cX13_quoted 40 = .ok (.aload_n 0, 1) := by decide +kernel
theorem dX13_quoted_41 : decode cX13_quoted 41 = .ok (.getfield 47, 3) := by decide +kernel
theorem dX13_quoted_44 : decode cX13_quoted 44 = .ok (.getfield 243, 3) := by decide +kernel
theorem dX13_quoted_47 : decode cX13_quoted 47 = .ok (.iload_n 2, 1) := by decide +kernel
theorem dX13_quoted_48 : decode cX13_quoted 48 = .ok (.iload_n 3, 1) := by decide +kernel
theorem dX13_quoted_49 : decode cX13_quoted 49 = .ok (.iastore, 1) := by decide +kernel
theorem dX13_quoted_50 : decode cX13_quoted 50 = .ok (.aload_n 0, 1) := by decide +kernel
theorem dX13_quoted_51 : decode cX13_quoted 51 = .ok (.getfield 47, 3) := by decide +kernel
theorem dX13_quoted_54 : decode cX13_quoted 54 = .ok (.getfield 246, 3) := by decide +kernel
theorem dX13_quoted_57 : decode cX13_quoted 57 = .ok (.iload_n 3, 1) := by decide +kernel
theorem dX13_quoted_58 : decode cX13_quoted 58 = .ok (.aload_n 0, 1) := by decide +kernel
theorem dX13_quoted_59 : decode cX13_quoted 59 = .ok (.invokevirtual 274, 3) := by decide +kernel
theorem dX13_quoted_62 : decode cX13_quoted 62 = .ok (.iastore, 1) := by decide +kernel
theorem dX13_quoted_63 : decode cX13_quoted 63 = .ok (.aload_n 0, 1) := by decide +kernel
theorem dX13_quoted_64 : decode cX13_quoted 64 = .ok (.dup, 1) := by decide +kernel
theorem dX13_quoted_65 : decode cX13_quoted 65 = .ok (.getfield 268, 3) := by decide +kernel
theorem dX13_quoted_68 : decode cX13_quoted 68 = .ok (.iconst 1, 1) := by decide +kernel
theorem dX13_quoted_69 : decode cX13_quoted 69 = .ok (.isub, 1) := by decide +kernel
theorem dX13_quoted_70 : decode cX13_quoted 70 = .ok (.putfield 268, 3) := by decide +kernel
theorem dX13_quoted_73 : decode cX13_quoted 73 = .ok (.iload_n 2, 1) := by decide +kernel
theorem dX13_quoted_74 : decode cX13_quoted 74 = .ok (.ireturn, 1) := by decide +kernel
theorem dX13_list_0 : decode cX13_list 0 = .ok (.aload_n 0, 1) := by decide +kernel
theorem dX13_list_1 : decode cX13_list 1 = .ok (.getfield 226, 3) := by decide +kernel
theorem dX13_list_4 : decode cX13_list 4 = .ok (.istore_n 1, 1) := by decide +kernel
theorem dX13_list_5 : decode cX13_list 5 = .ok (.aload_n 0, 1) := by decide +kernel
theorem dX13_list_6 : decode cX13_list 6 = .ok (.invokevirtual 271, 3) := by decide +kernel
theorem dX13_list_9 : decode cX13_list 9 = .ok (.aload_n 0, 1) := by decide +kernel
theorem dX13_list_10 : decode cX13_list 10 = .ok (.iconst 4, 1) := by decide +kernel
theorem dX13_list_11 : decode cX13_list 11 = .ok (.iconst 0, 1) := by decide +kernel
theorem dX13_list_12 : decode cX13_list 12 = .ok (.aload_n 0, 1) := by decide +kernel
theorem dX13_list_13 : decode cX13_list 13 = .ok (.getfield 24, 3) := by decide +kernel
theorem dX13_list_16 : decode cX13_list 16 = .ok (.iload_n 1, 1) := by decide +kernel
theorem dX13_list_17 : decode cX13_list 17 = .ok (.iaload, 1) := by decide +kernel
theorem dX13_list_18 : decode cX13_list 18 = .ok (.invokevirtual 254, 3) := by decide +kernel
theorem dX13_list_21 : decode cX13_list 21 = .ok (.istore_n 2, 1) := by decide +kernel
theorem dX13_list_22 : decode cX13_list 22 = .ok (.iconst (-1), 1) := by decide +kernel
theorem dX13_list_23 : decode cX13_list 23 = .ok (.istore_n 3, 1) := by decide +kernel
theorem dX13_list_24 : decode cX13_list 24 = .ok (.aload_n 0, 1) := by decide +kernel
theorem dX13_list_25 : decode cX13_list 25 = .ok (.getfield 20, 3) := by decide +kernel
theorem dX13_list_28 : decode cX13_list 28 = .ok (.aload_n 0, 1) := by decide +kernel
theorem dX13_list_29 : decode cX13_list 29 = .ok (.getfield 226, 3) := by decide +kernel
theorem dX13_list_32 : decode cX13_list 32 = .ok (.iaload, 1) := by decide +kernel
theorem dX13_list_33 : decode cX13_list 33 = .ok (.iconst 3, 1) := by decide +kernel
theorem dX13_list_34 : decode cX13_list 34 = .ok (.if_icmp .eq 45, 3) := by decide +kernel
theorem dX13_list_37 : decode cX13_list 37 = .ok (.aload_n 0, 1) := by decide +kernel
theorem dX13_list_38 : decode cX13_list 38 = .ok (.invokevirtual 274, 3) := by decide +kernel
theorem dX13_list_41 : decode cX13_list 41 = .ok (.istore 4, 2) := by decide +kernel
theorem dX13_list_43 : decode cX13_list 43 = .ok (.iload_n 3, 1) := by decide +kernel
theorem dX13_list_44 : decode cX13_list 44 = .ok (.iconst (-1), 1) := by decide +kernel
theorem dX13_list_45 : decode cX13_list 45 = .ok (.if_icmp .ne 17, 3) := by decide +kernel
theorem dX13_list_48 : decode cX13_list 48 = .ok (.aload_n 0, 1) := by decide +kernel
theorem dX13_list_49 : decode cX13_list 49 = .ok (.getfield 47, 3) := by decide +kernel
theorem dX13_list_52 : decode cX13_list 52 = .ok (.getfield 243, 3) := by decide +kernel
theorem dX13_list_55 : decode cX13_list 55 = .ok (.iload_n 2, 1) := by decide +kernel
theorem dX13_list_56 : decode cX13_list 56 = .ok (.iload 4, 2) := by decide +kernel
theorem dX13_list_58 : decode cX13_list 58 = .ok (.iastore, 1) := by decide +kernel
theorem dX13_list_59 : decode cX13_list 59 = .ok (.goto 14, 3) := by decide +kernel
theorem dX13_list_62 : decode cX13_list 62 = .ok (.aload_n 0, 1) := by decide +kernel
theorem dX13_list_63 : decode cX13_list 63 = .ok (.getfield 47, 3) := by decide +kernel
theorem dX13_list_66 : decode cX13_list 66 = .ok (.getfield 246, 3) := by decide +kernel
theorem dX13_list_69 : decode cX13_list 69 = .ok (.iload_n 3, 1) := by decide +kernel
theorem dX13_list_70 : decode cX13_list 70 = .ok (.iload 4, 2) := by decide +kernel
theorem dX13_list_72 : decode cX13_list 72 = .ok (.iastore, 1) := by decide +kernel
theorem dX13_list_73 : decode cX13_list 73 = .ok (.iload 4, 2) := by decide +kernel
theorem dX13_list_75 : decode cX13_list 75 = .ok (.istore_n 3, 1) := by decide +kernel
theorem dX13_list_76 : decode cX13_list 76 = .ok (.goto (-52), 3) := by decide +kernel
theorem dX13_list_79 : decode cX13_list 79 = .ok (.aload_n 0, 1) := by decide +kernel
theorem dX13_list_80 : decode cX13_list 80 = .ok (.dup, 1) := by decide +kernel
theorem dX13_list_81 : decode cX13_list 81 = .ok (.getfield 226, 3) := by decide +kernel
theorem dX13_list_84 : decode cX13_list 84 = .ok (.iconst 1, 1) := by decide +kernel
theorem dX13_list_85 : decode cX13_list 85 = .ok (.iadd, 1) := by decide +kernel
theorem dX13_list_86 : decode cX13_list 86 = .ok (.putfield 226, 3) := by decide +kernel
theorem dX13_list_89 : decode cX13_list 89 = .ok (.aload_n 0, 1) := by decide +kernel
theorem dX13_list_90 : decode cX13_list 90 = .ok (.dup, 1) := by decide +kernel
theorem dX13_list_91 : decode cX13_list 91 = .ok (.getfield 268, 3) := by decide +kernel
theorem dX13_list_94 : decode cX13_list 94 = .ok (.iconst 1, 1) := by decide +kernel
theorem dX13_list_95 : decode cX13_list 95 = .ok (.isub, 1) := by decide +kernel
theorem dX13_list_96 : decode cX13_list 96 = .ok (.putfield 268, 3) := by decide +kernel
theorem dX13_list_99 : decode cX13_list 99 = .ok (.iload_n 2, 1) := by decide +kernel
theorem dX13_list_100 : decode cX13_list 100 = .ok (.ireturn, 1) := by decide +kernel
theorem dX13_rows_0 : decode cX13_rows 0 = .ok (.iconst (-1), 1) := by decide +kernel
theorem dX13_rows_1 : decode cX13_rows 1 = .ok (.istore_n 1, 1) := by decide +kernel
theorem dX13_rows_2 : decode cX13_rows 2 = .ok (.aload_n 0, 1) := by decide +kernel
theorem dX13_rows_3 : decode cX13_rows 3 = .ok (.getfield 20, 3) := by decide +kernel
theorem dX13_rows_6 : decode cX13_rows 6 = .ok (.aload_n 0, 1) := by decide +kernel
theorem dX13_rows_7 : decode cX13_rows 7 = .ok (.getfield 226, 3) := by decide +kernel
theorem dX13_rows_10 : decode cX13_rows 10 = .ok (.iaload, 1) := by decide +kernel
theorem dX13_rows_11 : decode cX13_rows 11 = .ok (.ifCond .eq 52, 3) := by decide +kernel
theorem dX13_rows_14 : decode cX13_rows 14 = .ok (.aload_n 0, 1) := by decide +kernel
theorem dX13_rows_15 : decode cX13_rows 15 = .ok (.invokevirtual 274, 3) := by decide +kernel
theorem dX13_rows_18 : decode cX13_rows 18 = .ok (.istore_n 2, 1) := by decide +kernel
theorem dX13_rows_19 : decode cX13_rows 19 = .ok (.iload_n 1, 1) := by decide +kernel
theorem dX13_rows_20 : decode cX13_rows 20 = .ok (.iconst (-1), 1) := by decide +kernel
theorem dX13_rows_21 : decode cX13_rows 21 = .ok (.if_icmp .ne 14, 3) := by decide +kernel
theorem dX13_rows_24 : decode cX13_rows 24 = .ok (.aload_n 0, 1) := by decide +kernel
theorem dX13_rows_25 : decode cX13_rows 25 = .ok (.getfield 47, 3) := by decide +kernel
theorem dX13_rows_28 : decode cX13_rows 28 = .ok (.iload_n 2, 1) := by decide +kernel
theorem dX13_rows_29 : decode cX13_rows 29 = .ok (.putfield 277, 3) := by decide +kernel
theorem dX13_rows_32 : decode cX13_rows 32 = .ok (.goto 13, 3) := by decide +kernel
theorem dX13_rows_35 : decode cX13_rows 35 = .ok (.aload_n 0, 1) := by decide +kernel
theorem dX13_rows_36 : decode cX13_rows 36 = .ok (.getfield 47, 3) := by decide +kernel
theorem dX13_rows_39 : decode cX13_rows 39 = .ok (.getfield 246, 3) := by decide +kernel
theorem dX13_rows_42 : decode cX13_rows 42 = .ok (.iload_n 1, 1) := by decide +kernel
theorem dX13_rows_43 : decode cX13_rows 43 = .ok (.iload_n 2, 1) := by decide +kernel
theorem dX13_rows_44 : decode cX13_rows 44 = .ok (.iastore, 1) := by decide +kernel
theorem dX13_rows_45 : decode cX13_rows 45 = .ok (.iload_n 2, 1) := by decide +kernel
theorem dX13_rows_46 : decode cX13_rows 46 = .ok (.istore_n 1, 1) := by decide +kernel
theorem dX13_rows_47 : decode cX13_rows 47 = .ok (.aload_n 0, 1) := by decide +kernel
theorem dX13_rows_48 : decode cX13_rows 48 = .ok (.getfield 47, 3) := by decide +kernel
theorem dX13_rows_51 : decode cX13_rows 51 = .ok (.dup, 1) := by decide +kernel
theorem dX13_rows_52 : decode cX13_rows 52 = .ok (.getfield 280, 3) := by decide +kernel
theorem dX13_rows_55 : decode cX13_rows 55 = .ok (.iconst 1, 1) := by decide +kernel
theorem dX13_rows_56 : decode cX13_rows 56 = .ok (.iadd, 1) := by decide +kernel
theorem dX13_rows_57 : decode cX13_rows 57 = .ok (.putfield 280, 3) := by decide +kernel
theorem dX13_rows_60 : decode cX13_rows 60 = .ok (.goto (-58), 3) := by decide +kernel
theorem dX13_rows_63 : decode cX13_rows 63 = .ok (.return_, 1) := by decide +kernel
theorem dX13_wrong_0 : decode cX13_wrong 0 = .ok (.aload_n 0, 1) := by decide +kernel
theorem dX13_wrong_1 : decode cX13_wrong 1 = .ok (.getfield 283, 3) := by decide +kernel
theorem dX13_wrong_4 : decode cX13_wrong 4 = .ok (.ifCond .le 28, 3) := by decide +kernel
theorem dX13_wrong_7 : decode cX13_wrong 7 = .ok (.aload_n 0, 1) := by decide +kernel
theorem dX13_wrong_8 : decode cX13_wrong 8 = .ok (.getfield 286, 3) := by decide +kernel
theorem dX13_wrong_11 : decode cX13_wrong 11 = .ok (.iload_n 2, 1) := by decide +kernel
theorem dX13_wrong_12 : decode cX13_wrong 12 = .ok (.if_icmp .lt 19, 3) := by decide +kernel
theorem dX13_wrong_15 : decode cX13_wrong 15 = .ok (.aload_n 0, 1) := by decide +kernel
theorem dX13_wrong_16 : decode cX13_wrong 16 = .ok (.getfield 286, 3) := by decide +kernel
theorem dX13_wrong_19 : decode cX13_wrong 19 = .ok (.iload_n 2, 1) := by decide +kernel
theorem dX13_wrong_20 : decode cX13_wrong 20 = .ok (.if_icmp .ne 12, 3) := by decide +kernel
theorem dX13_wrong_23 : decode cX13_wrong 23 = .ok (.aload_n 0, 1) := by decide +kernel
theorem dX13_wrong_24 : decode cX13_wrong 24 = .ok (.getfield 283, 3) := by decide +kernel
theorem dX13_wrong_27 : decode cX13_wrong 27 = .ok (.iload_n 1, 1) := by decide +kernel
theorem dX13_wrong_28 : decode cX13_wrong 28 = .ok (.if_icmp .gt 4, 3) := by decide +kernel
theorem dX13_wrong_31 : decode cX13_wrong 31 = .ok (.return_, 1) := by decide +kernel
theorem dX13_wrong_32 : decode cX13_wrong 32 = .ok (.aload_n 0, 1) := by decide +kernel
theorem dX13_wrong_33 : decode cX13_wrong 33 = .ok (.iload_n 1, 1) := by decide +kernel
theorem dX13_wrong_34 : decode cX13_wrong 34 = .ok (.putfield 283, 3) := by decide +kernel
theorem dX13_wrong_37 : decode cX13_wrong 37 = .ok (.aload_n 0, 1) := by decide +kernel
theorem dX13_wrong_38 : decode cX13_wrong 38 = .ok (.iload_n 2, 1) := by decide +kernel
theorem dX13_wrong_39 : decode cX13_wrong 39 = .ok (.putfield 286, 3) := by decide +kernel
theorem dX13_wrong_42 : decode cX13_wrong 42 = .ok (.return_, 1) := by decide +kernel
theorem dX13_parts_0 : decode cX13_parts 0 = .ok (.iconst 0, 1) := by decide +kernel
theorem dX13_parts_1 : decode cX13_parts 1 = .ok (.istore_n 2, 1) := by decide +kernel
theorem dX13_parts_2 : decode cX13_parts 2 = .ok (.aload_n 0, 1) := by decide +kernel
theorem dX13_parts_3 : decode cX13_parts 3 = .ok (.getfield 47, 3) := by decide +kernel
theorem dX13_parts_6 : decode cX13_parts 6 = .ok (.getfield 243, 3) := by decide +kernel
theorem dX13_parts_9 : decode cX13_parts 9 = .ok (.iload_n 1, 1) := by decide +kernel
theorem dX13_parts_10 : decode cX13_parts 10 = .ok (.iaload, 1) := by decide +kernel
theorem dX13_parts_11 : decode cX13_parts 11 = .ok (.istore_n 3, 1) := by decide +kernel
theorem dX13_parts_12 : decode cX13_parts 12 = .ok (.iload_n 3, 1) := by decide +kernel
theorem dX13_parts_13 : decode cX13_parts 13 = .ok (.iconst (-1), 1) := by decide +kernel
theorem dX13_parts_14 : decode cX13_parts 14 = .ok (.if_icmp .eq 19, 3) := by decide +kernel
theorem dX13_parts_17 : decode cX13_parts 17 = .ok (.iinc 2 1, 3) := by decide +kernel
theorem dX13_parts_20 : decode cX13_parts 20 = .ok (.aload_n 0, 1) := by decide +kernel
theorem dX13_parts_21 : decode cX13_parts 21 = .ok (.getfield 47, 3) := by decide +kernel
theorem dX13_parts_24 : decode cX13_parts 24 = .ok (.getfield 246, 3) := by decide +kernel
theorem dX13_parts_27 : decode cX13_parts 27 = .ok (.iload_n 3, 1) := by decide +kernel
theorem dX13_parts_28 : decode cX13_parts 28 = .ok (.iaload, 1) := by decide +kernel
theorem dX13_parts_29 : decode cX13_parts 29 = .ok (.istore_n 3, 1) := by decide +kernel
theorem dX13_parts_30 : decode cX13_parts 30 = .ok (.goto (-18), 3) := by decide +kernel
theorem dX13_parts_33 : decode cX13_parts 33 = .ok (.iload_n 2, 1) := by decide +kernel
theorem dX13_parts_34 : decode cX13_parts 34 = .ok (.ireturn, 1) := by decide +kernel
theorem dX13_part_0 : decode cX13_part 0 = .ok (.aload_n 0, 1) := by decide +kernel
theorem dX13_part_1 : decode cX13_part 1 = .ok (.getfield 47, 3) := by decide +kernel
theorem dX13_part_4 : decode cX13_part 4 = .ok (.getfield 243, 3) := by decide +kernel
theorem dX13_part_7 : decode cX13_part 7 = .ok (.iload_n 1, 1) := by decide +kernel
theorem dX13_part_8 : decode cX13_part 8 = .ok (.iaload, 1) := by decide +kernel
theorem dX13_part_9 : decode cX13_part 9 = .ok (.istore_n 3, 1) := by decide +kernel
theorem dX13_part_10 : decode cX13_part 10 = .ok (.iconst 0, 1) := by decide +kernel
theorem dX13_part_11 : decode cX13_part 11 = .ok (.istore 4, 2) := by decide +kernel
theorem dX13_part_13 : decode cX13_part 13 = .ok (.iload 4, 2) := by decide +kernel
theorem dX13_part_15 : decode cX13_part 15 = .ok (.iload_n 2, 1) := by decide +kernel
theorem dX13_part_16 : decode cX13_part 16 = .ok (.if_icmp .ge 19, 3) := by decide +kernel
theorem dX13_part_19 : decode cX13_part 19 = .ok (.aload_n 0, 1) := by decide +kernel
theorem dX13_part_20 : decode cX13_part 20 = .ok (.getfield 47, 3) := by decide +kernel
theorem dX13_part_23 : decode cX13_part 23 = .ok (.getfield 246, 3) := by decide +kernel
theorem dX13_part_26 : decode cX13_part 26 = .ok (.iload_n 3, 1) := by decide +kernel
theorem dX13_part_27 : decode cX13_part 27 = .ok (.iaload, 1) := by decide +kernel
theorem dX13_part_28 : decode cX13_part 28 = .ok (.istore_n 3, 1) := by decide +kernel
theorem dX13_part_29 : decode cX13_part 29 = .ok (.iinc 4 1, 3) := by decide +kernel
theorem dX13_part_32 : decode cX13_part 32 = .ok (.goto (-19), 3) := by decide +kernel
theorem dX13_part_35 : decode cX13_part 35 = .ok (.iload_n 3, 1) := by decide +kernel
theorem dX13_part_36 : decode cX13_part 36 = .ok (.ireturn, 1) := by decide +kernel
theorem dX13_isList_0 : decode cX13_isList 0 = .ok (.aload_n 0, 1) := by decide +kernel
theorem dX13_isList_1 : decode cX13_isList 1 = .ok (.getfield 47, 3) := by decide +kernel
theorem dX13_isList_4 : decode cX13_isList 4 = .ok (.getfield 235, 3) := by decide +kernel
theorem dX13_isList_7 : decode cX13_isList 7 = .ok (.iload_n 1, 1) := by decide +kernel
theorem dX13_isList_8 : decode cX13_isList 8 = .ok (.iaload, 1) := by decide +kernel
theorem dX13_isList_9 : decode cX13_isList 9 = .ok (.iconst 4, 1) := by decide +kernel
theorem dX13_isList_10 : decode cX13_isList 10 = .ok (.if_icmp .ne 7, 3) := by decide +kernel
theorem dX13_isList_13 : decode cX13_isList 13 = .ok (.iconst 1, 1) := by decide +kernel
theorem dX13_isList_14 : decode cX13_isList 14 = .ok (.goto 4, 3) := by decide +kernel
theorem dX13_isList_17 : decode cX13_isList 17 = .ok (.iconst 0, 1) := by decide +kernel
theorem dX13_isList_18 : decode cX13_isList 18 = .ok (.ireturn, 1) := by decide +kernel
theorem dX13_isNameNode_0 : decode cX13_isNameNode 0 = .ok (.aload_n 0, 1) := by decide +kernel
theorem dX13_isNameNode_1 : decode cX13_isNameNode 1 = .ok (.getfield 47, 3) := by decide +kernel
theorem dX13_isNameNode_4 : decode cX13_isNameNode 4 = .ok (.getfield 235, 3) := by decide +kernel
theorem dX13_isNameNode_7 : decode cX13_isNameNode 7 = .ok (.iload_n 1, 1) := by decide +kernel
theorem dX13_isNameNode_8 : decode cX13_isNameNode 8 = .ok (.iaload, 1) := by decide +kernel
theorem dX13_isNameNode_9 : decode cX13_isNameNode 9 = .ok (.iconst 3, 1) := by decide +kernel
theorem dX13_isNameNode_10 : decode cX13_isNameNode 10 = .ok (.if_icmp .ne 7, 3) := by decide +kernel
theorem dX13_isNameNode_13 : decode cX13_isNameNode 13 = .ok (.iconst 1, 1) := by decide +kernel
theorem dX13_isNameNode_14 : decode cX13_isNameNode 14 = .ok (.goto 4, 3) := by decide +kernel
theorem dX13_isNameNode_17 : decode cX13_isNameNode 17 = .ok (.iconst 0, 1) := by decide +kernel
theorem dX13_isNameNode_18 : decode cX13_isNameNode 18 = .ok (.ireturn, 1) := by decide +kernel
theorem dX13_wordOf_0 : decode cX13_wordOf 0 = .ok (.aload_n 0, 1) := by decide +kernel
theorem dX13_wordOf_1 : decode cX13_wordOf 1 = .ok (.getfield 47, 3) := by decide +kernel
theorem dX13_wordOf_4 : decode cX13_wordOf 4 = .ok (.getfield 243, 3) := by decide +kernel
theorem dX13_wordOf_7 : decode cX13_wordOf 7 = .ok (.iload_n 1, 1) := by decide +kernel
theorem dX13_wordOf_8 : decode cX13_wordOf 8 = .ok (.iaload, 1) := by decide +kernel
theorem dX13_wordOf_9 : decode cX13_wordOf 9 = .ok (.istore_n 2, 1) := by decide +kernel
theorem dX13_wordOf_10 : decode cX13_wordOf 10 = .ok (.iload_n 2, 1) := by decide +kernel
theorem dX13_wordOf_11 : decode cX13_wordOf 11 = .ok (.iconst (-1), 1) := by decide +kernel
theorem dX13_wordOf_12 : decode cX13_wordOf 12 = .ok (.if_icmp .eq 11, 3) := by decide +kernel
theorem dX13_wordOf_15 : decode cX13_wordOf 15 = .ok (.aload_n 0, 1) := by decide +kernel
theorem dX13_wordOf_16 : decode cX13_wordOf 16 = .ok (.iload_n 2, 1) := by decide +kernel
theorem dX13_wordOf_17 : decode cX13_wordOf 17 = .ok (.invokevirtual 289, 3) := by decide +kernel
theorem dX13_wordOf_20 : decode cX13_wordOf 20 = .ok (.ifCond .ne 5, 3) := by decide +kernel
theorem dX13_wordOf_23 : decode cX13_wordOf 23 = .ok (.iconst 0, 1) := by decide +kernel
theorem dX13_wordOf_24 : decode cX13_wordOf 24 = .ok (.ireturn, 1) := by decide +kernel
theorem dX13_wordOf_25 : decode cX13_wordOf 25 = .ok (.aload_n 0, 1) := by decide +kernel
theorem dX13_wordOf_26 : decode cX13_wordOf 26 = .ok (.getfield 47, 3) := by decide +kernel
theorem dX13_wordOf_29 : decode cX13_wordOf 29 = .ok (.getfield 209, 3) := by decide +kernel
theorem dX13_wordOf_32 : decode cX13_wordOf 32 = .ok (.aload_n 0, 1) := by decide +kernel
theorem dX13_wordOf_33 : decode cX13_wordOf 33 = .ok (.getfield 47, 3) := by decide +kernel
theorem dX13_wordOf_36 : decode cX13_wordOf 36 = .ok (.getfield 238, 3) := by decide +kernel
theorem dX13_wordOf_39 : decode cX13_wordOf 39 = .ok (.iload_n 2, 1) := by decide +kernel
theorem dX13_wordOf_40 : decode cX13_wordOf 40 = .ok (.iaload, 1) := by decide +kernel
theorem dX13_wordOf_41 : decode cX13_wordOf 41 = .ok (.iaload, 1) := by decide +kernel
theorem dX13_wordOf_42 : decode cX13_wordOf 42 = .ok (.istore_n 3, 1) := by decide +kernel
theorem dX13_wordOf_43 : decode cX13_wordOf 43 = .ok (.iload_n 3, 1) := by decide +kernel
theorem dX13_wordOf_44 : decode cX13_wordOf 44 = .ok (.bipush 10, 2) := by decide +kernel
theorem dX13_wordOf_46 : decode cX13_wordOf 46 = .ok (.if_icmp .gt 7, 3) := by decide +kernel
theorem dX13_wordOf_49 : decode cX13_wordOf 49 = .ok (.iload_n 3, 1) := by decide +kernel
theorem dX13_wordOf_50 : decode cX13_wordOf 50 = .ok (.goto 4, 3) := by decide +kernel
theorem dX13_wordOf_53 : decode cX13_wordOf 53 = .ok (.iconst 0, 1) := by decide +kernel
theorem dX13_wordOf_54 : decode cX13_wordOf 54 = .ok (.ireturn, 1) := by decide +kernel
theorem dX13_areNames_0 : decode cX13_areNames 0 = .ok (.aload_n 0, 1) := by decide +kernel
theorem dX13_areNames_1 : decode cX13_areNames 1 = .ok (.iload_n 1, 1) := by decide +kernel
theorem dX13_areNames_2 : decode cX13_areNames 2 = .ok (.invokevirtual 292, 3) := by decide +kernel
theorem dX13_areNames_5 : decode cX13_areNames 5 = .ok (.ifCond .eq 13, 3) := by decide +kernel
theorem dX13_areNames_8 : decode cX13_areNames 8 = .ok (.aload_n 0, 1) := by decide +kernel
theorem dX13_areNames_9 : decode cX13_areNames 9 = .ok (.iload_n 1, 1) := by decide +kernel
theorem dX13_areNames_10 : decode cX13_areNames 10 = .ok (.invokevirtual 295, 3) := by decide +kernel
theorem dX13_areNames_13 : decode cX13_areNames 13 = .ok (.bipush 8, 2) := by decide +kernel
theorem dX13_areNames_15 : decode cX13_areNames 15 = .ok (.if_icmp .le 5, 3) := by decide +kernel
theorem dX13_areNames_18 : decode cX13_areNames 18 = .ok (.iconst 0, 1) := by decide +kernel
theorem dX13_areNames_19 : decode cX13_areNames 19 = .ok (.ireturn, 1) := by decide +kernel
theorem dX13_areNames_20 : decode cX13_areNames 20 = .ok (.aload_n 0, 1) := by decide +kernel
theorem dX13_areNames_21 : decode cX13_areNames 21 = .ok (.getfield 47, 3) := by decide +kernel
theorem dX13_areNames_24 : decode cX13_areNames 24 = .ok (.getfield 243, 3) := by decide +kernel
theorem dX13_areNames_27 : decode cX13_areNames 27 = .ok (.iload_n 1, 1) := by decide +kernel
theorem dX13_areNames_28 : decode cX13_areNames 28 = .ok (.iaload, 1) := by decide +kernel
theorem dX13_areNames_29 : decode cX13_areNames 29 = .ok (.istore_n 2, 1) := by decide +kernel
theorem dX13_areNames_30 : decode cX13_areNames 30 = .ok (.iload_n 2, 1) := by decide +kernel
theorem dX13_areNames_31 : decode cX13_areNames 31 = .ok (.iconst (-1), 1) := by decide +kernel
theorem dX13_areNames_32 : decode cX13_areNames 32 = .ok (.if_icmp .eq 26, 3) := by decide +kernel
theorem dX13_areNames_35 : decode cX13_areNames 35 = .ok (.aload_n 0, 1) := by decide +kernel
theorem dX13_areNames_36 : decode cX13_areNames 36 = .ok (.iload_n 2, 1) := by decide +kernel
theorem dX13_areNames_37 : decode cX13_areNames 37 = .ok (.invokevirtual 289, 3) := by decide +kernel
theorem dX13_areNames_40 : decode cX13_areNames 40 = .ok (.ifCond .ne 5, 3) := by decide +kernel
theorem dX13_areNames_43 : decode cX13_areNames 43 = .ok (.iconst 0, 1) := by decide +kernel
theorem dX13_areNames_44 : decode cX13_areNames 44 = .ok (.ireturn, 1) := by decide +kernel
theorem dX13_areNames_45 : decode cX13_areNames 45 = .ok (.aload_n 0, 1) := by decide +kernel
theorem dX13_areNames_46 : decode cX13_areNames 46 = .ok (.getfield 47, 3) := by decide +kernel
theorem dX13_areNames_49 : decode cX13_areNames 49 = .ok (.getfield 246, 3) := by decide +kernel
theorem dX13_areNames_52 : decode cX13_areNames 52 = .ok (.iload_n 2, 1) := by decide +kernel
theorem dX13_areNames_53 : decode cX13_areNames 53 = .ok (.iaload, 1) := by decide +kernel
theorem dX13_areNames_54 : decode cX13_areNames 54 = .ok (.istore_n 2, 1) := by decide +kernel
theorem dX13_areNames_55 : decode cX13_areNames 55 = .ok (.goto (-25), 3) := by decide +kernel
theorem dX13_areNames_58 : decode cX13_areNames 58 = .ok (.iconst 1, 1) := by decide +kernel
theorem dX13_areNames_59 : decode cX13_areNames 59 = .ok (.ireturn, 1) := by decide +kernel
theorem dX13_arePairs_0 : decode cX13_arePairs 0 = .ok (.aload_n 0, 1) := by decide +kernel
theorem dX13_arePairs_1 : decode cX13_arePairs 1 = .ok (.iload_n 1, 1) := by decide +kernel
theorem dX13_arePairs_2 : decode cX13_arePairs 2 = .ok (.invokevirtual 292, 3) := by decide +kernel
theorem dX13_arePairs_5 : decode cX13_arePairs 5 = .ok (.ifCond .eq 13, 3) := by decide +kernel
theorem dX13_arePairs_8 : decode cX13_arePairs 8 = .ok (.aload_n 0, 1) := by decide +kernel
theorem dX13_arePairs_9 : decode cX13_arePairs 9 = .ok (.iload_n 1, 1) := by decide +kernel
theorem dX13_arePairs_10 : decode cX13_arePairs 10 = .ok (.invokevirtual 295, 3) := by decide +kernel
theorem dX13_arePairs_13 : decode cX13_arePairs 13 = .ok (.bipush 8, 2) := by decide +kernel
theorem dX13_arePairs_15 : decode cX13_arePairs 15 = .ok (.if_icmp .le 5, 3) := by decide +kernel
theorem dX13_arePairs_18 : decode cX13_arePairs 18 = .ok (.iconst 0, 1) := by decide +kernel
theorem dX13_arePairs_19 : decode cX13_arePairs 19 = .ok (.ireturn, 1) := by decide +kernel
theorem dX13_arePairs_20 : decode cX13_arePairs 20 = .ok (.aload_n 0, 1) := by decide +kernel
theorem dX13_arePairs_21 : decode cX13_arePairs 21 = .ok (.getfield 47, 3) := by decide +kernel
theorem dX13_arePairs_24 : decode cX13_arePairs 24 = .ok (.getfield 243, 3) := by decide +kernel
theorem dX13_arePairs_27 : decode cX13_arePairs 27 = .ok (.iload_n 1, 1) := by decide +kernel
theorem dX13_arePairs_28 : decode cX13_arePairs 28 = .ok (.iaload, 1) := by decide +kernel
theorem dX13_arePairs_29 : decode cX13_arePairs 29 = .ok (.istore_n 2, 1) := by decide +kernel
theorem dX13_arePairs_30 : decode cX13_arePairs 30 = .ok (.iload_n 2, 1) := by decide +kernel
theorem dX13_arePairs_31 : decode cX13_arePairs 31 = .ok (.iconst (-1), 1) := by decide +kernel
theorem dX13_arePairs_32 : decode cX13_arePairs 32 = .ok (.if_icmp .eq 51, 3) := by decide +kernel
theorem dX13_arePairs_35 : decode cX13_arePairs 35 = .ok (.aload_n 0, 1) := by decide +kernel
theorem dX13_arePairs_36 : decode cX13_arePairs 36 = .ok (.iload_n 2, 1) := by decide +kernel
theorem dX13_arePairs_37 : decode cX13_arePairs 37 = .ok (.invokevirtual 292, 3) := by decide +kernel
theorem dX13_arePairs_40 : decode cX13_arePairs 40 = .ok (.ifCond .eq 28, 3) := by decide +kernel
theorem dX13_arePairs_43 : decode cX13_arePairs 43 = .ok (.aload_n 0, 1) := by decide +kernel
theorem dX13_arePairs_44 : decode cX13_arePairs 44 = .ok (.iload_n 2, 1) := by decide +kernel
theorem dX13_arePairs_45 : decode cX13_arePairs 45 = .ok (.invokevirtual 295, 3) := by decide +kernel
theorem dX13_arePairs_48 : decode cX13_arePairs 48 = .ok (.iconst 2, 1) := by decide +kernel
theorem dX13_arePairs_49 : decode cX13_arePairs 49 = .ok (.if_icmp .ne 19, 3) := by decide +kernel
theorem dX13_arePairs_52 : decode cX13_arePairs 52 = .ok (.aload_n 0, 1) := by decide +kernel
theorem dX13_arePairs_53 : decode cX13_arePairs 53 = .ok (.aload_n 0, 1) := by decide +kernel
theorem dX13_arePairs_54 : decode cX13_arePairs 54 = .ok (.getfield 47, 3) := by decide +kernel
theorem dX13_arePairs_57 : decode cX13_arePairs 57 = .ok (.getfield 243, 3) := by decide +kernel
theorem dX13_arePairs_60 : decode cX13_arePairs 60 = .ok (.iload_n 2, 1) := by decide +kernel
theorem dX13_arePairs_61 : decode cX13_arePairs 61 = .ok (.iaload, 1) := by decide +kernel
theorem dX13_arePairs_62 : decode cX13_arePairs 62 = .ok (.invokevirtual 289, 3) := by decide +kernel
theorem dX13_arePairs_65 : decode cX13_arePairs 65 = .ok (.ifCond .ne 5, 3) := by decide +kernel
theorem dX13_arePairs_68 : decode cX13_arePairs 68 = .ok (.iconst 0, 1) := by decide +kernel
theorem dX13_arePairs_69 : decode cX13_arePairs 69 = .ok (.ireturn, 1) := by decide +kernel
theorem dX13_arePairs_70 : decode cX13_arePairs 70 = .ok (.aload_n 0, 1) := by decide +kernel
theorem dX13_arePairs_71 : decode cX13_arePairs 71 = .ok (.getfield 47, 3) := by decide +kernel
theorem dX13_arePairs_74 : decode cX13_arePairs 74 = .ok (.getfield 246, 3) := by decide +kernel
theorem dX13_arePairs_77 : decode cX13_arePairs 77 = .ok (.iload_n 2, 1) := by decide +kernel
theorem dX13_arePairs_78 : decode cX13_arePairs 78 = .ok (.iaload, 1) := by decide +kernel
theorem dX13_arePairs_79 : decode cX13_arePairs 79 = .ok (.istore_n 2, 1) := by decide +kernel
theorem dX13_arePairs_80 : decode cX13_arePairs 80 = .ok (.goto (-50), 3) := by decide +kernel
theorem dX13_arePairs_83 : decode cX13_arePairs 83 = .ok (.iconst 1, 1) := by decide +kernel
theorem dX13_arePairs_84 : decode cX13_arePairs 84 = .ok (.ireturn, 1) := by decide +kernel
theorem dX13_isShaped_0 : decode cX13_isShaped 0 = .ok (.aload_n 0, 1) := by decide +kernel
theorem dX13_isShaped_1 : decode cX13_isShaped 1 = .ok (.iload_n 1, 1) := by decide +kernel
theorem dX13_isShaped_2 : decode cX13_isShaped 2 = .ok (.invokevirtual 295, 3) := by decide +kernel
theorem dX13_isShaped_5 : decode cX13_isShaped 5 = .ok (.istore 4, 2) := by decide +kernel
theorem dX13_isShaped_7 : decode cX13_isShaped 7 = .ok (.iload_n 2, 1) := by decide +kernel
theorem dX13_isShaped_8 : decode cX13_isShaped 8 = .ok (.tableswitch 206 0 10 #[60, 78, 90, 115, 127, 127, 152, 206, 206, 206, 177], 60) := by decide +kernel
theorem dX13_isShaped_68 : decode cX13_isShaped 68 = .ok (.iload 4, 2) := by decide +kernel
theorem dX13_isShaped_70 : decode cX13_isShaped 70 = .ok (.ifCond .le 14, 3) := by decide +kernel
theorem dX13_isShaped_73 : decode cX13_isShaped 73 = .ok (.iload 4, 2) := by decide +kernel
theorem dX13_isShaped_75 : decode cX13_isShaped 75 = .ok (.bipush 9, 2) := by decide +kernel
theorem dX13_isShaped_77 : decode cX13_isShaped 77 = .ok (.if_icmp .gt 7, 3) := by decide +kernel
theorem dX13_isShaped_80 : decode cX13_isShaped 80 = .ok (.iconst 1, 1) := by decide +kernel
theorem dX13_isShaped_81 : decode cX13_isShaped 81 = .ok (.goto 4, 3) := by decide +kernel
theorem dX13_isShaped_84 : decode cX13_isShaped 84 = .ok (.iconst 0, 1) := by decide +kernel
theorem dX13_isShaped_85 : decode cX13_isShaped 85 = .ok (.ireturn, 1) := by decide +kernel
theorem dX13_isShaped_86 : decode cX13_isShaped 86 = .ok (.iload 4, 2) := by decide +kernel
theorem dX13_isShaped_88 : decode cX13_isShaped 88 = .ok (.iconst 2, 1) := by decide +kernel
theorem dX13_isShaped_89 : decode cX13_isShaped 89 = .ok (.if_icmp .ne 7, 3) := by decide +kernel
theorem dX13_isShaped_92 : decode cX13_isShaped 92 = .ok (.iconst 1, 1) := by decide +kernel
theorem dX13_isShaped_93 : decode cX13_isShaped 93 = .ok (.goto 4, 3) := by decide +kernel
theorem dX13_isShaped_96 : decode cX13_isShaped 96 = .ok (.iconst 0, 1) := by decide +kernel
theorem dX13_isShaped_97 : decode cX13_isShaped 97 = .ok (.ireturn, 1) := by decide +kernel
theorem dX13_isShaped_98 : decode cX13_isShaped 98 = .ok (.iload 4, 2) := by decide +kernel
theorem dX13_isShaped_100 : decode cX13_isShaped 100 = .ok (.iconst 2, 1) := by decide +kernel
theorem dX13_isShaped_101 : decode cX13_isShaped 101 = .ok (.if_icmp .le 20, 3) := by decide +kernel
theorem dX13_isShaped_104 : decode cX13_isShaped 104 = .ok (.aload_n 0, 1) := by decide +kernel
theorem dX13_isShaped_105 : decode cX13_isShaped 105 = .ok (.aload_n 0, 1) := by decide +kernel
theorem dX13_isShaped_106 : decode cX13_isShaped 106 = .ok (.iload_n 1, 1) := by decide +kernel
theorem dX13_isShaped_107 : decode cX13_isShaped 107 = .ok (.iconst 1, 1) := by decide +kernel
theorem dX13_isShaped_108 : decode cX13_isShaped 108 = .ok (.invokevirtual 298, 3) := by decide +kernel
theorem dX13_isShaped_111 : decode cX13_isShaped 111 = .ok (.invokevirtual 301, 3) := by decide +kernel
theorem dX13_isShaped_114 : decode cX13_isShaped 114 = .ok (.ifCond .eq 7, 3) := by decide +kernel
theorem dX13_isShaped_117 : decode cX13_isShaped 117 = .ok (.iconst 1, 1) := by decide +kernel
theorem dX13_isShaped_118 : decode cX13_isShaped 118 = .ok (.goto 4, 3) := by decide +kernel
theorem dX13_isShaped_121 : decode cX13_isShaped 121 = .ok (.iconst 0, 1) := by decide +kernel
theorem dX13_isShaped_122 : decode cX13_isShaped 122 = .ok (.ireturn, 1) := by decide +kernel
theorem dX13_isShaped_123 : decode cX13_isShaped 123 = .ok (.iload 4, 2) := by decide +kernel
theorem dX13_isShaped_125 : decode cX13_isShaped 125 = .ok (.iconst 4, 1) := by decide +kernel
theorem dX13_isShaped_126 : decode cX13_isShaped 126 = .ok (.if_icmp .ne 7, 3) := by decide +kernel
theorem dX13_isShaped_129 : decode cX13_isShaped 129 = .ok (.iconst 1, 1) := by decide +kernel
theorem dX13_isShaped_130 : decode cX13_isShaped 130 = .ok (.goto 4, 3) := by decide +kernel
theorem dX13_isShaped_133 : decode cX13_isShaped 133 = .ok (.iconst 0, 1) := by decide +kernel
theorem dX13_isShaped_134 : decode cX13_isShaped 134 = .ok (.ireturn, 1) := by decide +kernel
theorem dX13_isShaped_135 : decode cX13_isShaped 135 = .ok (.iload 4, 2) := by decide +kernel
theorem dX13_isShaped_137 : decode cX13_isShaped 137 = .ok (.iconst 2, 1) := by decide +kernel
theorem dX13_isShaped_138 : decode cX13_isShaped 138 = .ok (.if_icmp .le 20, 3) := by decide +kernel
theorem dX13_isShaped_141 : decode cX13_isShaped 141 = .ok (.aload_n 0, 1) := by decide +kernel
theorem dX13_isShaped_142 : decode cX13_isShaped 142 = .ok (.aload_n 0, 1) := by decide +kernel
theorem dX13_isShaped_143 : decode cX13_isShaped 143 = .ok (.iload_n 1, 1) := by decide +kernel
theorem dX13_isShaped_144 : decode cX13_isShaped 144 = .ok (.iconst 1, 1) := by decide +kernel
theorem dX13_isShaped_145 : decode cX13_isShaped 145 = .ok (.invokevirtual 298, 3) := by decide +kernel
theorem dX13_isShaped_148 : decode cX13_isShaped 148 = .ok (.invokevirtual 304, 3) := by decide +kernel
theorem dX13_isShaped_151 : decode cX13_isShaped 151 = .ok (.ifCond .eq 7, 3) := by decide +kernel
theorem dX13_isShaped_154 : decode cX13_isShaped 154 = .ok (.iconst 1, 1) := by decide +kernel
theorem dX13_isShaped_155 : decode cX13_isShaped 155 = .ok (.goto 4, 3) := by decide +kernel
theorem dX13_isShaped_158 : decode cX13_isShaped 158 = .ok (.iconst 0, 1) := by decide +kernel
theorem dX13_isShaped_159 : decode cX13_isShaped 159 = .ok (.ireturn, 1) := by decide +kernel
theorem dX13_isShaped_160 : decode cX13_isShaped 160 = .ok (.iload 4, 2) := by decide +kernel
theorem dX13_isShaped_162 : decode cX13_isShaped 162 = .ok (.iconst 3, 1) := by decide +kernel
theorem dX13_isShaped_163 : decode cX13_isShaped 163 = .ok (.if_icmp .ne 20, 3) := by decide +kernel
theorem dX13_isShaped_166 : decode cX13_isShaped 166 = .ok (.aload_n 0, 1) := by decide +kernel
theorem dX13_isShaped_167 : decode cX13_isShaped 167 = .ok (.aload_n 0, 1) := by decide +kernel
theorem dX13_isShaped_168 : decode cX13_isShaped 168 = .ok (.iload_n 1, 1) := by decide +kernel
theorem dX13_isShaped_169 : decode cX13_isShaped 169 = .ok (.iconst 1, 1) := by decide +kernel
theorem dX13_isShaped_170 : decode cX13_isShaped 170 = .ok (.invokevirtual 298, 3) := by decide +kernel
theorem dX13_isShaped_173 : decode cX13_isShaped 173 = .ok (.invokevirtual 289, 3) := by decide +kernel
theorem dX13_isShaped_176 : decode cX13_isShaped 176 = .ok (.ifCond .eq 7, 3) := by decide +kernel
theorem dX13_isShaped_179 : decode cX13_isShaped 179 = .ok (.iconst 1, 1) := by decide +kernel
theorem dX13_isShaped_180 : decode cX13_isShaped 180 = .ok (.goto 4, 3) := by decide +kernel
theorem dX13_isShaped_183 : decode cX13_isShaped 183 = .ok (.iconst 0, 1) := by decide +kernel
theorem dX13_isShaped_184 : decode cX13_isShaped 184 = .ok (.ireturn, 1) := by decide +kernel
theorem dX13_isShaped_185 : decode cX13_isShaped 185 = .ok (.iload_n 3, 1) := by decide +kernel
theorem dX13_isShaped_186 : decode cX13_isShaped 186 = .ok (.ifCond .eq 26, 3) := by decide +kernel
theorem dX13_isShaped_189 : decode cX13_isShaped 189 = .ok (.iload 4, 2) := by decide +kernel
theorem dX13_isShaped_191 : decode cX13_isShaped 191 = .ok (.iconst 3, 1) := by decide +kernel
theorem dX13_isShaped_192 : decode cX13_isShaped 192 = .ok (.if_icmp .ne 20, 3) := by decide +kernel
theorem dX13_isShaped_195 : decode cX13_isShaped 195 = .ok (.aload_n 0, 1) := by decide +kernel
theorem dX13_isShaped_196 : decode cX13_isShaped 196 = .ok (.aload_n 0, 1) := by decide +kernel
theorem dX13_isShaped_197 : decode cX13_isShaped 197 = .ok (.iload_n 1, 1) := by decide +kernel
theorem dX13_isShaped_198 : decode cX13_isShaped 198 = .ok (.iconst 1, 1) := by decide +kernel
theorem dX13_isShaped_199 : decode cX13_isShaped 199 = .ok (.invokevirtual 298, 3) := by decide +kernel
theorem dX13_isShaped_202 : decode cX13_isShaped 202 = .ok (.invokevirtual 289, 3) := by decide +kernel
theorem dX13_isShaped_205 : decode cX13_isShaped 205 = .ok (.ifCond .eq 7, 3) := by decide +kernel
theorem dX13_isShaped_208 : decode cX13_isShaped 208 = .ok (.iconst 1, 1) := by decide +kernel
theorem dX13_isShaped_209 : decode cX13_isShaped 209 = .ok (.goto 4, 3) := by decide +kernel
theorem dX13_isShaped_212 : decode cX13_isShaped 212 = .ok (.iconst 0, 1) := by decide +kernel
theorem dX13_isShaped_213 : decode cX13_isShaped 213 = .ok (.ireturn, 1) := by decide +kernel
theorem dX13_isShaped_214 : decode cX13_isShaped 214 = .ok (.iload 4, 2) := by decide +kernel
theorem dX13_isShaped_216 : decode cX13_isShaped 216 = .ok (.iconst 1, 1) := by decide +kernel
theorem dX13_isShaped_217 : decode cX13_isShaped 217 = .ok (.if_icmp .le 7, 3) := by decide +kernel
theorem dX13_isShaped_220 : decode cX13_isShaped 220 = .ok (.iconst 1, 1) := by decide +kernel
theorem dX13_isShaped_221 : decode cX13_isShaped 221 = .ok (.goto 4, 3) := by decide +kernel
theorem dX13_isShaped_224 : decode cX13_isShaped 224 = .ok (.iconst 0, 1) := by decide +kernel
theorem dX13_isShaped_225 : decode cX13_isShaped 225 = .ok (.ireturn, 1) := by decide +kernel
theorem dX13_defines_0 : decode cX13_defines 0 = .ok (.aload_n 0, 1) := by decide +kernel
theorem dX13_defines_1 : decode cX13_defines 1 = .ok (.getfield 47, 3) := by decide +kernel
theorem dX13_defines_4 : decode cX13_defines 4 = .ok (.astore_n 1, 1) := by decide +kernel
theorem dX13_defines_5 : decode cX13_defines 5 = .ok (.aload_n 1, 1) := by decide +kernel
theorem dX13_defines_6 : decode cX13_defines 6 = .ok (.getfield 277, 3) := by decide +kernel
theorem dX13_defines_9 : decode cX13_defines 9 = .ok (.istore_n 2, 1) := by decide +kernel
theorem dX13_defines_10 : decode cX13_defines 10 = .ok (.iload_n 2, 1) := by decide +kernel
theorem dX13_defines_11 : decode cX13_defines 11 = .ok (.iconst (-1), 1) := by decide +kernel
theorem dX13_defines_12 : decode cX13_defines 12 = .ok (.if_icmp .eq 135, 3) := by decide +kernel
theorem dX13_defines_15 : decode cX13_defines 15 = .ok (.aload_n 0, 1) := by decide +kernel
theorem dX13_defines_16 : decode cX13_defines 16 = .ok (.iload_n 2, 1) := by decide +kernel
theorem dX13_defines_17 : decode cX13_defines 17 = .ok (.invokevirtual 292, 3) := by decide +kernel
theorem dX13_defines_20 : decode cX13_defines 20 = .ok (.ifCond .eq 117, 3) := by decide +kernel
theorem dX13_defines_23 : decode cX13_defines 23 = .ok (.aload_n 0, 1) := by decide +kernel
theorem dX13_defines_24 : decode cX13_defines 24 = .ok (.iload_n 2, 1) := by decide +kernel
theorem dX13_defines_25 : decode cX13_defines 25 = .ok (.invokevirtual 307, 3) := by decide +kernel
theorem dX13_defines_28 : decode cX13_defines 28 = .ok (.bipush 10, 2) := by decide +kernel
theorem dX13_defines_30 : decode cX13_defines 30 = .ok (.if_icmp .ne 107, 3) := by decide +kernel
theorem dX13_defines_33 : decode cX13_defines 33 = .ok (.aload_n 0, 1) := by decide +kernel
theorem dX13_defines_34 : decode cX13_defines 34 = .ok (.iload_n 2, 1) := by decide +kernel
theorem dX13_defines_35 : decode cX13_defines 35 = .ok (.bipush 10, 2) := by decide +kernel
theorem dX13_defines_37 : decode cX13_defines 37 = .ok (.iconst 1, 1) := by decide +kernel
theorem dX13_defines_38 : decode cX13_defines 38 = .ok (.invokevirtual 310, 3) := by decide +kernel
theorem dX13_defines_41 : decode cX13_defines 41 = .ok (.ifCond .ne 6, 3) := by decide +kernel
theorem dX13_defines_44 : decode cX13_defines 44 = .ok (.goto 93, 3) := by decide +kernel
theorem dX13_defines_47 : decode cX13_defines 47 = .ok (.aload_n 1, 1) := by decide +kernel
theorem dX13_defines_48 : decode cX13_defines 48 = .ok (.getfield 238, 3) := by decide +kernel
theorem dX13_defines_51 : decode cX13_defines 51 = .ok (.aload_n 0, 1) := by decide +kernel
theorem dX13_defines_52 : decode cX13_defines 52 = .ok (.iload_n 2, 1) := by decide +kernel
theorem dX13_defines_53 : decode cX13_defines 53 = .ok (.iconst 1, 1) := by decide +kernel
theorem dX13_defines_54 : decode cX13_defines 54 = .ok (.invokevirtual 298, 3) := by decide +kernel
theorem dX13_defines_57 : decode cX13_defines 57 = .ok (.iaload, 1) := by decide +kernel
theorem dX13_defines_58 : decode cX13_defines 58 = .ok (.istore_n 3, 1) := by decide +kernel
theorem dX13_defines_59 : decode cX13_defines 59 = .ok (.aload_n 1, 1) := by decide +kernel
theorem dX13_defines_60 : decode cX13_defines 60 = .ok (.getfield 209, 3) := by decide +kernel
theorem dX13_defines_63 : decode cX13_defines 63 = .ok (.iload_n 3, 1) := by decide +kernel
theorem dX13_defines_64 : decode cX13_defines 64 = .ok (.iaload, 1) := by decide +kernel
theorem dX13_defines_65 : decode cX13_defines 65 = .ok (.ifCond .ne 72, 3) := by decide +kernel
theorem dX13_defines_68 : decode cX13_defines 68 = .ok (.aload_n 1, 1) := by decide +kernel
theorem dX13_defines_69 : decode cX13_defines 69 = .ok (.getfield 220, 3) := by decide +kernel
theorem dX13_defines_72 : decode cX13_defines 72 = .ok (.iload_n 3, 1) := by decide +kernel
theorem dX13_defines_73 : decode cX13_defines 73 = .ok (.iaload, 1) := by decide +kernel
theorem dX13_defines_74 : decode cX13_defines 74 = .ok (.iconst (-1), 1) := by decide +kernel
theorem dX13_defines_75 : decode cX13_defines 75 = .ok (.if_icmp .eq 6, 3) := by decide +kernel
theorem dX13_defines_78 : decode cX13_defines 78 = .ok (.goto 59, 3) := by decide +kernel
theorem dX13_defines_81 : decode cX13_defines 81 = .ok (.aload_n 1, 1) := by decide +kernel
theorem dX13_defines_82 : decode cX13_defines 82 = .ok (.getfield 314, 3) := by decide +kernel
theorem dX13_defines_85 : decode cX13_defines 85 = .ok (.bipush 100, 2) := by decide +kernel
theorem dX13_defines_87 : decode cX13_defines 87 = .ok (.if_icmp .lt 20, 3) := by decide +kernel
theorem dX13_defines_90 : decode cX13_defines 90 = .ok (.aload_n 0, 1) := by decide +kernel
theorem dX13_defines_91 : decode cX13_defines 91 = .ok (.bipush 6, 2) := by decide +kernel
theorem dX13_defines_93 : decode cX13_defines 93 = .ok (.aload_n 1, 1) := by decide +kernel
theorem dX13_defines_94 : decode cX13_defines 94 = .ok (.getfield 241, 3) := by decide +kernel
theorem dX13_defines_97 : decode cX13_defines 97 = .ok (.aload_n 0, 1) := by decide +kernel
theorem dX13_defines_98 : decode cX13_defines 98 = .ok (.iload_n 2, 1) := by decide +kernel
theorem dX13_defines_99 : decode cX13_defines 99 = .ok (.iconst 1, 1) := by decide +kernel
theorem dX13_defines_100 : decode cX13_defines 100 = .ok (.invokevirtual 298, 3) := by decide +kernel
theorem dX13_defines_103 : decode cX13_defines 103 = .ok (.iaload, 1) := by decide +kernel
theorem dX13_defines_104 : decode cX13_defines 104 = .ok (.invokevirtual 317, 3) := by decide +kernel
theorem dX13_defines_107 : decode cX13_defines 107 = .ok (.aload_n 1, 1) := by decide +kernel
theorem dX13_defines_108 : decode cX13_defines 108 = .ok (.getfield 220, 3) := by decide +kernel
theorem dX13_defines_111 : decode cX13_defines 111 = .ok (.iload_n 3, 1) := by decide +kernel
theorem dX13_defines_112 : decode cX13_defines 112 = .ok (.aload_n 1, 1) := by decide +kernel
theorem dX13_defines_113 : decode cX13_defines 113 = .ok (.getfield 314, 3) := by decide +kernel
theorem dX13_defines_116 : decode cX13_defines 116 = .ok (.iastore, 1) := by decide +kernel
theorem dX13_defines_117 : decode cX13_defines 117 = .ok (.aload_n 1, 1) := by decide +kernel
theorem dX13_defines_118 : decode cX13_defines 118 = .ok (.getfield 320, 3) := by decide +kernel
theorem dX13_defines_121 : decode cX13_defines 121 = .ok (.aload_n 1, 1) := by decide +kernel
theorem dX13_defines_122 : decode cX13_defines 122 = .ok (.getfield 314, 3) := by decide +kernel
theorem dX13_defines_125 : decode cX13_defines 125 = .ok (.iload_n 3, 1) := by decide +kernel
theorem dX13_defines_126 : decode cX13_defines 126 = .ok (.iastore, 1) := by decide +kernel
theorem dX13_defines_127 : decode cX13_defines 127 = .ok (.aload_n 1, 1) := by decide +kernel
theorem dX13_defines_128 : decode cX13_defines 128 = .ok (.dup, 1) := by decide +kernel
theorem dX13_defines_129 : decode cX13_defines 129 = .ok (.getfield 314, 3) := by decide +kernel
theorem dX13_defines_132 : decode cX13_defines 132 = .ok (.iconst 1, 1) := by decide +kernel
theorem dX13_defines_133 : decode cX13_defines 133 = .ok (.iadd, 1) := by decide +kernel
theorem dX13_defines_134 : decode cX13_defines 134 = .ok (.putfield 314, 3) := by decide +kernel
theorem dX13_defines_137 : decode cX13_defines 137 = .ok (.aload_n 1, 1) := by decide +kernel
theorem dX13_defines_138 : decode cX13_defines 138 = .ok (.getfield 246, 3) := by decide +kernel
theorem dX13_defines_141 : decode cX13_defines 141 = .ok (.iload_n 2, 1) := by decide +kernel
theorem dX13_defines_142 : decode cX13_defines 142 = .ok (.iaload, 1) := by decide +kernel
theorem dX13_defines_143 : decode cX13_defines 143 = .ok (.istore_n 2, 1) := by decide +kernel
theorem dX13_defines_144 : decode cX13_defines 144 = .ok (.goto (-134), 3) := by decide +kernel
theorem dX13_defines_147 : decode cX13_defines 147 = .ok (.return_, 1) := by decide +kernel
theorem dX13_analyses_0 : decode cX13_analyses 0 = .ok (.aload_n 0, 1) := by decide +kernel
theorem dX13_analyses_1 : decode cX13_analyses 1 = .ok (.getfield 47, 3) := by decide +kernel
theorem dX13_analyses_4 : decode cX13_analyses 4 = .ok (.astore_n 1, 1) := by decide +kernel
theorem dX13_analyses_5 : decode cX13_analyses 5 = .ok (.aload_n 0, 1) := by decide +kernel
theorem dX13_analyses_6 : decode cX13_analyses 6 = .ok (.iconst 0, 1) := by decide +kernel
theorem dX13_analyses_7 : decode cX13_analyses 7 = .ok (.putfield 323, 3) := by decide +kernel
theorem dX13_analyses_10 : decode cX13_analyses 10 = .ok (.aload_n 0, 1) := by decide +kernel
theorem dX13_analyses_11 : decode cX13_analyses 11 = .ok (.iconst 0, 1) := by decide +kernel
theorem dX13_analyses_12 : decode cX13_analyses 12 = .ok (.putfield 326, 3) := by decide +kernel
theorem dX13_analyses_15 : decode cX13_analyses 15 = .ok (.aload_n 0, 1) := by decide +kernel
theorem dX13_analyses_16 : decode cX13_analyses 16 = .ok (.iconst 0, 1) := by decide +kernel
theorem dX13_analyses_17 : decode cX13_analyses 17 = .ok (.putfield 329, 3) := by decide +kernel
theorem dX13_analyses_20 : decode cX13_analyses 20 = .ok (.aload_n 0, 1) := by decide +kernel
theorem dX13_analyses_21 : decode cX13_analyses 21 = .ok (.getfield 59, 3) := by decide +kernel
theorem dX13_analyses_24 : decode cX13_analyses 24 = .ok (.iconst 0, 1) := by decide +kernel
theorem dX13_analyses_25 : decode cX13_analyses 25 = .ok (.iconst 0, 1) := by decide +kernel
theorem dX13_analyses_26 : decode cX13_analyses 26 = .ok (.iastore, 1) := by decide +kernel
theorem dX13_analyses_27 : decode cX13_analyses 27 = .ok (.aload_n 0, 1) := by decide +kernel
theorem dX13_analyses_28 : decode cX13_analyses 28 = .ok (.getfield 62, 3) := by decide +kernel
theorem dX13_analyses_31 : decode cX13_analyses 31 = .ok (.iconst 0, 1) := by decide +kernel
theorem dX13_analyses_32 : decode cX13_analyses 32 = .ok (.iconst 0, 1) := by decide +kernel
theorem dX13_analyses_33 : decode cX13_analyses 33 = .ok (.iastore, 1) := by decide +kernel
theorem dX13_analyses_34 : decode cX13_analyses 34 = .ok (.aload_n 1, 1) := by decide +kernel
theorem dX13_analyses_35 : decode cX13_analyses 35 = .ok (.getfield 332, 3) := by decide +kernel
theorem dX13_analyses_38 : decode cX13_analyses 38 = .ok (.iconst 0, 1) := by decide +kernel
theorem dX13_analyses_39 : decode cX13_analyses 39 = .ok (.iconst 0, 1) := by decide +kernel
theorem dX13_analyses_40 : decode cX13_analyses 40 = .ok (.iastore, 1) := by decide +kernel
theorem dX13_analyses_41 : decode cX13_analyses 41 = .ok (.aload_n 1, 1) := by decide +kernel
theorem dX13_analyses_42 : decode cX13_analyses 42 = .ok (.getfield 335, 3) := by decide +kernel
theorem dX13_analyses_45 : decode cX13_analyses 45 = .ok (.iconst 0, 1) := by decide +kernel
theorem dX13_analyses_46 : decode cX13_analyses 46 = .ok (.iconst 0, 1) := by decide +kernel
theorem dX13_analyses_47 : decode cX13_analyses 47 = .ok (.iastore, 1) := by decide +kernel
theorem dX13_analyses_48 : decode cX13_analyses 48 = .ok (.aload_n 0, 1) := by decide +kernel
theorem dX13_analyses_49 : decode cX13_analyses 49 = .ok (.invokevirtual 338, 3) := by decide +kernel
theorem dX13_analyses_52 : decode cX13_analyses 52 = .ok (.aload_n 1, 1) := by decide +kernel
theorem dX13_analyses_53 : decode cX13_analyses 53 = .ok (.getfield 277, 3) := by decide +kernel
theorem dX13_analyses_56 : decode cX13_analyses 56 = .ok (.istore_n 2, 1) := by decide +kernel
theorem dX13_analyses_57 : decode cX13_analyses 57 = .ok (.iload_n 2, 1) := by decide +kernel
theorem dX13_analyses_58 : decode cX13_analyses 58 = .ok (.iconst (-1), 1) := by decide +kernel
theorem dX13_analyses_59 : decode cX13_analyses 59 = .ok (.if_icmp .eq 19, 3) := by decide +kernel
theorem dX13_analyses_62 : decode cX13_analyses 62 = .ok (.aload_n 0, 1) := by decide +kernel
theorem dX13_analyses_63 : decode cX13_analyses 63 = .ok (.iload_n 2, 1) := by decide +kernel
theorem dX13_analyses_64 : decode cX13_analyses 64 = .ok (.iconst 1, 1) := by decide +kernel
theorem dX13_analyses_65 : decode cX13_analyses 65 = .ok (.invokevirtual 340, 3) := by decide +kernel
theorem dX13_analyses_68 : decode cX13_analyses 68 = .ok (.aload_n 1, 1) := by decide +kernel
theorem dX13_analyses_69 : decode cX13_analyses 69 = .ok (.getfield 246, 3) := by decide +kernel
theorem dX13_analyses_72 : decode cX13_analyses 72 = .ok (.iload_n 2, 1) := by decide +kernel
theorem dX13_analyses_73 : decode cX13_analyses 73 = .ok (.iaload, 1) := by decide +kernel
theorem dX13_analyses_74 : decode cX13_analyses 74 = .ok (.istore_n 2, 1) := by decide +kernel
theorem dX13_analyses_75 : decode cX13_analyses 75 = .ok (.goto (-18), 3) := by decide +kernel
theorem dX13_analyses_78 : decode cX13_analyses 78 = .ok (.aload_n 1, 1) := by decide +kernel
theorem dX13_analyses_79 : decode cX13_analyses 79 = .ok (.aload_n 1, 1) := by decide +kernel
theorem dX13_analyses_80 : decode cX13_analyses 80 = .ok (.getfield 335, 3) := by decide +kernel
theorem dX13_analyses_83 : decode cX13_analyses 83 = .ok (.iconst 0, 1) := by decide +kernel
theorem dX13_analyses_84 : decode cX13_analyses 84 = .ok (.iaload, 1) := by decide +kernel
theorem dX13_analyses_85 : decode cX13_analyses 85 = .ok (.putfield 344, 3) := by decide +kernel
theorem dX13_analyses_88 : decode cX13_analyses 88 = .ok (.return_, 1) := by decide +kernel
theorem dX13_form_0 : decode cX13_form 0 = .ok (.aload_n 0, 1) := by decide +kernel
theorem dX13_form_1 : decode cX13_form 1 = .ok (.getfield 47, 3) := by decide +kernel
theorem dX13_form_4 : decode cX13_form 4 = .ok (.astore_n 3, 1) := by decide +kernel
theorem dX13_form_5 : decode cX13_form 5 = .ok (.aload_n 0, 1) := by decide +kernel
theorem dX13_form_6 : decode cX13_form 6 = .ok (.dup, 1) := by decide +kernel
theorem dX13_form_7 : decode cX13_form 7 = .ok (.getfield 326, 3) := by decide +kernel
theorem dX13_form_10 : decode cX13_form 10 = .ok (.iconst 1, 1) := by decide +kernel
theorem dX13_form_11 : decode cX13_form 11 = .ok (.iadd, 1) := by decide +kernel
theorem dX13_form_12 : decode cX13_form 12 = .ok (.putfield 326, 3) := by decide +kernel
theorem dX13_form_15 : decode cX13_form 15 = .ok (.aload_n 0, 1) := by decide +kernel
theorem dX13_form_16 : decode cX13_form 16 = .ok (.getfield 326, 3) := by decide +kernel
theorem dX13_form_19 : decode cX13_form 19 = .ok (.sipush 1500, 3) := by decide +kernel
theorem dX13_form_22 : decode cX13_form 22 = .ok (.if_icmp .le 15, 3) := by decide +kernel
theorem dX13_form_25 : decode cX13_form 25 = .ok (.aload_n 0, 1) := by decide +kernel
theorem dX13_form_26 : decode cX13_form 26 = .ok (.bipush 6, 2) := by decide +kernel
theorem dX13_form_28 : decode cX13_form 28 = .ok (.aload_n 3, 1) := by decide +kernel
theorem dX13_form_29 : decode cX13_form 29 = .ok (.getfield 241, 3) := by decide +kernel
theorem dX13_form_32 : decode cX13_form 32 = .ok (.iload_n 1, 1) := by decide +kernel
theorem dX13_form_33 : decode cX13_form 33 = .ok (.iaload, 1) := by decide +kernel
theorem dX13_form_34 : decode cX13_form 34 = .ok (.invokevirtual 317, 3) := by decide +kernel
theorem dX13_form_37 : decode cX13_form 37 = .ok (.aload_n 0, 1) := by decide +kernel
theorem dX13_form_38 : decode cX13_form 38 = .ok (.iload_n 1, 1) := by decide +kernel
theorem dX13_form_39 : decode cX13_form 39 = .ok (.invokevirtual 289, 3) := by decide +kernel
theorem dX13_form_42 : decode cX13_form 42 = .ok (.ifCond .eq 8, 3) := by decide +kernel
theorem dX13_form_45 : decode cX13_form 45 = .ok (.aload_n 0, 1) := by decide +kernel
theorem dX13_form_46 : decode cX13_form 46 = .ok (.iload_n 1, 1) := by decide +kernel
theorem dX13_form_47 : decode cX13_form 47 = .ok (.invokevirtual 347, 3) := by decide +kernel
theorem dX13_form_50 : decode cX13_form 50 = .ok (.aload_n 0, 1) := by decide +kernel
theorem dX13_form_51 : decode cX13_form 51 = .ok (.iload_n 1, 1) := by decide +kernel
theorem dX13_form_52 : decode cX13_form 52 = .ok (.invokevirtual 292, 3) := by decide +kernel
theorem dX13_form_55 : decode cX13_form 55 = .ok (.ifCond .ne 4, 3) := by decide +kernel
theorem dX13_form_58 : decode cX13_form 58 = .ok (.return_, 1) := by decide +kernel
theorem dX13_form_59 : decode cX13_form 59 = .ok (.aload_n 0, 1) := by decide +kernel
theorem dX13_form_60 : decode cX13_form 60 = .ok (.iload_n 1, 1) := by decide +kernel
theorem dX13_form_61 : decode cX13_form 61 = .ok (.invokevirtual 307, 3) := by decide +kernel
theorem dX13_form_64 : decode cX13_form 64 = .ok (.istore 4, 2) := by decide +kernel
theorem dX13_form_66 : decode cX13_form 66 = .ok (.aload_n 0, 1) := by decide +kernel
theorem dX13_form_67 : decode cX13_form 67 = .ok (.iload_n 1, 1) := by decide +kernel
theorem dX13_form_68 : decode cX13_form 68 = .ok (.iload 4, 2) := by decide +kernel
theorem dX13_form_70 : decode cX13_form 70 = .ok (.iload_n 2, 1) := by decide +kernel
theorem dX13_form_71 : decode cX13_form 71 = .ok (.invokevirtual 310, 3) := by decide +kernel
theorem dX13_form_74 : decode cX13_form 74 = .ok (.ifCond .ne 15, 3) := by decide +kernel
theorem dX13_form_77 : decode cX13_form 77 = .ok (.aload_n 0, 1) := by decide +kernel
theorem dX13_form_78 : decode cX13_form 78 = .ok (.iconst 3, 1) := by decide +kernel
theorem dX13_form_79 : decode cX13_form 79 = .ok (.aload_n 3, 1) := by decide +kernel
theorem dX13_form_80 : decode cX13_form 80 = .ok (.getfield 241, 3) := by decide +kernel
theorem dX13_form_83 : decode cX13_form 83 = .ok (.iload_n 1, 1) := by decide +kernel
theorem dX13_form_84 : decode cX13_form 84 = .ok (.iaload, 1) := by decide +kernel
theorem dX13_form_85 : decode cX13_form 85 = .ok (.invokevirtual 317, 3) := by decide +kernel
theorem dX13_form_88 : decode cX13_form 88 = .ok (.return_, 1) := by decide +kernel
theorem dX13_form_89 : decode cX13_form 89 = .ok (.iload 4, 2) := by decide +kernel
theorem dX13_form_91 : decode cX13_form 91 = .ok (.tableswitch 249 0 10 #[236, 57, 60, 249, 68, 77, 86, 249, 249, 249, 148], 57) := by decide +kernel
theorem dX13_form_148 : decode cX13_form 148 = .ok (.goto 202, 3) := by decide +kernel
theorem dX13_form_151 : decode cX13_form 151 = .ok (.aload_n 0, 1) := by decide +kernel
theorem dX13_form_152 : decode cX13_form 152 = .ok (.iload_n 1, 1) := by decide +kernel
theorem dX13_form_153 : decode cX13_form 153 = .ok (.invokevirtual 350, 3) := by decide +kernel
theorem dX13_form_156 : decode cX13_form 156 = .ok (.goto 194, 3) := by decide +kernel
theorem dX13_form_159 : decode cX13_form 159 = .ok (.aload_n 0, 1) := by decide +kernel
theorem dX13_form_160 : decode cX13_form 160 = .ok (.iload_n 1, 1) := by decide +kernel
theorem dX13_form_161 : decode cX13_form 161 = .ok (.iconst 0, 1) := by decide +kernel
theorem dX13_form_162 : decode cX13_form 162 = .ok (.invokevirtual 353, 3) := by decide +kernel
theorem dX13_form_165 : decode cX13_form 165 = .ok (.goto 185, 3) := by decide +kernel
theorem dX13_form_168 : decode cX13_form 168 = .ok (.aload_n 0, 1) := by decide +kernel
theorem dX13_form_169 : decode cX13_form 169 = .ok (.iload_n 1, 1) := by decide +kernel
theorem dX13_form_170 : decode cX13_form 170 = .ok (.iconst 1, 1) := by decide +kernel
theorem dX13_form_171 : decode cX13_form 171 = .ok (.invokevirtual 353, 3) := by decide +kernel
theorem dX13_form_174 : decode cX13_form 174 = .ok (.goto 176, 3) := by decide +kernel
theorem dX13_form_177 : decode cX13_form 177 = .ok (.aload_n 3, 1) := by decide +kernel
theorem dX13_form_178 : decode cX13_form 178 = .ok (.getfield 209, 3) := by decide +kernel
theorem dX13_form_181 : decode cX13_form 181 = .ok (.aload_n 3, 1) := by decide +kernel
theorem dX13_form_182 : decode cX13_form 182 = .ok (.getfield 238, 3) := by decide +kernel
theorem dX13_form_185 : decode cX13_form 185 = .ok (.aload_n 0, 1) := by decide +kernel
theorem dX13_form_186 : decode cX13_form 186 = .ok (.iload_n 1, 1) := by decide +kernel
theorem dX13_form_187 : decode cX13_form 187 = .ok (.iconst 1, 1) := by decide +kernel
theorem dX13_form_188 : decode cX13_form 188 = .ok (.invokevirtual 298, 3) := by decide +kernel
theorem dX13_form_191 : decode cX13_form 191 = .ok (.iaload, 1) := by decide +kernel
theorem dX13_form_192 : decode cX13_form 192 = .ok (.iaload, 1) := by decide +kernel
theorem dX13_form_193 : decode cX13_form 193 = .ok (.ifCond .eq 22, 3) := by decide +kernel
theorem dX13_form_196 : decode cX13_form 196 = .ok (.aload_n 0, 1) := by decide +kernel
theorem dX13_form_197 : decode cX13_form 197 = .ok (.iconst 5, 1) := by decide +kernel
theorem dX13_form_198 : decode cX13_form 198 = .ok (.aload_n 3, 1) := by decide +kernel
theorem dX13_form_199 : decode cX13_form 199 = .ok (.getfield 241, 3) := by decide +kernel
theorem dX13_form_202 : decode cX13_form 202 = .ok (.aload_n 0, 1) := by decide +kernel
theorem dX13_form_203 : decode cX13_form 203 = .ok (.iload_n 1, 1) := by decide +kernel
theorem dX13_form_204 : decode cX13_form 204 = .ok (.iconst 1, 1) := by decide +kernel
theorem dX13_form_205 : decode cX13_form 205 = .ok (.invokevirtual 298, 3) := by decide +kernel
theorem dX13_form_208 : decode cX13_form 208 = .ok (.iaload, 1) := by decide +kernel
theorem dX13_form_209 : decode cX13_form 209 = .ok (.invokevirtual 317, 3) := by decide +kernel
theorem dX13_form_212 : decode cX13_form 212 = .ok (.goto 13, 3) := by decide +kernel
theorem dX13_form_215 : decode cX13_form 215 = .ok (.aload_n 0, 1) := by decide +kernel
theorem dX13_form_216 : decode cX13_form 216 = .ok (.aload_n 0, 1) := by decide +kernel
theorem dX13_form_217 : decode cX13_form 217 = .ok (.iload_n 1, 1) := by decide +kernel
theorem dX13_form_218 : decode cX13_form 218 = .ok (.iconst 1, 1) := by decide +kernel
theorem dX13_form_219 : decode cX13_form 219 = .ok (.invokevirtual 298, 3) := by decide +kernel
theorem dX13_form_222 : decode cX13_form 222 = .ok (.invokevirtual 347, 3) := by decide +kernel
theorem dX13_form_225 : decode cX13_form 225 = .ok (.aload_n 0, 1) := by decide +kernel
theorem dX13_form_226 : decode cX13_form 226 = .ok (.aload_n 0, 1) := by decide +kernel
theorem dX13_form_227 : decode cX13_form 227 = .ok (.iload_n 1, 1) := by decide +kernel
theorem dX13_form_228 : decode cX13_form 228 = .ok (.iconst 2, 1) := by decide +kernel
theorem dX13_form_229 : decode cX13_form 229 = .ok (.invokevirtual 298, 3) := by decide +kernel
theorem dX13_form_232 : decode cX13_form 232 = .ok (.iconst 0, 1) := by decide +kernel
theorem dX13_form_233 : decode cX13_form 233 = .ok (.invokevirtual 340, 3) := by decide +kernel
theorem dX13_form_236 : decode cX13_form 236 = .ok (.goto 114, 3) := by decide +kernel
theorem dX13_form_239 : decode cX13_form 239 = .ok (.aload_n 3, 1) := by decide +kernel
theorem dX13_form_240 : decode cX13_form 240 = .ok (.getfield 209, 3) := by decide +kernel
theorem dX13_form_243 : decode cX13_form 243 = .ok (.aload_n 3, 1) := by decide +kernel
theorem dX13_form_244 : decode cX13_form 244 = .ok (.getfield 238, 3) := by decide +kernel
theorem dX13_form_247 : decode cX13_form 247 = .ok (.aload_n 0, 1) := by decide +kernel
theorem dX13_form_248 : decode cX13_form 248 = .ok (.iload_n 1, 1) := by decide +kernel
theorem dX13_form_249 : decode cX13_form 249 = .ok (.iconst 1, 1) := by decide +kernel
theorem dX13_form_250 : decode cX13_form 250 = .ok (.invokevirtual 298, 3) := by decide +kernel
theorem dX13_form_253 : decode cX13_form 253 = .ok (.iaload, 1) := by decide +kernel
theorem dX13_form_254 : decode cX13_form 254 = .ok (.iaload, 1) := by decide +kernel
theorem dX13_form_255 : decode cX13_form 255 = .ok (.ifCond .eq 19, 3) := by decide +kernel
theorem dX13_form_258 : decode cX13_form 258 = .ok (.aload_n 0, 1) := by decide +kernel
theorem dX13_form_259 : decode cX13_form 259 = .ok (.iconst 5, 1) := by decide +kernel
theorem dX13_form_260 : decode cX13_form 260 = .ok (.aload_n 3, 1) := by decide +kernel
theorem dX13_form_261 : decode cX13_form 261 = .ok (.getfield 241, 3) := by decide +kernel
theorem dX13_form_264 : decode cX13_form 264 = .ok (.aload_n 0, 1) := by decide +kernel
theorem dX13_form_265 : decode cX13_form 265 = .ok (.iload_n 1, 1) := by decide +kernel
theorem dX13_form_266 : decode cX13_form 266 = .ok (.iconst 1, 1) := by decide +kernel
theorem dX13_form_267 : decode cX13_form 267 = .ok (.invokevirtual 298, 3) := by decide +kernel
theorem dX13_form_270 : decode cX13_form 270 = .ok (.iaload, 1) := by decide +kernel
theorem dX13_form_271 : decode cX13_form 271 = .ok (.invokevirtual 317, 3) := by decide +kernel
theorem dX13_form_274 : decode cX13_form 274 = .ok (.aload_n 3, 1) := by decide +kernel
theorem dX13_form_275 : decode cX13_form 275 = .ok (.getfield 249, 3) := by decide +kernel
theorem dX13_form_278 : decode cX13_form 278 = .ok (.aload_n 0, 1) := by decide +kernel
theorem dX13_form_279 : decode cX13_form 279 = .ok (.iload_n 1, 1) := by decide +kernel
theorem dX13_form_280 : decode cX13_form 280 = .ok (.iconst 1, 1) := by decide +kernel
theorem dX13_form_281 : decode cX13_form 281 = .ok (.invokevirtual 298, 3) := by decide +kernel
theorem dX13_form_284 : decode cX13_form 284 = .ok (.iconst 3, 1) := by decide +kernel
theorem dX13_form_285 : decode cX13_form 285 = .ok (.iastore, 1) := by decide +kernel
theorem dX13_form_286 : decode cX13_form 286 = .ok (.aload_n 3, 1) := by decide +kernel
theorem dX13_form_287 : decode cX13_form 287 = .ok (.getfield 252, 3) := by decide +kernel
theorem dX13_form_290 : decode cX13_form 290 = .ok (.aload_n 0, 1) := by decide +kernel
theorem dX13_form_291 : decode cX13_form 291 = .ok (.iload_n 1, 1) := by decide +kernel
theorem dX13_form_292 : decode cX13_form 292 = .ok (.iconst 1, 1) := by decide +kernel
theorem dX13_form_293 : decode cX13_form 293 = .ok (.invokevirtual 298, 3) := by decide +kernel
theorem dX13_form_296 : decode cX13_form 296 = .ok (.aload_n 3, 1) := by decide +kernel
theorem dX13_form_297 : decode cX13_form 297 = .ok (.getfield 220, 3) := by decide +kernel
theorem dX13_form_300 : decode cX13_form 300 = .ok (.aload_n 3, 1) := by decide +kernel
theorem dX13_form_301 : decode cX13_form 301 = .ok (.getfield 238, 3) := by decide +kernel
theorem dX13_form_304 : decode cX13_form 304 = .ok (.aload_n 0, 1) := by decide +kernel
theorem dX13_form_305 : decode cX13_form 305 = .ok (.iload_n 1, 1) := by decide +kernel
theorem dX13_form_306 : decode cX13_form 306 = .ok (.iconst 1, 1) := by decide +kernel
theorem dX13_form_307 : decode cX13_form 307 = .ok (.invokevirtual 298, 3) := by decide +kernel
theorem dX13_form_310 : decode cX13_form 310 = .ok (.iaload, 1) := by decide +kernel
theorem dX13_form_311 : decode cX13_form 311 = .ok (.iaload, 1) := by decide +kernel
theorem dX13_form_312 : decode cX13_form 312 = .ok (.iastore, 1) := by decide +kernel
theorem dX13_form_313 : decode cX13_form 313 = .ok (.aload_n 0, 1) := by decide +kernel
theorem dX13_form_314 : decode cX13_form 314 = .ok (.aload_n 0, 1) := by decide +kernel
theorem dX13_form_315 : decode cX13_form 315 = .ok (.iload_n 1, 1) := by decide +kernel
theorem dX13_form_316 : decode cX13_form 316 = .ok (.iconst 2, 1) := by decide +kernel
theorem dX13_form_317 : decode cX13_form 317 = .ok (.invokevirtual 298, 3) := by decide +kernel
theorem dX13_form_320 : decode cX13_form 320 = .ok (.iconst 0, 1) := by decide +kernel
theorem dX13_form_321 : decode cX13_form 321 = .ok (.invokevirtual 340, 3) := by decide +kernel
theorem dX13_form_324 : decode cX13_form 324 = .ok (.goto 26, 3) := by decide +kernel
theorem dX13_form_327 : decode cX13_form 327 = .ok (.aload_n 0, 1) := by decide +kernel
theorem dX13_form_328 : decode cX13_form 328 = .ok (.aload_n 3, 1) := by decide +kernel
theorem dX13_form_329 : decode cX13_form 329 = .ok (.getfield 243, 3) := by decide +kernel
theorem dX13_form_332 : decode cX13_form 332 = .ok (.iload_n 1, 1) := by decide +kernel
theorem dX13_form_333 : decode cX13_form 333 = .ok (.iaload, 1) := by decide +kernel
theorem dX13_form_334 : decode cX13_form 334 = .ok (.invokevirtual 356, 3) := by decide +kernel
theorem dX13_form_337 : decode cX13_form 337 = .ok (.goto 13, 3) := by decide +kernel
theorem dX13_form_340 : decode cX13_form 340 = .ok (.aload_n 0, 1) := by decide +kernel
theorem dX13_form_341 : decode cX13_form 341 = .ok (.aload_n 0, 1) := by decide +kernel
theorem dX13_form_342 : decode cX13_form 342 = .ok (.iload_n 1, 1) := by decide +kernel
theorem dX13_form_343 : decode cX13_form 343 = .ok (.iconst 1, 1) := by decide +kernel
theorem dX13_form_344 : decode cX13_form 344 = .ok (.invokevirtual 298, 3) := by decide +kernel
theorem dX13_form_347 : decode cX13_form 347 = .ok (.invokevirtual 356, 3) := by decide +kernel
theorem dX13_form_350 : decode cX13_form 350 = .ok (.return_, 1) := by decide +kernel
theorem dX13_body_0 : decode cX13_body 0 = .ok (.iload_n 1, 1) := by decide +kernel
theorem dX13_body_1 : decode cX13_body 1 = .ok (.istore_n 2, 1) := by decide +kernel
theorem dX13_body_2 : decode cX13_body 2 = .ok (.iload_n 2, 1) := by decide +kernel
theorem dX13_body_3 : decode cX13_body 3 = .ok (.iconst (-1), 1) := by decide +kernel
theorem dX13_body_4 : decode cX13_body 4 = .ok (.if_icmp .eq 22, 3) := by decide +kernel
theorem dX13_body_7 : decode cX13_body 7 = .ok (.aload_n 0, 1) := by decide +kernel
theorem dX13_body_8 : decode cX13_body 8 = .ok (.iload_n 2, 1) := by decide +kernel
theorem dX13_body_9 : decode cX13_body 9 = .ok (.iconst 0, 1) := by decide +kernel
theorem dX13_body_10 : decode cX13_body 10 = .ok (.invokevirtual 340, 3) := by decide +kernel
theorem dX13_body_13 : decode cX13_body 13 = .ok (.aload_n 0, 1) := by decide +kernel
theorem dX13_body_14 : decode cX13_body 14 = .ok (.getfield 47, 3) := by decide +kernel
theorem dX13_body_17 : decode cX13_body 17 = .ok (.getfield 246, 3) := by decide +kernel
theorem dX13_body_20 : decode cX13_body 20 = .ok (.iload_n 2, 1) := by decide +kernel
theorem dX13_body_21 : decode cX13_body 21 = .ok (.iaload, 1) := by decide +kernel
theorem dX13_body_22 : decode cX13_body 22 = .ok (.istore_n 2, 1) := by decide +kernel
theorem dX13_body_23 : decode cX13_body 23 = .ok (.goto (-21), 3) := by decide +kernel
theorem dX13_body_26 : decode cX13_body 26 = .ok (.return_, 1) := by decide +kernel
theorem dX13_uses_0 : decode cX13_uses 0 = .ok (.aload_n 0, 1) := by decide +kernel
theorem dX13_uses_1 : decode cX13_uses 1 = .ok (.getfield 47, 3) := by decide +kernel
theorem dX13_uses_4 : decode cX13_uses 4 = .ok (.astore_n 2, 1) := by decide +kernel
theorem dX13_uses_5 : decode cX13_uses 5 = .ok (.aload_n 2, 1) := by decide +kernel
theorem dX13_uses_6 : decode cX13_uses 6 = .ok (.getfield 238, 3) := by decide +kernel
theorem dX13_uses_9 : decode cX13_uses 9 = .ok (.iload_n 1, 1) := by decide +kernel
theorem dX13_uses_10 : decode cX13_uses 10 = .ok (.iaload, 1) := by decide +kernel
theorem dX13_uses_11 : decode cX13_uses 11 = .ok (.istore_n 3, 1) := by decide +kernel
theorem dX13_uses_12 : decode cX13_uses 12 = .ok (.aload_n 2, 1) := by decide +kernel
theorem dX13_uses_13 : decode cX13_uses 13 = .ok (.getfield 209, 3) := by decide +kernel
theorem dX13_uses_16 : decode cX13_uses 16 = .ok (.iload_n 3, 1) := by decide +kernel
theorem dX13_uses_17 : decode cX13_uses 17 = .ok (.iaload, 1) := by decide +kernel
theorem dX13_uses_18 : decode cX13_uses 18 = .ok (.istore 4, 2) := by decide +kernel
theorem dX13_uses_20 : decode cX13_uses 20 = .ok (.iload 4, 2) := by decide +kernel
theorem dX13_uses_22 : decode cX13_uses 22 = .ok (.ifCond .le 22, 3) := by decide +kernel
theorem dX13_uses_25 : decode cX13_uses 25 = .ok (.iload 4, 2) := by decide +kernel
theorem dX13_uses_27 : decode cX13_uses 27 = .ok (.bipush 10, 2) := by decide +kernel
theorem dX13_uses_29 : decode cX13_uses 29 = .ok (.if_icmp .gt 15, 3) := by decide +kernel
theorem dX13_uses_32 : decode cX13_uses 32 = .ok (.aload_n 0, 1) := by decide +kernel
theorem dX13_uses_33 : decode cX13_uses 33 = .ok (.iconst 3, 1) := by decide +kernel
theorem dX13_uses_34 : decode cX13_uses 34 = .ok (.aload_n 2, 1) := by decide +kernel
theorem dX13_uses_35 : decode cX13_uses 35 = .ok (.getfield 241, 3) := by decide +kernel
theorem dX13_uses_38 : decode cX13_uses 38 = .ok (.iload_n 1, 1) := by decide +kernel
theorem dX13_uses_39 : decode cX13_uses 39 = .ok (.iaload, 1) := by decide +kernel
theorem dX13_uses_40 : decode cX13_uses 40 = .ok (.invokevirtual 317, 3) := by decide +kernel
theorem dX13_uses_43 : decode cX13_uses 43 = .ok (.return_, 1) := by decide +kernel
theorem dX13_uses_44 : decode cX13_uses 44 = .ok (.iload 4, 2) := by decide +kernel
theorem dX13_uses_46 : decode cX13_uses 46 = .ok (.ifCond .le 19, 3) := by decide +kernel
theorem dX13_uses_49 : decode cX13_uses 49 = .ok (.aload_n 2, 1) := by decide +kernel
theorem dX13_uses_50 : decode cX13_uses 50 = .ok (.getfield 249, 3) := by decide +kernel
theorem dX13_uses_53 : decode cX13_uses 53 = .ok (.iload_n 1, 1) := by decide +kernel
theorem dX13_uses_54 : decode cX13_uses 54 = .ok (.iconst 4, 1) := by decide +kernel
theorem dX13_uses_55 : decode cX13_uses 55 = .ok (.iastore, 1) := by decide +kernel
theorem dX13_uses_56 : decode cX13_uses 56 = .ok (.aload_n 2, 1) := by decide +kernel
theorem dX13_uses_57 : decode cX13_uses 57 = .ok (.getfield 252, 3) := by decide +kernel
theorem dX13_uses_60 : decode cX13_uses 60 = .ok (.iload_n 1, 1) := by decide +kernel
theorem dX13_uses_61 : decode cX13_uses 61 = .ok (.iload 4, 2) := by decide +kernel
theorem dX13_uses_63 : decode cX13_uses 63 = .ok (.iastore, 1) := by decide +kernel
theorem dX13_uses_64 : decode cX13_uses 64 = .ok (.return_, 1) := by decide +kernel
theorem dX13_uses_65 : decode cX13_uses 65 = .ok (.aload_n 0, 1) := by decide +kernel
theorem dX13_uses_66 : decode cX13_uses 66 = .ok (.getfield 323, 3) := by decide +kernel
theorem dX13_uses_69 : decode cX13_uses 69 = .ok (.iconst 1, 1) := by decide +kernel
theorem dX13_uses_70 : decode cX13_uses 70 = .ok (.isub, 1) := by decide +kernel
theorem dX13_uses_71 : decode cX13_uses 71 = .ok (.istore 5, 2) := by decide +kernel
theorem dX13_uses_73 : decode cX13_uses 73 = .ok (.iload 5, 2) := by decide +kernel
theorem dX13_uses_75 : decode cX13_uses 75 = .ok (.ifCond .lt 20, 3) := by decide +kernel
theorem dX13_uses_78 : decode cX13_uses 78 = .ok (.aload_n 0, 1) := by decide +kernel
theorem dX13_uses_79 : decode cX13_uses 79 = .ok (.getfield 50, 3) := by decide +kernel
theorem dX13_uses_82 : decode cX13_uses 82 = .ok (.iload 5, 2) := by decide +kernel
theorem dX13_uses_84 : decode cX13_uses 84 = .ok (.iaload, 1) := by decide +kernel
theorem dX13_uses_85 : decode cX13_uses 85 = .ok (.iload_n 3, 1) := by decide +kernel
theorem dX13_uses_86 : decode cX13_uses 86 = .ok (.if_icmp .eq 9, 3) := by decide +kernel
theorem dX13_uses_89 : decode cX13_uses 89 = .ok (.iinc 5 (-1), 3) := by decide +kernel
theorem dX13_uses_92 : decode cX13_uses 92 = .ok (.goto (-19), 3) := by decide +kernel
theorem dX13_uses_95 : decode cX13_uses 95 = .ok (.iload 5, 2) := by decide +kernel
theorem dX13_uses_97 : decode cX13_uses 97 = .ok (.ifCond .lt 81, 3) := by decide +kernel
theorem dX13_uses_100 : decode cX13_uses 100 = .ok (.aload_n 2, 1) := by decide +kernel
theorem dX13_uses_101 : decode cX13_uses 101 = .ok (.getfield 249, 3) := by decide +kernel
theorem dX13_uses_104 : decode cX13_uses 104 = .ok (.iload_n 1, 1) := by decide +kernel
theorem dX13_uses_105 : decode cX13_uses 105 = .ok (.aload_n 0, 1) := by decide +kernel
theorem dX13_uses_106 : decode cX13_uses 106 = .ok (.getfield 53, 3) := by decide +kernel
theorem dX13_uses_109 : decode cX13_uses 109 = .ok (.iload 5, 2) := by decide +kernel
theorem dX13_uses_111 : decode cX13_uses 111 = .ok (.iaload, 1) := by decide +kernel
theorem dX13_uses_112 : decode cX13_uses 112 = .ok (.aload_n 0, 1) := by decide +kernel
theorem dX13_uses_113 : decode cX13_uses 113 = .ok (.getfield 59, 3) := by decide +kernel
theorem dX13_uses_116 : decode cX13_uses 116 = .ok (.aload_n 0, 1) := by decide +kernel
theorem dX13_uses_117 : decode cX13_uses 117 = .ok (.getfield 329, 3) := by decide +kernel
theorem dX13_uses_120 : decode cX13_uses 120 = .ok (.iaload, 1) := by decide +kernel
theorem dX13_uses_121 : decode cX13_uses 121 = .ok (.if_icmp .ne 7, 3) := by decide +kernel
theorem dX13_uses_124 : decode cX13_uses 124 = .ok (.iconst 1, 1) := by decide +kernel
theorem dX13_uses_125 : decode cX13_uses 125 = .ok (.goto 4, 3) := by decide +kernel
theorem dX13_uses_128 : decode cX13_uses 128 = .ok (.iconst 2, 1) := by decide +kernel
theorem dX13_uses_129 : decode cX13_uses 129 = .ok (.iastore, 1) := by decide +kernel
theorem dX13_uses_130 : decode cX13_uses 130 = .ok (.aload_n 2, 1) := by decide +kernel
theorem dX13_uses_131 : decode cX13_uses 131 = .ok (.getfield 252, 3) := by decide +kernel
theorem dX13_uses_134 : decode cX13_uses 134 = .ok (.iload_n 1, 1) := by decide +kernel
theorem dX13_uses_135 : decode cX13_uses 135 = .ok (.aload_n 0, 1) := by decide +kernel
theorem dX13_uses_136 : decode cX13_uses 136 = .ok (.getfield 53, 3) := by decide +kernel
theorem dX13_uses_139 : decode cX13_uses 139 = .ok (.iload 5, 2) := by decide +kernel
theorem dX13_uses_141 : decode cX13_uses 141 = .ok (.iaload, 1) := by decide +kernel
theorem dX13_uses_142 : decode cX13_uses 142 = .ok (.aload_n 0, 1) := by decide +kernel
theorem dX13_uses_143 : decode cX13_uses 143 = .ok (.getfield 59, 3) := by decide +kernel
theorem dX13_uses_146 : decode cX13_uses 146 = .ok (.aload_n 0, 1) := by decide +kernel
theorem dX13_uses_147 : decode cX13_uses 147 = .ok (.getfield 329, 3) := by decide +kernel
theorem dX13_uses_150 : decode cX13_uses 150 = .ok (.iaload, 1) := by decide +kernel
theorem dX13_uses_151 : decode cX13_uses 151 = .ok (.if_icmp .ne 13, 3) := by decide +kernel
theorem dX13_uses_154 : decode cX13_uses 154 = .ok (.aload_n 0, 1) := by decide +kernel
theorem dX13_uses_155 : decode cX13_uses 155 = .ok (.getfield 56, 3) := by decide +kernel
theorem dX13_uses_158 : decode cX13_uses 158 = .ok (.iload 5, 2) := by decide +kernel
theorem dX13_uses_160 : decode cX13_uses 160 = .ok (.iaload, 1) := by decide +kernel
theorem dX13_uses_161 : decode cX13_uses 161 = .ok (.goto 13, 3) := by decide +kernel
theorem dX13_uses_164 : decode cX13_uses 164 = .ok (.aload_n 0, 1) := by decide +kernel
theorem dX13_uses_165 : decode cX13_uses 165 = .ok (.aload_n 0, 1) := by decide +kernel
theorem dX13_uses_166 : decode cX13_uses 166 = .ok (.getfield 329, 3) := by decide +kernel
theorem dX13_uses_169 : decode cX13_uses 169 = .ok (.iload 5, 2) := by decide +kernel
theorem dX13_uses_171 : decode cX13_uses 171 = .ok (.invokevirtual 359, 3) := by decide +kernel
theorem dX13_uses_174 : decode cX13_uses 174 = .ok (.iastore, 1) := by decide +kernel
theorem dX13_uses_175 : decode cX13_uses 175 = .ok (.goto 46, 3) := by decide +kernel
theorem dX13_uses_178 : decode cX13_uses 178 = .ok (.aload_n 2, 1) := by decide +kernel
theorem dX13_uses_179 : decode cX13_uses 179 = .ok (.getfield 220, 3) := by decide +kernel
theorem dX13_uses_182 : decode cX13_uses 182 = .ok (.iload_n 3, 1) := by decide +kernel
theorem dX13_uses_183 : decode cX13_uses 183 = .ok (.iaload, 1) := by decide +kernel
theorem dX13_uses_184 : decode cX13_uses 184 = .ok (.iconst (-1), 1) := by decide +kernel
theorem dX13_uses_185 : decode cX13_uses 185 = .ok (.if_icmp .eq 25, 3) := by decide +kernel
theorem dX13_uses_188 : decode cX13_uses 188 = .ok (.aload_n 2, 1) := by decide +kernel
theorem dX13_uses_189 : decode cX13_uses 189 = .ok (.getfield 249, 3) := by decide +kernel
theorem dX13_uses_192 : decode cX13_uses 192 = .ok (.iload_n 1, 1) := by decide +kernel
theorem dX13_uses_193 : decode cX13_uses 193 = .ok (.iconst 3, 1) := by decide +kernel
theorem dX13_uses_194 : decode cX13_uses 194 = .ok (.iastore, 1) := by decide +kernel
theorem dX13_uses_195 : decode cX13_uses 195 = .ok (.aload_n 2, 1) := by decide +kernel
theorem dX13_uses_196 : decode cX13_uses 196 = .ok (.getfield 252, 3) := by decide +kernel
theorem dX13_uses_199 : decode cX13_uses 199 = .ok (.iload_n 1, 1) := by decide +kernel
theorem dX13_uses_200 : decode cX13_uses 200 = .ok (.aload_n 2, 1) := by decide +kernel
theorem dX13_uses_201 : decode cX13_uses 201 = .ok (.getfield 220, 3) := by decide +kernel
theorem dX13_uses_204 : decode cX13_uses 204 = .ok (.iload_n 3, 1) := by decide +kernel
theorem dX13_uses_205 : decode cX13_uses 205 = .ok (.iaload, 1) := by decide +kernel
theorem dX13_uses_206 : decode cX13_uses 206 = .ok (.iastore, 1) := by decide +kernel
theorem dX13_uses_207 : decode cX13_uses 207 = .ok (.goto 14, 3) := by decide +kernel
theorem dX13_uses_210 : decode cX13_uses 210 = .ok (.aload_n 0, 1) := by decide +kernel
theorem dX13_uses_211 : decode cX13_uses 211 = .ok (.iconst 4, 1) := by decide +kernel
theorem dX13_uses_212 : decode cX13_uses 212 = .ok (.aload_n 2, 1) := by decide +kernel
theorem dX13_uses_213 : decode cX13_uses 213 = .ok (.getfield 241, 3) := by decide +kernel
theorem dX13_uses_216 : decode cX13_uses 216 = .ok (.iload_n 1, 1) := by decide +kernel
theorem dX13_uses_217 : decode cX13_uses 217 = .ok (.iaload, 1) := by decide +kernel
theorem dX13_uses_218 : decode cX13_uses 218 = .ok (.invokevirtual 317, 3) := by decide +kernel
theorem dX13_uses_221 : decode cX13_uses 221 = .ok (.return_, 1) := by decide +kernel
theorem dX13_free_0 : decode cX13_free 0 = .ok (.aload_n 0, 1) := by decide +kernel
theorem dX13_free_1 : decode cX13_free 1 = .ok (.getfield 47, 3) := by decide +kernel
theorem dX13_free_4 : decode cX13_free 4 = .ok (.astore_n 3, 1) := by decide +kernel
theorem dX13_free_5 : decode cX13_free 5 = .ok (.aload_n 0, 1) := by decide +kernel
theorem dX13_free_6 : decode cX13_free 6 = .ok (.getfield 59, 3) := by decide +kernel
theorem dX13_free_9 : decode cX13_free 9 = .ok (.iload_n 1, 1) := by decide +kernel
theorem dX13_free_10 : decode cX13_free 10 = .ok (.iaload, 1) := by decide +kernel
theorem dX13_free_11 : decode cX13_free 11 = .ok (.istore 4, 2) := by decide +kernel
theorem dX13_free_13 : decode cX13_free 13 = .ok (.iconst 0, 1) := by decide +kernel
theorem dX13_free_14 : decode cX13_free 14 = .ok (.istore 5, 2) := by decide +kernel
theorem dX13_free_16 : decode cX13_free 16 = .ok (.iload 5, 2) := by decide +kernel
theorem dX13_free_18 : decode cX13_free 18 = .ok (.aload_n 3, 1) := by decide +kernel
theorem dX13_free_19 : decode cX13_free 19 = .ok (.getfield 332, 3) := by decide +kernel
theorem dX13_free_22 : decode cX13_free 22 = .ok (.iload 4, 2) := by decide +kernel
theorem dX13_free_24 : decode cX13_free 24 = .ok (.iaload, 1) := by decide +kernel
theorem dX13_free_25 : decode cX13_free 25 = .ok (.if_icmp .ge 29, 3) := by decide +kernel
theorem dX13_free_28 : decode cX13_free 28 = .ok (.aload_n 0, 1) := by decide +kernel
theorem dX13_free_29 : decode cX13_free 29 = .ok (.getfield 65, 3) := by decide +kernel
theorem dX13_free_32 : decode cX13_free 32 = .ok (.sipush 256, 3) := by decide +kernel
theorem dX13_free_35 : decode cX13_free 35 = .ok (.iload_n 1, 1) := by decide +kernel
theorem dX13_free_36 : decode cX13_free 36 = .ok (.imul, 1) := by decide +kernel
theorem dX13_free_37 : decode cX13_free 37 = .ok (.iload 5, 2) := by decide +kernel
theorem dX13_free_39 : decode cX13_free 39 = .ok (.iadd, 1) := by decide +kernel
theorem dX13_free_40 : decode cX13_free 40 = .ok (.iaload, 1) := by decide +kernel
theorem dX13_free_41 : decode cX13_free 41 = .ok (.iload_n 2, 1) := by decide +kernel
theorem dX13_free_42 : decode cX13_free 42 = .ok (.if_icmp .ne 6, 3) := by decide +kernel
theorem dX13_free_45 : decode cX13_free 45 = .ok (.iload 5, 2) := by decide +kernel
theorem dX13_free_47 : decode cX13_free 47 = .ok (.ireturn, 1) := by decide +kernel
theorem dX13_free_48 : decode cX13_free 48 = .ok (.iinc 5 1, 3) := by decide +kernel
theorem dX13_free_51 : decode cX13_free 51 = .ok (.goto (-35), 3) := by decide +kernel
theorem dX13_free_54 : decode cX13_free 54 = .ok (.aload_n 0, 1) := by decide +kernel
theorem dX13_free_55 : decode cX13_free 55 = .ok (.getfield 53, 3) := by decide +kernel
theorem dX13_free_58 : decode cX13_free 58 = .ok (.iload_n 2, 1) := by decide +kernel
theorem dX13_free_59 : decode cX13_free 59 = .ok (.iaload, 1) := by decide +kernel
theorem dX13_free_60 : decode cX13_free 60 = .ok (.aload_n 0, 1) := by decide +kernel
theorem dX13_free_61 : decode cX13_free 61 = .ok (.getfield 59, 3) := by decide +kernel
theorem dX13_free_64 : decode cX13_free 64 = .ok (.iload_n 1, 1) := by decide +kernel
theorem dX13_free_65 : decode cX13_free 65 = .ok (.iconst 1, 1) := by decide +kernel
theorem dX13_free_66 : decode cX13_free 66 = .ok (.isub, 1) := by decide +kernel
theorem dX13_free_67 : decode cX13_free 67 = .ok (.iaload, 1) := by decide +kernel
theorem dX13_free_68 : decode cX13_free 68 = .ok (.if_icmp .ne 7, 3) := by decide +kernel
theorem dX13_free_71 : decode cX13_free 71 = .ok (.iconst 1, 1) := by decide +kernel
theorem dX13_free_72 : decode cX13_free 72 = .ok (.goto 4, 3) := by decide +kernel
theorem dX13_free_75 : decode cX13_free 75 = .ok (.iconst 0, 1) := by decide +kernel
theorem dX13_free_76 : decode cX13_free 76 = .ok (.istore 5, 2) := by decide +kernel
theorem dX13_free_78 : decode cX13_free 78 = .ok (.iload 5, 2) := by decide +kernel
theorem dX13_free_80 : decode cX13_free 80 = .ok (.ifCond .eq 12, 3) := by decide +kernel
theorem dX13_free_83 : decode cX13_free 83 = .ok (.aload_n 0, 1) := by decide +kernel
theorem dX13_free_84 : decode cX13_free 84 = .ok (.getfield 56, 3) := by decide +kernel
theorem dX13_free_87 : decode cX13_free 87 = .ok (.iload_n 2, 1) := by decide +kernel
theorem dX13_free_88 : decode cX13_free 88 = .ok (.iaload, 1) := by decide +kernel
theorem dX13_free_89 : decode cX13_free 89 = .ok (.goto 11, 3) := by decide +kernel
theorem dX13_free_92 : decode cX13_free 92 = .ok (.aload_n 0, 1) := by decide +kernel
theorem dX13_free_93 : decode cX13_free 93 = .ok (.iload_n 1, 1) := by decide +kernel
theorem dX13_free_94 : decode cX13_free 94 = .ok (.iconst 1, 1) := by decide +kernel
theorem dX13_free_95 : decode cX13_free 95 = .ok (.isub, 1) := by decide +kernel
theorem dX13_free_96 : decode cX13_free 96 = .ok (.iload_n 2, 1) := by decide +kernel
theorem dX13_free_97 : decode cX13_free 97 = .ok (.invokevirtual 359, 3) := by decide +kernel
theorem dX13_free_100 : decode cX13_free 100 = .ok (.istore 6, 2) := by decide +kernel
theorem dX13_free_102 : decode cX13_free 102 = .ok (.aload_n 3, 1) := by decide +kernel
theorem dX13_free_103 : decode cX13_free 103 = .ok (.getfield 332, 3) := by decide +kernel
theorem dX13_free_106 : decode cX13_free 106 = .ok (.iload 4, 2) := by decide +kernel
theorem dX13_free_108 : decode cX13_free 108 = .ok (.iaload, 1) := by decide +kernel
theorem dX13_free_109 : decode cX13_free 109 = .ok (.istore 7, 2) := by decide +kernel
theorem dX13_free_111 : decode cX13_free 111 = .ok (.aload_n 3, 1) := by decide +kernel
theorem dX13_free_112 : decode cX13_free 112 = .ok (.getfield 332, 3) := by decide +kernel
theorem dX13_free_115 : decode cX13_free 115 = .ok (.iload 4, 2) := by decide +kernel
theorem dX13_free_117 : decode cX13_free 117 = .ok (.dup2, 1) := by decide +kernel
theorem dX13_free_118 : decode cX13_free 118 = .ok (.iaload, 1) := by decide +kernel
theorem dX13_free_119 : decode cX13_free 119 = .ok (.iconst 1, 1) := by decide +kernel
theorem dX13_free_120 : decode cX13_free 120 = .ok (.iadd, 1) := by decide +kernel
theorem dX13_free_121 : decode cX13_free 121 = .ok (.iastore, 1) := by decide +kernel
theorem dX13_free_122 : decode cX13_free 122 = .ok (.aload_n 0, 1) := by decide +kernel
theorem dX13_free_123 : decode cX13_free 123 = .ok (.getfield 65, 3) := by decide +kernel
theorem dX13_free_126 : decode cX13_free 126 = .ok (.sipush 256, 3) := by decide +kernel
theorem dX13_free_129 : decode cX13_free 129 = .ok (.iload_n 1, 1) := by decide +kernel
theorem dX13_free_130 : decode cX13_free 130 = .ok (.imul, 1) := by decide +kernel
theorem dX13_free_131 : decode cX13_free 131 = .ok (.iload 7, 2) := by decide +kernel
theorem dX13_free_133 : decode cX13_free 133 = .ok (.iadd, 1) := by decide +kernel
theorem dX13_free_134 : decode cX13_free 134 = .ok (.iload_n 2, 1) := by decide +kernel
theorem dX13_free_135 : decode cX13_free 135 = .ok (.iastore, 1) := by decide +kernel
theorem dX13_free_136 : decode cX13_free 136 = .ok (.iload 4, 2) := by decide +kernel
theorem dX13_free_138 : decode cX13_free 138 = .ok (.bipush 120, 2) := by decide +kernel
theorem dX13_free_140 : decode cX13_free 140 = .ok (.if_icmp .gt 43, 3) := by decide +kernel
theorem dX13_free_143 : decode cX13_free 143 = .ok (.aload_n 3, 1) := by decide +kernel
theorem dX13_free_144 : decode cX13_free 144 = .ok (.getfield 362, 3) := by decide +kernel
theorem dX13_free_147 : decode cX13_free 147 = .ok (.sipush 256, 3) := by decide +kernel
theorem dX13_free_150 : decode cX13_free 150 = .ok (.iload 4, 2) := by decide +kernel
theorem dX13_free_152 : decode cX13_free 152 = .ok (.imul, 1) := by decide +kernel
theorem dX13_free_153 : decode cX13_free 153 = .ok (.iload 7, 2) := by decide +kernel
theorem dX13_free_155 : decode cX13_free 155 = .ok (.iadd, 1) := by decide +kernel
theorem dX13_free_156 : decode cX13_free 156 = .ok (.iload 5, 2) := by decide +kernel
theorem dX13_free_158 : decode cX13_free 158 = .ok (.ifCond .eq 7, 3) := by decide +kernel
theorem dX13_free_161 : decode cX13_free 161 = .ok (.iconst 1, 1) := by decide +kernel
theorem dX13_free_162 : decode cX13_free 162 = .ok (.goto 4, 3) := by decide +kernel
theorem dX13_free_165 : decode cX13_free 165 = .ok (.iconst 2, 1) := by decide +kernel
theorem dX13_free_166 : decode cX13_free 166 = .ok (.iastore, 1) := by decide +kernel
theorem dX13_free_167 : decode cX13_free 167 = .ok (.aload_n 3, 1) := by decide +kernel
theorem dX13_free_168 : decode cX13_free 168 = .ok (.getfield 365, 3) := by decide +kernel
theorem dX13_free_171 : decode cX13_free 171 = .ok (.sipush 256, 3) := by decide +kernel
theorem dX13_free_174 : decode cX13_free 174 = .ok (.iload 4, 2) := by decide +kernel
theorem dX13_free_176 : decode cX13_free 176 = .ok (.imul, 1) := by decide +kernel
theorem dX13_free_177 : decode cX13_free 177 = .ok (.iload 7, 2) := by decide +kernel
theorem dX13_free_179 : decode cX13_free 179 = .ok (.iadd, 1) := by decide +kernel
theorem dX13_free_180 : decode cX13_free 180 = .ok (.iload 6, 2) := by decide +kernel
theorem dX13_free_182 : decode cX13_free 182 = .ok (.iastore, 1) := by decide +kernel
theorem dX13_free_183 : decode cX13_free 183 = .ok (.iload 7, 2) := by decide +kernel
theorem dX13_free_185 : decode cX13_free 185 = .ok (.ireturn, 1) := by decide +kernel
theorem dX13_binds_0 : decode cX13_binds 0 = .ok (.aload_n 0, 1) := by decide +kernel
theorem dX13_binds_1 : decode cX13_binds 1 = .ok (.getfield 47, 3) := by decide +kernel
theorem dX13_binds_4 : decode cX13_binds 4 = .ok (.astore_n 3, 1) := by decide +kernel
theorem dX13_binds_5 : decode cX13_binds 5 = .ok (.iconst 0, 1) := by decide +kernel
theorem dX13_binds_6 : decode cX13_binds 6 = .ok (.istore 4, 2) := by decide +kernel
theorem dX13_binds_8 : decode cX13_binds 8 = .ok (.iload_n 2, 1) := by decide +kernel
theorem dX13_binds_9 : decode cX13_binds 9 = .ok (.istore 5, 2) := by decide +kernel
theorem dX13_binds_11 : decode cX13_binds 11 = .ok (.iload 5, 2) := by decide +kernel
theorem dX13_binds_13 : decode cX13_binds 13 = .ok (.aload_n 0, 1) := by decide +kernel
theorem dX13_binds_14 : decode cX13_binds 14 = .ok (.getfield 323, 3) := by decide +kernel
theorem dX13_binds_17 : decode cX13_binds 17 = .ok (.if_icmp .ge 37, 3) := by decide +kernel
theorem dX13_binds_20 : decode cX13_binds 20 = .ok (.iload 4, 2) := by decide +kernel
theorem dX13_binds_22 : decode cX13_binds 22 = .ok (.ifCond .ne 19, 3) := by decide +kernel
theorem dX13_binds_25 : decode cX13_binds 25 = .ok (.aload_n 0, 1) := by decide +kernel
theorem dX13_binds_26 : decode cX13_binds 26 = .ok (.getfield 50, 3) := by decide +kernel
theorem dX13_binds_29 : decode cX13_binds 29 = .ok (.iload 5, 2) := by decide +kernel
theorem dX13_binds_31 : decode cX13_binds 31 = .ok (.iaload, 1) := by decide +kernel
theorem dX13_binds_32 : decode cX13_binds 32 = .ok (.aload_n 3, 1) := by decide +kernel
theorem dX13_binds_33 : decode cX13_binds 33 = .ok (.getfield 238, 3) := by decide +kernel
theorem dX13_binds_36 : decode cX13_binds 36 = .ok (.iload_n 1, 1) := by decide +kernel
theorem dX13_binds_37 : decode cX13_binds 37 = .ok (.iaload, 1) := by decide +kernel
theorem dX13_binds_38 : decode cX13_binds 38 = .ok (.if_icmp .ne 7, 3) := by decide +kernel
theorem dX13_binds_41 : decode cX13_binds 41 = .ok (.iconst 1, 1) := by decide +kernel
theorem dX13_binds_42 : decode cX13_binds 42 = .ok (.goto 4, 3) := by decide +kernel
theorem dX13_binds_45 : decode cX13_binds 45 = .ok (.iconst 0, 1) := by decide +kernel
theorem dX13_binds_46 : decode cX13_binds 46 = .ok (.istore 4, 2) := by decide +kernel
theorem dX13_binds_48 : decode cX13_binds 48 = .ok (.iinc 5 1, 3) := by decide +kernel
theorem dX13_binds_51 : decode cX13_binds 51 = .ok (.goto (-40), 3) := by decide +kernel
theorem dX13_binds_54 : decode cX13_binds 54 = .ok (.iload 4, 2) := by decide +kernel
theorem dX13_binds_56 : decode cX13_binds 56 = .ok (.ifCond .ne 17, 3) := by decide +kernel
theorem dX13_binds_59 : decode cX13_binds 59 = .ok (.aload_n 3, 1) := by decide +kernel
theorem dX13_binds_60 : decode cX13_binds 60 = .ok (.getfield 209, 3) := by decide +kernel
theorem dX13_binds_63 : decode cX13_binds 63 = .ok (.aload_n 3, 1) := by decide +kernel
theorem dX13_binds_64 : decode cX13_binds 64 = .ok (.getfield 238, 3) := by decide +kernel
theorem dX13_binds_67 : decode cX13_binds 67 = .ok (.iload_n 1, 1) := by decide +kernel
theorem dX13_binds_68 : decode cX13_binds 68 = .ok (.iaload, 1) := by decide +kernel
theorem dX13_binds_69 : decode cX13_binds 69 = .ok (.iaload, 1) := by decide +kernel
theorem dX13_binds_70 : decode cX13_binds 70 = .ok (.ifCond .eq 14, 3) := by decide +kernel
theorem dX13_binds_73 : decode cX13_binds 73 = .ok (.aload_n 0, 1) := by decide +kernel
theorem dX13_binds_74 : decode cX13_binds 74 = .ok (.iconst 5, 1) := by decide +kernel
theorem dX13_binds_75 : decode cX13_binds 75 = .ok (.aload_n 3, 1) := by decide +kernel
theorem dX13_binds_76 : decode cX13_binds 76 = .ok (.getfield 241, 3) := by decide +kernel
theorem dX13_binds_79 : decode cX13_binds 79 = .ok (.iload_n 1, 1) := by decide +kernel
theorem dX13_binds_80 : decode cX13_binds 80 = .ok (.iaload, 1) := by decide +kernel
theorem dX13_binds_81 : decode cX13_binds 81 = .ok (.invokevirtual 317, 3) := by decide +kernel
theorem dX13_binds_84 : decode cX13_binds 84 = .ok (.return_, 1) := by decide +kernel
theorem dX13_inSight_0 : decode cX13_inSight 0 = .ok (.aload_n 0, 1) := by decide +kernel
theorem dX13_inSight_1 : decode cX13_inSight 1 = .ok (.getfield 47, 3) := by decide +kernel
theorem dX13_inSight_4 : decode cX13_inSight 4 = .ok (.astore_n 2, 1) := by decide +kernel
theorem dX13_inSight_5 : decode cX13_inSight 5 = .ok (.aload_n 0, 1) := by decide +kernel
theorem dX13_inSight_6 : decode cX13_inSight 6 = .ok (.getfield 50, 3) := by decide +kernel
theorem dX13_inSight_9 : decode cX13_inSight 9 = .ok (.aload_n 0, 1) := by decide +kernel
theorem dX13_inSight_10 : decode cX13_inSight 10 = .ok (.getfield 323, 3) := by decide +kernel
theorem dX13_inSight_13 : decode cX13_inSight 13 = .ok (.aload_n 0, 1) := by decide +kernel
theorem dX13_inSight_14 : decode cX13_inSight 14 = .ok (.getfield 47, 3) := by decide +kernel
theorem dX13_inSight_17 : decode cX13_inSight 17 = .ok (.getfield 238, 3) := by decide +kernel
theorem dX13_inSight_20 : decode cX13_inSight 20 = .ok (.iload_n 1, 1) := by decide +kernel
theorem dX13_inSight_21 : decode cX13_inSight 21 = .ok (.iaload, 1) := by decide +kernel
theorem dX13_inSight_22 : decode cX13_inSight 22 = .ok (.iastore, 1) := by decide +kernel
theorem dX13_inSight_23 : decode cX13_inSight 23 = .ok (.aload_n 0, 1) := by decide +kernel
theorem dX13_inSight_24 : decode cX13_inSight 24 = .ok (.getfield 53, 3) := by decide +kernel
theorem dX13_inSight_27 : decode cX13_inSight 27 = .ok (.aload_n 0, 1) := by decide +kernel
theorem dX13_inSight_28 : decode cX13_inSight 28 = .ok (.getfield 323, 3) := by decide +kernel
theorem dX13_inSight_31 : decode cX13_inSight 31 = .ok (.aload_n 0, 1) := by decide +kernel
theorem dX13_inSight_32 : decode cX13_inSight 32 = .ok (.getfield 59, 3) := by decide +kernel
theorem dX13_inSight_35 : decode cX13_inSight 35 = .ok (.aload_n 0, 1) := by decide +kernel
theorem dX13_inSight_36 : decode cX13_inSight 36 = .ok (.getfield 329, 3) := by decide +kernel
theorem dX13_inSight_39 : decode cX13_inSight 39 = .ok (.iaload, 1) := by decide +kernel
theorem dX13_inSight_40 : decode cX13_inSight 40 = .ok (.iastore, 1) := by decide +kernel
theorem dX13_inSight_41 : decode cX13_inSight 41 = .ok (.aload_n 0, 1) := by decide +kernel
theorem dX13_inSight_42 : decode cX13_inSight 42 = .ok (.getfield 56, 3) := by decide +kernel
theorem dX13_inSight_45 : decode cX13_inSight 45 = .ok (.aload_n 0, 1) := by decide +kernel
theorem dX13_inSight_46 : decode cX13_inSight 46 = .ok (.getfield 323, 3) := by decide +kernel
theorem dX13_inSight_49 : decode cX13_inSight 49 = .ok (.aload_n 0, 1) := by decide +kernel
theorem dX13_inSight_50 : decode cX13_inSight 50 = .ok (.getfield 62, 3) := by decide +kernel
theorem dX13_inSight_53 : decode cX13_inSight 53 = .ok (.aload_n 0, 1) := by decide +kernel
theorem dX13_inSight_54 : decode cX13_inSight 54 = .ok (.getfield 329, 3) := by decide +kernel
theorem dX13_inSight_57 : decode cX13_inSight 57 = .ok (.iaload, 1) := by decide +kernel
theorem dX13_inSight_58 : decode cX13_inSight 58 = .ok (.iastore, 1) := by decide +kernel
theorem dX13_inSight_59 : decode cX13_inSight 59 = .ok (.aload_n 0, 1) := by decide +kernel
theorem dX13_inSight_60 : decode cX13_inSight 60 = .ok (.dup, 1) := by decide +kernel
theorem dX13_inSight_61 : decode cX13_inSight 61 = .ok (.getfield 323, 3) := by decide +kernel
theorem dX13_inSight_64 : decode cX13_inSight 64 = .ok (.iconst 1, 1) := by decide +kernel
theorem dX13_inSight_65 : decode cX13_inSight 65 = .ok (.iadd, 1) := by decide +kernel
theorem dX13_inSight_66 : decode cX13_inSight 66 = .ok (.putfield 323, 3) := by decide +kernel
theorem dX13_inSight_69 : decode cX13_inSight 69 = .ok (.aload_n 0, 1) := by decide +kernel
theorem dX13_inSight_70 : decode cX13_inSight 70 = .ok (.getfield 62, 3) := by decide +kernel
theorem dX13_inSight_73 : decode cX13_inSight 73 = .ok (.aload_n 0, 1) := by decide +kernel
theorem dX13_inSight_74 : decode cX13_inSight 74 = .ok (.getfield 329, 3) := by decide +kernel
theorem dX13_inSight_77 : decode cX13_inSight 77 = .ok (.dup2, 1) := by decide +kernel
theorem dX13_inSight_78 : decode cX13_inSight 78 = .ok (.iaload, 1) := by decide +kernel
theorem dX13_inSight_79 : decode cX13_inSight 79 = .ok (.iconst 1, 1) := by decide +kernel
theorem dX13_inSight_80 : decode cX13_inSight 80 = .ok (.iadd, 1) := by decide +kernel
theorem dX13_inSight_81 : decode cX13_inSight 81 = .ok (.iastore, 1) := by decide +kernel
theorem dX13_inSight_82 : decode cX13_inSight 82 = .ok (.aload_n 2, 1) := by decide +kernel
theorem dX13_inSight_83 : decode cX13_inSight 83 = .ok (.getfield 335, 3) := by decide +kernel
theorem dX13_inSight_86 : decode cX13_inSight 86 = .ok (.aload_n 0, 1) := by decide +kernel
theorem dX13_inSight_87 : decode cX13_inSight 87 = .ok (.getfield 59, 3) := by decide +kernel
theorem dX13_inSight_90 : decode cX13_inSight 90 = .ok (.aload_n 0, 1) := by decide +kernel
theorem dX13_inSight_91 : decode cX13_inSight 91 = .ok (.getfield 329, 3) := by decide +kernel
theorem dX13_inSight_94 : decode cX13_inSight 94 = .ok (.iaload, 1) := by decide +kernel
theorem dX13_inSight_95 : decode cX13_inSight 95 = .ok (.aload_n 2, 1) := by decide +kernel
theorem dX13_inSight_96 : decode cX13_inSight 96 = .ok (.getfield 335, 3) := by decide +kernel
theorem dX13_inSight_99 : decode cX13_inSight 99 = .ok (.aload_n 0, 1) := by decide +kernel
theorem dX13_inSight_100 : decode cX13_inSight 100 = .ok (.getfield 59, 3) := by decide +kernel
theorem dX13_inSight_103 : decode cX13_inSight 103 = .ok (.aload_n 0, 1) := by decide +kernel
theorem dX13_inSight_104 : decode cX13_inSight 104 = .ok (.getfield 329, 3) := by decide +kernel
theorem dX13_inSight_107 : decode cX13_inSight 107 = .ok (.iaload, 1) := by decide +kernel
theorem dX13_inSight_108 : decode cX13_inSight 108 = .ok (.iaload, 1) := by decide +kernel
theorem dX13_inSight_109 : decode cX13_inSight 109 = .ok (.aload_n 0, 1) := by decide +kernel
theorem dX13_inSight_110 : decode cX13_inSight 110 = .ok (.getfield 62, 3) := by decide +kernel
theorem dX13_inSight_113 : decode cX13_inSight 113 = .ok (.aload_n 0, 1) := by decide +kernel
theorem dX13_inSight_114 : decode cX13_inSight 114 = .ok (.getfield 329, 3) := by decide +kernel
theorem dX13_inSight_117 : decode cX13_inSight 117 = .ok (.iaload, 1) := by decide +kernel
theorem dX13_inSight_118 : decode cX13_inSight 118 = .ok (.invokestatic 368, 3) := by decide +kernel
theorem dX13_inSight_121 : decode cX13_inSight 121 = .ok (.iastore, 1) := by decide +kernel
theorem dX13_inSight_122 : decode cX13_inSight 122 = .ok (.return_, 1) := by decide +kernel
theorem dX13_lambda_0 : decode cX13_lambda 0 = .ok (.aload_n 0, 1) := by decide +kernel
theorem dX13_lambda_1 : decode cX13_lambda 1 = .ok (.getfield 47, 3) := by decide +kernel
theorem dX13_lambda_4 : decode cX13_lambda 4 = .ok (.astore_n 2, 1) := by decide +kernel
theorem dX13_lambda_5 : decode cX13_lambda 5 = .ok (.aload_n 2, 1) := by decide +kernel
theorem dX13_lambda_6 : decode cX13_lambda 6 = .ok (.dup, 1) := by decide +kernel
theorem dX13_lambda_7 : decode cX13_lambda 7 = .ok (.getfield 371, 3) := by decide +kernel
theorem dX13_lambda_10 : decode cX13_lambda 10 = .ok (.iconst 1, 1) := by decide +kernel
theorem dX13_lambda_11 : decode cX13_lambda 11 = .ok (.iadd, 1) := by decide +kernel
theorem dX13_lambda_12 : decode cX13_lambda 12 = .ok (.putfield 371, 3) := by decide +kernel
theorem dX13_lambda_15 : decode cX13_lambda 15 = .ok (.aload_n 2, 1) := by decide +kernel
theorem dX13_lambda_16 : decode cX13_lambda 16 = .ok (.getfield 371, 3) := by decide +kernel
theorem dX13_lambda_19 : decode cX13_lambda 19 = .ok (.bipush 120, 2) := by decide +kernel
theorem dX13_lambda_21 : decode cX13_lambda 21 = .ok (.if_icmp .le 15, 3) := by decide +kernel
theorem dX13_lambda_24 : decode cX13_lambda 24 = .ok (.aload_n 0, 1) := by decide +kernel
theorem dX13_lambda_25 : decode cX13_lambda 25 = .ok (.bipush 6, 2) := by decide +kernel
theorem dX13_lambda_27 : decode cX13_lambda 27 = .ok (.aload_n 2, 1) := by decide +kernel
theorem dX13_lambda_28 : decode cX13_lambda 28 = .ok (.getfield 241, 3) := by decide +kernel
theorem dX13_lambda_31 : decode cX13_lambda 31 = .ok (.iload_n 1, 1) := by decide +kernel
theorem dX13_lambda_32 : decode cX13_lambda 32 = .ok (.iaload, 1) := by decide +kernel
theorem dX13_lambda_33 : decode cX13_lambda 33 = .ok (.invokevirtual 317, 3) := by decide +kernel
theorem dX13_lambda_36 : decode cX13_lambda 36 = .ok (.aload_n 2, 1) := by decide +kernel
theorem dX13_lambda_37 : decode cX13_lambda 37 = .ok (.getfield 371, 3) := by decide +kernel
theorem dX13_lambda_40 : decode cX13_lambda 40 = .ok (.istore_n 3, 1) := by decide +kernel
theorem dX13_lambda_41 : decode cX13_lambda 41 = .ok (.aload_n 2, 1) := by decide +kernel
theorem dX13_lambda_42 : decode cX13_lambda 42 = .ok (.getfield 252, 3) := by decide +kernel
theorem dX13_lambda_45 : decode cX13_lambda 45 = .ok (.iload_n 1, 1) := by decide +kernel
theorem dX13_lambda_46 : decode cX13_lambda 46 = .ok (.iload_n 3, 1) := by decide +kernel
theorem dX13_lambda_47 : decode cX13_lambda 47 = .ok (.iastore, 1) := by decide +kernel
theorem dX13_lambda_48 : decode cX13_lambda 48 = .ok (.aload_n 2, 1) := by decide +kernel
theorem dX13_lambda_49 : decode cX13_lambda 49 = .ok (.getfield 374, 3) := by decide +kernel
theorem dX13_lambda_52 : decode cX13_lambda 52 = .ok (.iload_n 3, 1) := by decide +kernel
theorem dX13_lambda_53 : decode cX13_lambda 53 = .ok (.iload_n 1, 1) := by decide +kernel
theorem dX13_lambda_54 : decode cX13_lambda 54 = .ok (.iastore, 1) := by decide +kernel
theorem dX13_lambda_55 : decode cX13_lambda 55 = .ok (.aload_n 2, 1) := by decide +kernel
theorem dX13_lambda_56 : decode cX13_lambda 56 = .ok (.getfield 377, 3) := by decide +kernel
theorem dX13_lambda_59 : decode cX13_lambda 59 = .ok (.iload_n 3, 1) := by decide +kernel
theorem dX13_lambda_60 : decode cX13_lambda 60 = .ok (.aload_n 0, 1) := by decide +kernel
theorem dX13_lambda_61 : decode cX13_lambda 61 = .ok (.aload_n 0, 1) := by decide +kernel
theorem dX13_lambda_62 : decode cX13_lambda 62 = .ok (.iload_n 1, 1) := by decide +kernel
theorem dX13_lambda_63 : decode cX13_lambda 63 = .ok (.iconst 1, 1) := by decide +kernel
theorem dX13_lambda_64 : decode cX13_lambda 64 = .ok (.invokevirtual 298, 3) := by decide +kernel
theorem dX13_lambda_67 : decode cX13_lambda 67 = .ok (.invokevirtual 295, 3) := by decide +kernel
theorem dX13_lambda_70 : decode cX13_lambda 70 = .ok (.iastore, 1) := by decide +kernel
theorem dX13_lambda_71 : decode cX13_lambda 71 = .ok (.aload_n 2, 1) := by decide +kernel
theorem dX13_lambda_72 : decode cX13_lambda 72 = .ok (.getfield 332, 3) := by decide +kernel
theorem dX13_lambda_75 : decode cX13_lambda 75 = .ok (.iload_n 3, 1) := by decide +kernel
theorem dX13_lambda_76 : decode cX13_lambda 76 = .ok (.iconst 0, 1) := by decide +kernel
theorem dX13_lambda_77 : decode cX13_lambda 77 = .ok (.iastore, 1) := by decide +kernel
theorem dX13_lambda_78 : decode cX13_lambda 78 = .ok (.aload_n 2, 1) := by decide +kernel
theorem dX13_lambda_79 : decode cX13_lambda 79 = .ok (.getfield 335, 3) := by decide +kernel
theorem dX13_lambda_82 : decode cX13_lambda 82 = .ok (.iload_n 3, 1) := by decide +kernel
theorem dX13_lambda_83 : decode cX13_lambda 83 = .ok (.iconst 0, 1) := by decide +kernel
theorem dX13_lambda_84 : decode cX13_lambda 84 = .ok (.iastore, 1) := by decide +kernel
theorem dX13_lambda_85 : decode cX13_lambda 85 = .ok (.aload_n 0, 1) := by decide +kernel
theorem dX13_lambda_86 : decode cX13_lambda 86 = .ok (.dup, 1) := by decide +kernel
theorem dX13_lambda_87 : decode cX13_lambda 87 = .ok (.getfield 329, 3) := by decide +kernel
theorem dX13_lambda_90 : decode cX13_lambda 90 = .ok (.iconst 1, 1) := by decide +kernel
theorem dX13_lambda_91 : decode cX13_lambda 91 = .ok (.iadd, 1) := by decide +kernel
theorem dX13_lambda_92 : decode cX13_lambda 92 = .ok (.putfield 329, 3) := by decide +kernel
theorem dX13_lambda_95 : decode cX13_lambda 95 = .ok (.aload_n 0, 1) := by decide +kernel
theorem dX13_lambda_96 : decode cX13_lambda 96 = .ok (.getfield 59, 3) := by decide +kernel
theorem dX13_lambda_99 : decode cX13_lambda 99 = .ok (.aload_n 0, 1) := by decide +kernel
theorem dX13_lambda_100 : decode cX13_lambda 100 = .ok (.getfield 329, 3) := by decide +kernel
theorem dX13_lambda_103 : decode cX13_lambda 103 = .ok (.iload_n 3, 1) := by decide +kernel
theorem dX13_lambda_104 : decode cX13_lambda 104 = .ok (.iastore, 1) := by decide +kernel
theorem dX13_lambda_105 : decode cX13_lambda 105 = .ok (.aload_n 0, 1) := by decide +kernel
theorem dX13_lambda_106 : decode cX13_lambda 106 = .ok (.getfield 62, 3) := by decide +kernel
theorem dX13_lambda_109 : decode cX13_lambda 109 = .ok (.aload_n 0, 1) := by decide +kernel
theorem dX13_lambda_110 : decode cX13_lambda 110 = .ok (.getfield 329, 3) := by decide +kernel
theorem dX13_lambda_113 : decode cX13_lambda 113 = .ok (.iconst 0, 1) := by decide +kernel
theorem dX13_lambda_114 : decode cX13_lambda 114 = .ok (.iastore, 1) := by decide +kernel
theorem dX13_lambda_115 : decode cX13_lambda 115 = .ok (.aload_n 0, 1) := by decide +kernel
theorem dX13_lambda_116 : decode cX13_lambda 116 = .ok (.getfield 323, 3) := by decide +kernel
theorem dX13_lambda_119 : decode cX13_lambda 119 = .ok (.istore 4, 2) := by decide +kernel
theorem dX13_lambda_121 : decode cX13_lambda 121 = .ok (.aload_n 2, 1) := by decide +kernel
theorem dX13_lambda_122 : decode cX13_lambda 122 = .ok (.getfield 243, 3) := by decide +kernel
theorem dX13_lambda_125 : decode cX13_lambda 125 = .ok (.aload_n 0, 1) := by decide +kernel
theorem dX13_lambda_126 : decode cX13_lambda 126 = .ok (.iload_n 1, 1) := by decide +kernel
theorem dX13_lambda_127 : decode cX13_lambda 127 = .ok (.iconst 1, 1) := by decide +kernel
theorem dX13_lambda_128 : decode cX13_lambda 128 = .ok (.invokevirtual 298, 3) := by decide +kernel
theorem dX13_lambda_131 : decode cX13_lambda 131 = .ok (.iaload, 1) := by decide +kernel
theorem dX13_lambda_132 : decode cX13_lambda 132 = .ok (.istore 5, 2) := by decide +kernel
theorem dX13_lambda_134 : decode cX13_lambda 134 = .ok (.iload 5, 2) := by decide +kernel
theorem dX13_lambda_136 : decode cX13_lambda 136 = .ok (.iconst (-1), 1) := by decide +kernel
theorem dX13_lambda_137 : decode cX13_lambda 137 = .ok (.if_icmp .eq 29, 3) := by decide +kernel
theorem dX13_lambda_140 : decode cX13_lambda 140 = .ok (.aload_n 0, 1) := by decide +kernel
theorem dX13_lambda_141 : decode cX13_lambda 141 = .ok (.iload 5, 2) := by decide +kernel
theorem dX13_lambda_143 : decode cX13_lambda 143 = .ok (.iload 4, 2) := by decide +kernel
theorem dX13_lambda_145 : decode cX13_lambda 145 = .ok (.invokevirtual 380, 3) := by decide +kernel
theorem dX13_lambda_148 : decode cX13_lambda 148 = .ok (.aload_n 0, 1) := by decide +kernel
theorem dX13_lambda_149 : decode cX13_lambda 149 = .ok (.iload 5, 2) := by decide +kernel
theorem dX13_lambda_151 : decode cX13_lambda 151 = .ok (.invokevirtual 383, 3) := by decide +kernel
theorem dX13_lambda_154 : decode cX13_lambda 154 = .ok (.aload_n 2, 1) := by decide +kernel
theorem dX13_lambda_155 : decode cX13_lambda 155 = .ok (.getfield 246, 3) := by decide +kernel
theorem dX13_lambda_158 : decode cX13_lambda 158 = .ok (.iload 5, 2) := by decide +kernel
theorem dX13_lambda_160 : decode cX13_lambda 160 = .ok (.iaload, 1) := by decide +kernel
theorem dX13_lambda_161 : decode cX13_lambda 161 = .ok (.istore 5, 2) := by decide +kernel
theorem dX13_lambda_163 : decode cX13_lambda 163 = .ok (.goto (-29), 3) := by decide +kernel
theorem dX13_lambda_166 : decode cX13_lambda 166 = .ok (.aload_n 0, 1) := by decide +kernel
theorem dX13_lambda_167 : decode cX13_lambda 167 = .ok (.aload_n 0, 1) := by decide +kernel
theorem dX13_lambda_168 : decode cX13_lambda 168 = .ok (.iload_n 1, 1) := by decide +kernel
theorem dX13_lambda_169 : decode cX13_lambda 169 = .ok (.iconst 2, 1) := by decide +kernel
theorem dX13_lambda_170 : decode cX13_lambda 170 = .ok (.invokevirtual 298, 3) := by decide +kernel
theorem dX13_lambda_173 : decode cX13_lambda 173 = .ok (.invokevirtual 356, 3) := by decide +kernel
theorem dX13_lambda_176 : decode cX13_lambda 176 = .ok (.aload_n 0, 1) := by decide +kernel
theorem dX13_lambda_177 : decode cX13_lambda 177 = .ok (.iload 4, 2) := by decide +kernel
theorem dX13_lambda_179 : decode cX13_lambda 179 = .ok (.putfield 323, 3) := by decide +kernel
theorem dX13_lambda_182 : decode cX13_lambda 182 = .ok (.aload_n 0, 1) := by decide +kernel
theorem dX13_lambda_183 : decode cX13_lambda 183 = .ok (.dup, 1) := by decide +kernel
theorem dX13_lambda_184 : decode cX13_lambda 184 = .ok (.getfield 329, 3) := by decide +kernel
theorem dX13_lambda_187 : decode cX13_lambda 187 = .ok (.iconst 1, 1) := by decide +kernel
theorem dX13_lambda_188 : decode cX13_lambda 188 = .ok (.isub, 1) := by decide +kernel
theorem dX13_lambda_189 : decode cX13_lambda 189 = .ok (.putfield 329, 3) := by decide +kernel
theorem dX13_lambda_192 : decode cX13_lambda 192 = .ok (.return_, 1) := by decide +kernel
theorem dX13_let_0 : decode cX13_let 0 = .ok (.aload_n 0, 1) := by decide +kernel
theorem dX13_let_1 : decode cX13_let 1 = .ok (.getfield 47, 3) := by decide +kernel
theorem dX13_let_4 : decode cX13_let 4 = .ok (.astore_n 3, 1) := by decide +kernel
theorem dX13_let_5 : decode cX13_let 5 = .ok (.aload_n 0, 1) := by decide +kernel
theorem dX13_let_6 : decode cX13_let 6 = .ok (.getfield 323, 3) := by decide +kernel
theorem dX13_let_9 : decode cX13_let 9 = .ok (.istore 4, 2) := by decide +kernel
theorem dX13_let_11 : decode cX13_let 11 = .ok (.aload_n 0, 1) := by decide +kernel
theorem dX13_let_12 : decode cX13_let 12 = .ok (.getfield 62, 3) := by decide +kernel
theorem dX13_let_15 : decode cX13_let 15 = .ok (.aload_n 0, 1) := by decide +kernel
theorem dX13_let_16 : decode cX13_let 16 = .ok (.getfield 329, 3) := by decide +kernel
theorem dX13_let_19 : decode cX13_let 19 = .ok (.iaload, 1) := by decide +kernel
theorem dX13_let_20 : decode cX13_let 20 = .ok (.istore 5, 2) := by decide +kernel
theorem dX13_let_22 : decode cX13_let 22 = .ok (.aload_n 3, 1) := by decide +kernel
theorem dX13_let_23 : decode cX13_let 23 = .ok (.getfield 252, 3) := by decide +kernel
theorem dX13_let_26 : decode cX13_let 26 = .ok (.iload_n 1, 1) := by decide +kernel
theorem dX13_let_27 : decode cX13_let 27 = .ok (.iload 5, 2) := by decide +kernel
theorem dX13_let_29 : decode cX13_let 29 = .ok (.iastore, 1) := by decide +kernel
theorem dX13_let_30 : decode cX13_let 30 = .ok (.aload_n 3, 1) := by decide +kernel
theorem dX13_let_31 : decode cX13_let 31 = .ok (.getfield 243, 3) := by decide +kernel
theorem dX13_let_34 : decode cX13_let 34 = .ok (.aload_n 0, 1) := by decide +kernel
theorem dX13_let_35 : decode cX13_let 35 = .ok (.iload_n 1, 1) := by decide +kernel
theorem dX13_let_36 : decode cX13_let 36 = .ok (.iconst 1, 1) := by decide +kernel
theorem dX13_let_37 : decode cX13_let 37 = .ok (.invokevirtual 298, 3) := by decide +kernel
theorem dX13_let_40 : decode cX13_let 40 = .ok (.iaload, 1) := by decide +kernel
theorem dX13_let_41 : decode cX13_let 41 = .ok (.istore 6, 2) := by decide +kernel
theorem dX13_let_43 : decode cX13_let 43 = .ok (.iload 6, 2) := by decide +kernel
theorem dX13_let_45 : decode cX13_let 45 = .ok (.iconst (-1), 1) := by decide +kernel
theorem dX13_let_46 : decode cX13_let 46 = .ok (.if_icmp .eq 43, 3) := by decide +kernel
theorem dX13_let_49 : decode cX13_let 49 = .ok (.iload_n 2, 1) := by decide +kernel
theorem dX13_let_50 : decode cX13_let 50 = .ok (.ifCond .eq 39, 3) := by decide +kernel
theorem dX13_let_53 : decode cX13_let 53 = .ok (.aload_n 0, 1) := by decide +kernel
theorem dX13_let_54 : decode cX13_let 54 = .ok (.aload_n 3, 1) := by decide +kernel
theorem dX13_let_55 : decode cX13_let 55 = .ok (.getfield 243, 3) := by decide +kernel
theorem dX13_let_58 : decode cX13_let 58 = .ok (.iload 6, 2) := by decide +kernel
theorem dX13_let_60 : decode cX13_let 60 = .ok (.iaload, 1) := by decide +kernel
theorem dX13_let_61 : decode cX13_let 61 = .ok (.iload 4, 2) := by decide +kernel
theorem dX13_let_63 : decode cX13_let 63 = .ok (.invokevirtual 380, 3) := by decide +kernel
theorem dX13_let_66 : decode cX13_let 66 = .ok (.aload_n 0, 1) := by decide +kernel
theorem dX13_let_67 : decode cX13_let 67 = .ok (.aload_n 3, 1) := by decide +kernel
theorem dX13_let_68 : decode cX13_let 68 = .ok (.getfield 243, 3) := by decide +kernel
theorem dX13_let_71 : decode cX13_let 71 = .ok (.iload 6, 2) := by decide +kernel
theorem dX13_let_73 : decode cX13_let 73 = .ok (.iaload, 1) := by decide +kernel
theorem dX13_let_74 : decode cX13_let 74 = .ok (.invokevirtual 383, 3) := by decide +kernel
theorem dX13_let_77 : decode cX13_let 77 = .ok (.aload_n 3, 1) := by decide +kernel
theorem dX13_let_78 : decode cX13_let 78 = .ok (.getfield 246, 3) := by decide +kernel
theorem dX13_let_81 : decode cX13_let 81 = .ok (.iload 6, 2) := by decide +kernel
theorem dX13_let_83 : decode cX13_let 83 = .ok (.iaload, 1) := by decide +kernel
theorem dX13_let_84 : decode cX13_let 84 = .ok (.istore 6, 2) := by decide +kernel
theorem dX13_let_86 : decode cX13_let 86 = .ok (.goto (-43), 3) := by decide +kernel
theorem dX13_let_89 : decode cX13_let 89 = .ok (.aload_n 3, 1) := by decide +kernel
theorem dX13_let_90 : decode cX13_let 90 = .ok (.getfield 243, 3) := by decide +kernel
theorem dX13_let_93 : decode cX13_let 93 = .ok (.aload_n 0, 1) := by decide +kernel
theorem dX13_let_94 : decode cX13_let 94 = .ok (.iload_n 1, 1) := by decide +kernel
theorem dX13_let_95 : decode cX13_let 95 = .ok (.iconst 1, 1) := by decide +kernel
theorem dX13_let_96 : decode cX13_let 96 = .ok (.invokevirtual 298, 3) := by decide +kernel
theorem dX13_let_99 : decode cX13_let 99 = .ok (.iaload, 1) := by decide +kernel
theorem dX13_let_100 : decode cX13_let 100 = .ok (.istore 6, 2) := by decide +kernel
theorem dX13_let_102 : decode cX13_let 102 = .ok (.iload 6, 2) := by decide +kernel
theorem dX13_let_104 : decode cX13_let 104 = .ok (.iconst (-1), 1) := by decide +kernel
theorem dX13_let_105 : decode cX13_let 105 = .ok (.if_icmp .eq 43, 3) := by decide +kernel
theorem dX13_let_108 : decode cX13_let 108 = .ok (.iload_n 2, 1) := by decide +kernel
theorem dX13_let_109 : decode cX13_let 109 = .ok (.ifCond .ne 15, 3) := by decide +kernel
theorem dX13_let_112 : decode cX13_let 112 = .ok (.aload_n 0, 1) := by decide +kernel
theorem dX13_let_113 : decode cX13_let 113 = .ok (.aload_n 0, 1) := by decide +kernel
theorem dX13_let_114 : decode cX13_let 114 = .ok (.iload_n 1, 1) := by decide +kernel
theorem dX13_let_115 : decode cX13_let 115 = .ok (.iconst 1, 1) := by decide +kernel
theorem dX13_let_116 : decode cX13_let 116 = .ok (.invokevirtual 298, 3) := by decide +kernel
theorem dX13_let_119 : decode cX13_let 119 = .ok (.iload 6, 2) := by decide +kernel
theorem dX13_let_121 : decode cX13_let 121 = .ok (.invokevirtual 386, 3) := by decide +kernel
theorem dX13_let_124 : decode cX13_let 124 = .ok (.aload_n 0, 1) := by decide +kernel
theorem dX13_let_125 : decode cX13_let 125 = .ok (.aload_n 0, 1) := by decide +kernel
theorem dX13_let_126 : decode cX13_let 126 = .ok (.iload 6, 2) := by decide +kernel
theorem dX13_let_128 : decode cX13_let 128 = .ok (.iconst 1, 1) := by decide +kernel
theorem dX13_let_129 : decode cX13_let 129 = .ok (.invokevirtual 298, 3) := by decide +kernel
theorem dX13_let_132 : decode cX13_let 132 = .ok (.iconst 0, 1) := by decide +kernel
theorem dX13_let_133 : decode cX13_let 133 = .ok (.invokevirtual 340, 3) := by decide +kernel
theorem dX13_let_136 : decode cX13_let 136 = .ok (.aload_n 3, 1) := by decide +kernel
theorem dX13_let_137 : decode cX13_let 137 = .ok (.getfield 246, 3) := by decide +kernel
theorem dX13_let_140 : decode cX13_let 140 = .ok (.iload 6, 2) := by decide +kernel
theorem dX13_let_142 : decode cX13_let 142 = .ok (.iaload, 1) := by decide +kernel
theorem dX13_let_143 : decode cX13_let 143 = .ok (.istore 6, 2) := by decide +kernel
theorem dX13_let_145 : decode cX13_let 145 = .ok (.goto (-43), 3) := by decide +kernel
theorem dX13_let_148 : decode cX13_let 148 = .ok (.aload_n 3, 1) := by decide +kernel
theorem dX13_let_149 : decode cX13_let 149 = .ok (.getfield 243, 3) := by decide +kernel
theorem dX13_let_152 : decode cX13_let 152 = .ok (.aload_n 0, 1) := by decide +kernel
theorem dX13_let_153 : decode cX13_let 153 = .ok (.iload_n 1, 1) := by decide +kernel
theorem dX13_let_154 : decode cX13_let 154 = .ok (.iconst 1, 1) := by decide +kernel
theorem dX13_let_155 : decode cX13_let 155 = .ok (.invokevirtual 298, 3) := by decide +kernel
theorem dX13_let_158 : decode cX13_let 158 = .ok (.iaload, 1) := by decide +kernel
theorem dX13_let_159 : decode cX13_let 159 = .ok (.istore 6, 2) := by decide +kernel
theorem dX13_let_161 : decode cX13_let 161 = .ok (.iload 6, 2) := by decide +kernel
theorem dX13_let_163 : decode cX13_let 163 = .ok (.iconst (-1), 1) := by decide +kernel
theorem dX13_let_164 : decode cX13_let 164 = .ok (.if_icmp .eq 30, 3) := by decide +kernel
theorem dX13_let_167 : decode cX13_let 167 = .ok (.iload_n 2, 1) := by decide +kernel
theorem dX13_let_168 : decode cX13_let 168 = .ok (.ifCond .ne 26, 3) := by decide +kernel
theorem dX13_let_171 : decode cX13_let 171 = .ok (.aload_n 0, 1) := by decide +kernel
theorem dX13_let_172 : decode cX13_let 172 = .ok (.aload_n 3, 1) := by decide +kernel
theorem dX13_let_173 : decode cX13_let 173 = .ok (.getfield 243, 3) := by decide +kernel
theorem dX13_let_176 : decode cX13_let 176 = .ok (.iload 6, 2) := by decide +kernel
theorem dX13_let_178 : decode cX13_let 178 = .ok (.iaload, 1) := by decide +kernel
theorem dX13_let_179 : decode cX13_let 179 = .ok (.invokevirtual 383, 3) := by decide +kernel
theorem dX13_let_182 : decode cX13_let 182 = .ok (.aload_n 3, 1) := by decide +kernel
theorem dX13_let_183 : decode cX13_let 183 = .ok (.getfield 246, 3) := by decide +kernel
theorem dX13_let_186 : decode cX13_let 186 = .ok (.iload 6, 2) := by decide +kernel
theorem dX13_let_188 : decode cX13_let 188 = .ok (.iaload, 1) := by decide +kernel
theorem dX13_let_189 : decode cX13_let 189 = .ok (.istore 6, 2) := by decide +kernel
theorem dX13_let_191 : decode cX13_let 191 = .ok (.goto (-30), 3) := by decide +kernel
theorem dX13_let_194 : decode cX13_let 194 = .ok (.aload_n 0, 1) := by decide +kernel
theorem dX13_let_195 : decode cX13_let 195 = .ok (.aload_n 0, 1) := by decide +kernel
theorem dX13_let_196 : decode cX13_let 196 = .ok (.iload_n 1, 1) := by decide +kernel
theorem dX13_let_197 : decode cX13_let 197 = .ok (.iconst 2, 1) := by decide +kernel
theorem dX13_let_198 : decode cX13_let 198 = .ok (.invokevirtual 298, 3) := by decide +kernel
theorem dX13_let_201 : decode cX13_let 201 = .ok (.invokevirtual 356, 3) := by decide +kernel
theorem dX13_let_204 : decode cX13_let 204 = .ok (.aload_n 0, 1) := by decide +kernel
theorem dX13_let_205 : decode cX13_let 205 = .ok (.iload 4, 2) := by decide +kernel
theorem dX13_let_207 : decode cX13_let 207 = .ok (.putfield 323, 3) := by decide +kernel
theorem dX13_let_210 : decode cX13_let 210 = .ok (.aload_n 0, 1) := by decide +kernel
theorem dX13_let_211 : decode cX13_let 211 = .ok (.getfield 62, 3) := by decide +kernel
theorem dX13_let_214 : decode cX13_let 214 = .ok (.aload_n 0, 1) := by decide +kernel
theorem dX13_let_215 : decode cX13_let 215 = .ok (.getfield 329, 3) := by decide +kernel
theorem dX13_let_218 : decode cX13_let 218 = .ok (.iload 5, 2) := by decide +kernel
theorem dX13_let_220 : decode cX13_let 220 = .ok (.iastore, 1) := by decide +kernel
theorem dX13_let_221 : decode cX13_let 221 = .ok (.return_, 1) := by decide +kernel
theorem dX13_bindsPair_0 : decode cX13_bindsPair 0 = .ok (.aload_n 0, 1) := by decide +kernel
theorem dX13_bindsPair_1 : decode cX13_bindsPair 1 = .ok (.getfield 47, 3) := by decide +kernel
theorem dX13_bindsPair_4 : decode cX13_bindsPair 4 = .ok (.astore_n 3, 1) := by decide +kernel
theorem dX13_bindsPair_5 : decode cX13_bindsPair 5 = .ok (.aload_n 3, 1) := by decide +kernel
theorem dX13_bindsPair_6 : decode cX13_bindsPair 6 = .ok (.getfield 238, 3) := by decide +kernel
theorem dX13_bindsPair_9 : decode cX13_bindsPair 9 = .ok (.aload_n 3, 1) := by decide +kernel
theorem dX13_bindsPair_10 : decode cX13_bindsPair 10 = .ok (.getfield 243, 3) := by decide +kernel
theorem dX13_bindsPair_13 : decode cX13_bindsPair 13 = .ok (.iload_n 2, 1) := by decide +kernel
theorem dX13_bindsPair_14 : decode cX13_bindsPair 14 = .ok (.iaload, 1) := by decide +kernel
theorem dX13_bindsPair_15 : decode cX13_bindsPair 15 = .ok (.iaload, 1) := by decide +kernel
theorem dX13_bindsPair_16 : decode cX13_bindsPair 16 = .ok (.istore 4, 2) := by decide +kernel
theorem dX13_bindsPair_18 : decode cX13_bindsPair 18 = .ok (.iconst 0, 1) := by decide +kernel
theorem dX13_bindsPair_19 : decode cX13_bindsPair 19 = .ok (.istore 5, 2) := by decide +kernel
theorem dX13_bindsPair_21 : decode cX13_bindsPair 21 = .ok (.aload_n 3, 1) := by decide +kernel
theorem dX13_bindsPair_22 : decode cX13_bindsPair 22 = .ok (.getfield 243, 3) := by decide +kernel
theorem dX13_bindsPair_25 : decode cX13_bindsPair 25 = .ok (.iload_n 1, 1) := by decide +kernel
theorem dX13_bindsPair_26 : decode cX13_bindsPair 26 = .ok (.iaload, 1) := by decide +kernel
theorem dX13_bindsPair_27 : decode cX13_bindsPair 27 = .ok (.istore 6, 2) := by decide +kernel
theorem dX13_bindsPair_29 : decode cX13_bindsPair 29 = .ok (.iload 6, 2) := by decide +kernel
theorem dX13_bindsPair_31 : decode cX13_bindsPair 31 = .ok (.iload_n 2, 1) := by decide +kernel
theorem dX13_bindsPair_32 : decode cX13_bindsPair 32 = .ok (.if_icmp .eq 44, 3) := by decide +kernel
theorem dX13_bindsPair_35 : decode cX13_bindsPair 35 = .ok (.iload 5, 2) := by decide +kernel
theorem dX13_bindsPair_37 : decode cX13_bindsPair 37 = .ok (.ifCond .ne 20, 3) := by decide +kernel
theorem dX13_bindsPair_40 : decode cX13_bindsPair 40 = .ok (.aload_n 3, 1) := by decide +kernel
theorem dX13_bindsPair_41 : decode cX13_bindsPair 41 = .ok (.getfield 238, 3) := by decide +kernel
theorem dX13_bindsPair_44 : decode cX13_bindsPair 44 = .ok (.aload_n 3, 1) := by decide +kernel
theorem dX13_bindsPair_45 : decode cX13_bindsPair 45 = .ok (.getfield 243, 3) := by decide +kernel
theorem dX13_bindsPair_48 : decode cX13_bindsPair 48 = .ok (.iload 6, 2) := by decide +kernel
theorem dX13_bindsPair_50 : decode cX13_bindsPair 50 = .ok (.iaload, 1) := by decide +kernel
theorem dX13_bindsPair_51 : decode cX13_bindsPair 51 = .ok (.iaload, 1) := by decide +kernel
theorem dX13_bindsPair_52 : decode cX13_bindsPair 52 = .ok (.iload 4, 2) := by decide +kernel
theorem dX13_bindsPair_54 : decode cX13_bindsPair 54 = .ok (.if_icmp .ne 7, 3) := by decide +kernel
theorem dX13_bindsPair_57 : decode cX13_bindsPair 57 = .ok (.iconst 1, 1) := by decide +kernel
theorem dX13_bindsPair_58 : decode cX13_bindsPair 58 = .ok (.goto 4, 3) := by decide +kernel
theorem dX13_bindsPair_61 : decode cX13_bindsPair 61 = .ok (.iconst 0, 1) := by decide +kernel
theorem dX13_bindsPair_62 : decode cX13_bindsPair 62 = .ok (.istore 5, 2) := by decide +kernel
theorem dX13_bindsPair_64 : decode cX13_bindsPair 64 = .ok (.aload_n 3, 1) := by decide +kernel
theorem dX13_bindsPair_65 : decode cX13_bindsPair 65 = .ok (.getfield 246, 3) := by decide +kernel
theorem dX13_bindsPair_68 : decode cX13_bindsPair 68 = .ok (.iload 6, 2) := by decide +kernel
theorem dX13_bindsPair_70 : decode cX13_bindsPair 70 = .ok (.iaload, 1) := by decide +kernel
theorem dX13_bindsPair_71 : decode cX13_bindsPair 71 = .ok (.istore 6, 2) := by decide +kernel
theorem dX13_bindsPair_73 : decode cX13_bindsPair 73 = .ok (.goto (-44), 3) := by decide +kernel
theorem dX13_bindsPair_76 : decode cX13_bindsPair 76 = .ok (.iload 5, 2) := by decide +kernel
theorem dX13_bindsPair_78 : decode cX13_bindsPair 78 = .ok (.ifCond .ne 13, 3) := by decide +kernel
theorem dX13_bindsPair_81 : decode cX13_bindsPair 81 = .ok (.aload_n 3, 1) := by decide +kernel
theorem dX13_bindsPair_82 : decode cX13_bindsPair 82 = .ok (.getfield 209, 3) := by decide +kernel
theorem dX13_bindsPair_85 : decode cX13_bindsPair 85 = .ok (.iload 4, 2) := by decide +kernel
theorem dX13_bindsPair_87 : decode cX13_bindsPair 87 = .ok (.iaload, 1) := by decide +kernel
theorem dX13_bindsPair_88 : decode cX13_bindsPair 88 = .ok (.ifCond .eq 19, 3) := by decide +kernel
theorem dX13_bindsPair_91 : decode cX13_bindsPair 91 = .ok (.aload_n 0, 1) := by decide +kernel
theorem dX13_bindsPair_92 : decode cX13_bindsPair 92 = .ok (.iconst 5, 1) := by decide +kernel
theorem dX13_bindsPair_93 : decode cX13_bindsPair 93 = .ok (.aload_n 3, 1) := by decide +kernel
theorem dX13_bindsPair_94 : decode cX13_bindsPair 94 = .ok (.getfield 241, 3) := by decide +kernel
theorem dX13_bindsPair_97 : decode cX13_bindsPair 97 = .ok (.aload_n 3, 1) := by decide +kernel
theorem dX13_bindsPair_98 : decode cX13_bindsPair 98 = .ok (.getfield 243, 3) := by decide +kernel
theorem dX13_bindsPair_101 : decode cX13_bindsPair 101 = .ok (.iload_n 2, 1) := by decide +kernel
theorem dX13_bindsPair_102 : decode cX13_bindsPair 102 = .ok (.iaload, 1) := by decide +kernel
theorem dX13_bindsPair_103 : decode cX13_bindsPair 103 = .ok (.iaload, 1) := by decide +kernel
theorem dX13_bindsPair_104 : decode cX13_bindsPair 104 = .ok (.invokevirtual 317, 3) := by decide +kernel
theorem dX13_bindsPair_107 : decode cX13_bindsPair 107 = .ok (.return_, 1) := by decide +kernel
theorem dX13_build_0 : decode cX13_build 0 = .ok (.iload_n 1, 1) := by decide +kernel
theorem dX13_build_1 : decode cX13_build 1 = .ok (.ifCond .lt 11, 3) := by decide +kernel
theorem dX13_build_4 : decode cX13_build 4 = .ok (.iload_n 1, 1) := by decide +kernel
theorem dX13_build_5 : decode cX13_build 5 = .ok (.aload_n 0, 1) := by decide +kernel
theorem dX13_build_6 : decode cX13_build 6 = .ok (.getfield 125, 3) := by decide +kernel
theorem dX13_build_9 : decode cX13_build 9 = .ok (.if_icmp .le 6, 3) := by decide +kernel
theorem dX13_build_12 : decode cX13_build 12 = .ok (.bipush (-2), 2) := by decide +kernel
theorem dX13_build_14 : decode cX13_build 14 = .ok (.ireturn, 1) := by decide +kernel
theorem dX13_build_15 : decode cX13_build 15 = .ok (.aload_n 0, 1) := by decide +kernel
theorem dX13_build_16 : decode cX13_build 16 = .ok (.iload_n 1, 1) := by decide +kernel
theorem dX13_build_17 : decode cX13_build 17 = .ok (.putfield 139, 3) := by decide +kernel
theorem dX13_build_20 : decode cX13_build 20 = .ok (.iconst 0, 1) := by decide +kernel
theorem dX13_build_21 : decode cX13_build 21 = .ok (.istore_n 2, 1) := by decide +kernel
theorem dX13_build_22 : decode cX13_build 22 = .ok (.iload_n 2, 1) := by decide +kernel
theorem dX13_build_23 : decode cX13_build 23 = .ok (.iload_n 1, 1) := by decide +kernel
theorem dX13_build_24 : decode cX13_build 24 = .ok (.if_icmp .ge 21, 3) := by decide +kernel
theorem dX13_build_27 : decode cX13_build 27 = .ok (.aload_n 0, 1) := by decide +kernel
theorem dX13_build_28 : decode cX13_build 28 = .ok (.getfield 17, 3) := by decide +kernel
theorem dX13_build_31 : decode cX13_build 31 = .ok (.iload_n 2, 1) := by decide +kernel
theorem dX13_build_32 : decode cX13_build 32 = .ok (.aload_n 0, 1) := by decide +kernel
theorem dX13_build_33 : decode cX13_build 33 = .ok (.getfield 9, 3) := by decide +kernel
theorem dX13_build_36 : decode cX13_build 36 = .ok (.iload_n 2, 1) := by decide +kernel
theorem dX13_build_37 : decode cX13_build 37 = .ok (.baload, 1) := by decide +kernel
theorem dX13_build_38 : decode cX13_build 38 = .ok (.bastore, 1) := by decide +kernel
theorem dX13_build_39 : decode cX13_build 39 = .ok (.iinc 2 1, 3) := by decide +kernel
theorem dX13_build_42 : decode cX13_build 42 = .ok (.goto (-20), 3) := by decide +kernel
theorem dX13_build_45 : decode cX13_build 45 = .ok (.aload_n 0, 1) := by decide +kernel
theorem dX13_build_46 : decode cX13_build 46 = .ok (.iconst 0, 1) := by decide +kernel
theorem dX13_build_47 : decode cX13_build 47 = .ok (.putfield 125, 3) := by decide +kernel
theorem dX13_build_50 : decode cX13_build 50 = .ok (.aload_n 0, 1) := by decide +kernel
theorem dX13_build_51 : decode cX13_build 51 = .ok (.iconst 0, 1) := by decide +kernel
theorem dX13_build_52 : decode cX13_build 52 = .ok (.putfield 223, 3) := by decide +kernel
theorem dX13_build_55 : decode cX13_build 55 = .ok (.aload_n 0, 1) := by decide +kernel
theorem dX13_build_56 : decode cX13_build 56 = .ok (.iconst 0, 1) := by decide +kernel
theorem dX13_build_57 : decode cX13_build 57 = .ok (.putfield 283, 3) := by decide +kernel
theorem dX13_build_60 : decode cX13_build 60 = .ok (.aload_n 0, 1) := by decide +kernel
theorem dX13_build_61 : decode cX13_build 61 = .ok (.getfield 47, 3) := by decide +kernel
theorem dX13_build_64 : decode cX13_build 64 = .ok (.invokevirtual 389, 3) := by decide +kernel
theorem dX13_build_67 : decode cX13_build 67 = .ok (.aload_n 0, 1) := by decide +kernel
theorem dX13_build_68 : decode cX13_build 68 = .ok (.invokevirtual 392, 3) := by decide +kernel
theorem dX13_build_71 : decode cX13_build 71 = .ok (.aload_n 0, 1) := by decide +kernel
theorem dX13_build_72 : decode cX13_build 72 = .ok (.iconst 0, 1) := by decide +kernel
theorem dX13_build_73 : decode cX13_build 73 = .ok (.putfield 226, 3) := by decide +kernel
theorem dX13_build_76 : decode cX13_build 76 = .ok (.aload_n 0, 1) := by decide +kernel
theorem dX13_build_77 : decode cX13_build 77 = .ok (.iconst 0, 1) := by decide +kernel
theorem dX13_build_78 : decode cX13_build 78 = .ok (.putfield 268, 3) := by decide +kernel
theorem dX13_build_81 : decode cX13_build 81 = .ok (.aload_n 0, 1) := by decide +kernel
theorem dX13_build_82 : decode cX13_build 82 = .ok (.invokevirtual 395, 3) := by decide +kernel
theorem dX13_build_85 : decode cX13_build 85 = .ok (.aload_n 0, 1) := by decide +kernel
theorem dX13_build_86 : decode cX13_build 86 = .ok (.invokevirtual 398, 3) := by decide +kernel
theorem dX13_build_89 : decode cX13_build 89 = .ok (.goto 9, 3) := by decide +kernel
theorem dX13_build_92 : decode cX13_build 92 = .ok (.astore_n 2, 1) := by decide +kernel
theorem dX13_build_93 : decode cX13_build 93 = .ok (.aload_n 0, 1) := by decide +kernel
theorem dX13_build_94 : decode cX13_build 94 = .ok (.iconst 0, 1) := by decide +kernel
theorem dX13_build_95 : decode cX13_build 95 = .ok (.putfield 283, 3) := by decide +kernel
theorem dX13_build_98 : decode cX13_build 98 = .ok (.aload_n 0, 1) := by decide +kernel
theorem dX13_build_99 : decode cX13_build 99 = .ok (.aload_n 0, 1) := by decide +kernel
theorem dX13_build_100 : decode cX13_build 100 = .ok (.getfield 223, 3) := by decide +kernel
theorem dX13_build_103 : decode cX13_build 103 = .ok (.ifCond .le 10, 3) := by decide +kernel
theorem dX13_build_106 : decode cX13_build 106 = .ok (.aload_n 0, 1) := by decide +kernel
theorem dX13_build_107 : decode cX13_build 107 = .ok (.getfield 223, 3) := by decide +kernel
theorem dX13_build_110 : decode cX13_build 110 = .ok (.goto 7, 3) := by decide +kernel
theorem dX13_build_113 : decode cX13_build 113 = .ok (.aload_n 0, 1) := by decide +kernel
theorem dX13_build_114 : decode cX13_build 114 = .ok (.getfield 283, 3) := by decide +kernel
theorem dX13_build_117 : decode cX13_build 117 = .ok (.putfield 401, 3) := by decide +kernel
theorem dX13_build_120 : decode cX13_build 120 = .ok (.aload_n 0, 1) := by decide +kernel
theorem dX13_build_121 : decode cX13_build 121 = .ok (.aload_n 0, 1) := by decide +kernel
theorem dX13_build_122 : decode cX13_build 122 = .ok (.getfield 223, 3) := by decide +kernel
theorem dX13_build_125 : decode cX13_build 125 = .ok (.ifCond .le 10, 3) := by decide +kernel
theorem dX13_build_128 : decode cX13_build 128 = .ok (.aload_n 0, 1) := by decide +kernel
theorem dX13_build_129 : decode cX13_build 129 = .ok (.getfield 229, 3) := by decide +kernel
theorem dX13_build_132 : decode cX13_build 132 = .ok (.goto 18, 3) := by decide +kernel
theorem dX13_build_135 : decode cX13_build 135 = .ok (.aload_n 0, 1) := by decide +kernel
theorem dX13_build_136 : decode cX13_build 136 = .ok (.getfield 283, 3) := by decide +kernel
theorem dX13_build_139 : decode cX13_build 139 = .ok (.ifCond .le 10, 3) := by decide +kernel
theorem dX13_build_142 : decode cX13_build 142 = .ok (.aload_n 0, 1) := by decide +kernel
theorem dX13_build_143 : decode cX13_build 143 = .ok (.getfield 286, 3) := by decide +kernel
theorem dX13_build_146 : decode cX13_build 146 = .ok (.goto 4, 3) := by decide +kernel
theorem dX13_build_149 : decode cX13_build 149 = .ok (.iconst (-1), 1) := by decide +kernel
theorem dX13_build_150 : decode cX13_build 150 = .ok (.putfield 13, 3) := by decide +kernel
theorem dX13_build_153 : decode cX13_build 153 = .ok (.aload_n 0, 1) := by decide +kernel
theorem dX13_build_154 : decode cX13_build 154 = .ok (.getfield 401, 3) := by decide +kernel
theorem dX13_build_157 : decode cX13_build 157 = .ok (.ifCond .le 5, 3) := by decide +kernel
theorem dX13_build_160 : decode cX13_build 160 = .ok (.iconst (-1), 1) := by decide +kernel
theorem dX13_build_161 : decode cX13_build 161 = .ok (.ireturn, 1) := by decide +kernel
theorem dX13_build_162 : decode cX13_build 162 = .ok (.aload_n 0, 1) := by decide +kernel
theorem dX13_build_163 : decode cX13_build 163 = .ok (.getfield 43, 3) := by decide +kernel
theorem dX13_build_166 : decode cX13_build 166 = .ok (.astore_n 2, 1) := by decide +kernel
theorem dX13_build_167 : decode cX13_build 167 = .ok (.aload_n 0, 1) := by decide +kernel
theorem dX13_build_168 : decode cX13_build 168 = .ok (.aload_n 0, 1) := by decide +kernel
theorem dX13_build_169 : decode cX13_build 169 = .ok (.getfield 47, 3) := by decide +kernel
theorem dX13_build_172 : decode cX13_build 172 = .ok (.putfield 43, 3) := by decide +kernel
theorem dX13_build_175 : decode cX13_build 175 = .ok (.aload_n 0, 1) := by decide +kernel
theorem dX13_build_176 : decode cX13_build 176 = .ok (.aload_n 2, 1) := by decide +kernel
theorem dX13_build_177 : decode cX13_build 177 = .ok (.putfield 47, 3) := by decide +kernel
theorem dX13_build_180 : decode cX13_build 180 = .ok (.aload_n 0, 1) := by decide +kernel
theorem dX13_build_181 : decode cX13_build 181 = .ok (.iconst 1, 1) := by decide +kernel
theorem dX13_build_182 : decode cX13_build 182 = .ok (.putfield 404, 3) := by decide +kernel
theorem dX13_build_185 : decode cX13_build 185 = .ok (.aload_n 0, 1) := by decide +kernel
theorem dX13_build_186 : decode cX13_build 186 = .ok (.invokevirtual 408, 3) := by decide +kernel
theorem dX13_build_189 : decode cX13_build 189 = .ok (.iconst 0, 1) := by decide +kernel
theorem dX13_build_190 : decode cX13_build 190 = .ok (.ireturn, 1) := by decide +kernel
theorem dX13_fault_0 : decode cX13_fault 0 = .ok (.iload_n 1, 1) := by decide +kernel
theorem dX13_fault_1 : decode cX13_fault 1 = .ok (.ifCond .ne 10, 3) := by decide +kernel
theorem dX13_fault_4 : decode cX13_fault 4 = .ok (.aload_n 0, 1) := by decide +kernel
theorem dX13_fault_5 : decode cX13_fault 5 = .ok (.getfield 401, 3) := by decide +kernel
theorem dX13_fault_8 : decode cX13_fault 8 = .ok (.goto 16, 3) := by decide +kernel
theorem dX13_fault_11 : decode cX13_fault 11 = .ok (.iload_n 1, 1) := by decide +kernel
theorem dX13_fault_12 : decode cX13_fault 12 = .ok (.iconst 1, 1) := by decide +kernel
theorem dX13_fault_13 : decode cX13_fault 13 = .ok (.if_icmp .ne 10, 3) := by decide +kernel
theorem dX13_fault_16 : decode cX13_fault 16 = .ok (.aload_n 0, 1) := by decide +kernel
theorem dX13_fault_17 : decode cX13_fault 17 = .ok (.getfield 13, 3) := by decide +kernel
theorem dX13_fault_20 : decode cX13_fault 20 = .ok (.goto 4, 3) := by decide +kernel
theorem dX13_fault_23 : decode cX13_fault 23 = .ok (.iconst (-1), 1) := by decide +kernel
theorem dX13_fault_24 : decode cX13_fault 24 = .ok (.ireturn, 1) := by decide +kernel
theorem dX13_value_0 : decode cX13_value 0 = .ok (.iload_n 0, 1) := by decide +kernel
theorem dX13_value_1 : decode cX13_value 1 = .ok (.i2l, 1) := by decide +kernel
theorem dX13_value_2 : decode cX13_value 2 = .ok (.bipush 32, 2) := by decide +kernel
theorem dX13_value_4 : decode cX13_value 4 = .ok (.lshl, 1) := by decide +kernel
theorem dX13_value_5 : decode cX13_value 5 = .ok (.iload_n 1, 1) := by decide +kernel
theorem dX13_value_6 : decode cX13_value 6 = .ok (.i2l, 1) := by decide +kernel
theorem dX13_value_7 : decode cX13_value 7 = .ok (.ldc2_w 411, 3) := by decide +kernel
theorem dX13_value_10 : decode cX13_value 10 = .ok (.land, 1) := by decide +kernel
theorem dX13_value_11 : decode cX13_value 11 = .ok (.lor, 1) := by decide +kernel
theorem dX13_value_12 : decode cX13_value 12 = .ok (.lreturn, 1) := by decide +kernel
theorem dX13_kindOf_0 : decode cX13_kindOf 0 = .ok (.lload_n 0, 1) := by decide +kernel
theorem dX13_kindOf_1 : decode cX13_kindOf 1 = .ok (.bipush 32, 2) := by decide +kernel
theorem dX13_kindOf_3 : decode cX13_kindOf 3 = .ok (.lshr, 1) := by decide +kernel
theorem dX13_kindOf_4 : decode cX13_kindOf 4 = .ok (.l2i, 1) := by decide +kernel
theorem dX13_kindOf_5 : decode cX13_kindOf 5 = .ok (.ireturn, 1) := by decide +kernel
theorem dX13_whichOf_0 : decode cX13_whichOf 0 = .ok (.lload_n 0, 1) := by decide +kernel
theorem dX13_whichOf_1 : decode cX13_whichOf 1 = .ok (.l2i, 1) := by decide +kernel
theorem dX13_whichOf_2 : decode cX13_whichOf 2 = .ok (.ireturn, 1) := by decide +kernel
theorem dX13_truth_0 : decode cX13_truth 0 = .ok (.iload_n 0, 1) := by decide +kernel
theorem dX13_truth_1 : decode cX13_truth 1 = .ok (.ifCond .eq 9, 3) := by decide +kernel
theorem dX13_truth_4 : decode cX13_truth 4 = .ok (.ldc2_w 413, 3) := by decide +kernel
theorem dX13_truth_7 : decode cX13_truth 7 = .ok (.goto 6, 3) := by decide +kernel
theorem dX13_truth_10 : decode cX13_truth 10 = .ok (.ldc2_w 415, 3) := by decide +kernel
theorem dX13_truth_13 : decode cX13_truth 13 = .ok (.lreturn, 1) := by decide +kernel
theorem dX13_pair_0 : decode cX13_pair 0 = .ok (.aload_n 0, 1) := by decide +kernel
theorem dX13_pair_1 : decode cX13_pair 1 = .ok (.getfield 69, 3) := by decide +kernel
theorem dX13_pair_4 : decode cX13_pair 4 = .ok (.aload_n 0, 1) := by decide +kernel
theorem dX13_pair_5 : decode cX13_pair 5 = .ok (.getfield 417, 3) := by decide +kernel
theorem dX13_pair_8 : decode cX13_pair 8 = .ok (.lload_n 1, 1) := by decide +kernel
theorem dX13_pair_9 : decode cX13_pair 9 = .ok (.lastore, 1) := by decide +kernel
theorem dX13_pair_10 : decode cX13_pair 10 = .ok (.aload_n 0, 1) := by decide +kernel
theorem dX13_pair_11 : decode cX13_pair 11 = .ok (.getfield 73, 3) := by decide +kernel
theorem dX13_pair_14 : decode cX13_pair 14 = .ok (.aload_n 0, 1) := by decide +kernel
theorem dX13_pair_15 : decode cX13_pair 15 = .ok (.getfield 417, 3) := by decide +kernel
theorem dX13_pair_18 : decode cX13_pair 18 = .ok (.lload_n 3, 1) := by decide +kernel
theorem dX13_pair_19 : decode cX13_pair 19 = .ok (.lastore, 1) := by decide +kernel
theorem dX13_pair_20 : decode cX13_pair 20 = .ok (.aload_n 0, 1) := by decide +kernel
theorem dX13_pair_21 : decode cX13_pair 21 = .ok (.dup, 1) := by decide +kernel
theorem dX13_pair_22 : decode cX13_pair 22 = .ok (.getfield 417, 3) := by decide +kernel
theorem dX13_pair_25 : decode cX13_pair 25 = .ok (.iconst 1, 1) := by decide +kernel
theorem dX13_pair_26 : decode cX13_pair 26 = .ok (.iadd, 1) := by decide +kernel
theorem dX13_pair_27 : decode cX13_pair 27 = .ok (.putfield 417, 3) := by decide +kernel
theorem dX13_pair_30 : decode cX13_pair 30 = .ok (.bipush 6, 2) := by decide +kernel
theorem dX13_pair_32 : decode cX13_pair 32 = .ok (.aload_n 0, 1) := by decide +kernel
theorem dX13_pair_33 : decode cX13_pair 33 = .ok (.getfield 417, 3) := by decide +kernel
theorem dX13_pair_36 : decode cX13_pair 36 = .ok (.iconst 1, 1) := by decide +kernel
theorem dX13_pair_37 : decode cX13_pair 37 = .ok (.isub, 1) := by decide +kernel
theorem dX13_pair_38 : decode cX13_pair 38 = .ok (.invokestatic 420, 3) := by decide +kernel
theorem dX13_pair_41 : decode cX13_pair 41 = .ok (.lreturn, 1) := by decide +kernel
theorem dX13_quotes_0 : decode cX13_quotes 0 = .ok (.aload_n 0, 1) := by decide +kernel
theorem dX13_quotes_1 : decode cX13_quotes 1 = .ok (.iconst 0, 1) := by decide +kernel
theorem dX13_quotes_2 : decode cX13_quotes 2 = .ok (.putfield 417, 3) := by decide +kernel
theorem dX13_quotes_5 : decode cX13_quotes 5 = .ok (.iconst 0, 1) := by decide +kernel
theorem dX13_quotes_6 : decode cX13_quotes 6 = .ok (.istore_n 1, 1) := by decide +kernel
theorem dX13_quotes_7 : decode cX13_quotes 7 = .ok (.iload_n 1, 1) := by decide +kernel
theorem dX13_quotes_8 : decode cX13_quotes 8 = .ok (.aload_n 0, 1) := by decide +kernel
theorem dX13_quotes_9 : decode cX13_quotes 9 = .ok (.getfield 43, 3) := by decide +kernel
theorem dX13_quotes_12 : decode cX13_quotes 12 = .ok (.getfield 232, 3) := by decide +kernel
theorem dX13_quotes_15 : decode cX13_quotes 15 = .ok (.if_icmp .ge 16, 3) := by decide +kernel
theorem dX13_quotes_18 : decode cX13_quotes 18 = .ok (.aload_n 0, 1) := by decide +kernel
theorem dX13_quotes_19 : decode cX13_quotes 19 = .ok (.getfield 76, 3) := by decide +kernel
theorem dX13_quotes_22 : decode cX13_quotes 22 = .ok (.iload_n 1, 1) := by decide +kernel
theorem dX13_quotes_23 : decode cX13_quotes 23 = .ok (.lconst 0, 1) := by decide +kernel
theorem dX13_quotes_24 : decode cX13_quotes 24 = .ok (.lastore, 1) := by decide +kernel
theorem dX13_quotes_25 : decode cX13_quotes 25 = .ok (.iinc 1 1, 3) := by decide +kernel
theorem dX13_quotes_28 : decode cX13_quotes 28 = .ok (.goto (-21), 3) := by decide +kernel
theorem dX13_quotes_31 : decode cX13_quotes 31 = .ok (.aload_n 0, 1) := by decide +kernel
theorem dX13_quotes_32 : decode cX13_quotes 32 = .ok (.getfield 43, 3) := by decide +kernel
theorem dX13_quotes_35 : decode cX13_quotes 35 = .ok (.getfield 232, 3) := by decide +kernel
theorem dX13_quotes_38 : decode cX13_quotes 38 = .ok (.iconst 1, 1) := by decide +kernel
theorem dX13_quotes_39 : decode cX13_quotes 39 = .ok (.isub, 1) := by decide +kernel
theorem dX13_quotes_40 : decode cX13_quotes 40 = .ok (.istore_n 1, 1) := by decide +kernel
theorem dX13_quotes_41 : decode cX13_quotes 41 = .ok (.iload_n 1, 1) := by decide +kernel
theorem dX13_quotes_42 : decode cX13_quotes 42 = .ok (.ifCond .lt 20, 3) := by decide +kernel
theorem dX13_quotes_45 : decode cX13_quotes 45 = .ok (.aload_n 0, 1) := by decide +kernel
theorem dX13_quotes_46 : decode cX13_quotes 46 = .ok (.getfield 76, 3) := by decide +kernel
theorem dX13_quotes_49 : decode cX13_quotes 49 = .ok (.iload_n 1, 1) := by decide +kernel
theorem dX13_quotes_50 : decode cX13_quotes 50 = .ok (.aload_n 0, 1) := by decide +kernel
theorem dX13_quotes_51 : decode cX13_quotes 51 = .ok (.iload_n 1, 1) := by decide +kernel
theorem dX13_quotes_52 : decode cX13_quotes 52 = .ok (.invokevirtual 423, 3) := by decide +kernel
theorem dX13_quotes_55 : decode cX13_quotes 55 = .ok (.lastore, 1) := by decide +kernel
theorem dX13_quotes_56 : decode cX13_quotes 56 = .ok (.iinc 1 (-1), 3) := by decide +kernel
theorem dX13_quotes_59 : decode cX13_quotes 59 = .ok (.goto (-18), 3) := by decide +kernel
theorem dX13_quotes_62 : decode cX13_quotes 62 = .ok (.return_, 1) := by decide +kernel
theorem dX13_dataOf_0 : decode cX13_dataOf 0 = .ok (.aload_n 0, 1) := by decide +kernel
theorem dX13_dataOf_1 : decode cX13_dataOf 1 = .ok (.getfield 43, 3) := by decide +kernel
theorem dX13_dataOf_4 : decode cX13_dataOf 4 = .ok (.getfield 235, 3) := by decide +kernel
theorem dX13_dataOf_7 : decode cX13_dataOf 7 = .ok (.iload_n 1, 1) := by decide +kernel
theorem dX13_dataOf_8 : decode cX13_dataOf 8 = .ok (.iaload, 1) := by decide +kernel
theorem dX13_dataOf_9 : decode cX13_dataOf 9 = .ok (.tableswitch 67 0 3 #[31, 45, 49, 53], 31) := by decide +kernel
theorem dX13_dataOf_40 : decode cX13_dataOf 40 = .ok (.iconst 1, 1) := by decide +kernel
theorem dX13_dataOf_41 : decode cX13_dataOf 41 = .ok (.aload_n 0, 1) := by decide +kernel
theorem dX13_dataOf_42 : decode cX13_dataOf 42 = .ok (.getfield 43, 3) := by decide +kernel
theorem dX13_dataOf_45 : decode cX13_dataOf 45 = .ok (.getfield 238, 3) := by decide +kernel
theorem dX13_dataOf_48 : decode cX13_dataOf 48 = .ok (.iload_n 1, 1) := by decide +kernel
theorem dX13_dataOf_49 : decode cX13_dataOf 49 = .ok (.iaload, 1) := by decide +kernel
theorem dX13_dataOf_50 : decode cX13_dataOf 50 = .ok (.invokestatic 420, 3) := by decide +kernel
theorem dX13_dataOf_53 : decode cX13_dataOf 53 = .ok (.lreturn, 1) := by decide +kernel
theorem dX13_dataOf_54 : decode cX13_dataOf 54 = .ok (.ldc2_w 413, 3) := by decide +kernel
theorem dX13_dataOf_57 : decode cX13_dataOf 57 = .ok (.lreturn, 1) := by decide +kernel
theorem dX13_dataOf_58 : decode cX13_dataOf 58 = .ok (.ldc2_w 415, 3) := by decide +kernel
theorem dX13_dataOf_61 : decode cX13_dataOf 61 = .ok (.lreturn, 1) := by decide +kernel
theorem dX13_dataOf_62 : decode cX13_dataOf 62 = .ok (.iconst 5, 1) := by decide +kernel
theorem dX13_dataOf_63 : decode cX13_dataOf 63 = .ok (.aload_n 0, 1) := by decide +kernel
theorem dX13_dataOf_64 : decode cX13_dataOf 64 = .ok (.getfield 43, 3) := by decide +kernel
theorem dX13_dataOf_67 : decode cX13_dataOf 67 = .ok (.getfield 238, 3) := by decide +kernel
theorem dX13_dataOf_70 : decode cX13_dataOf 70 = .ok (.iload_n 1, 1) := by decide +kernel
theorem dX13_dataOf_71 : decode cX13_dataOf 71 = .ok (.iaload, 1) := by decide +kernel
theorem dX13_dataOf_72 : decode cX13_dataOf 72 = .ok (.invokestatic 420, 3) := by decide +kernel
theorem dX13_dataOf_75 : decode cX13_dataOf 75 = .ok (.lreturn, 1) := by decide +kernel
theorem dX13_dataOf_76 : decode cX13_dataOf 76 = .ok (.aload_n 0, 1) := by decide +kernel
theorem dX13_dataOf_77 : decode cX13_dataOf 77 = .ok (.iload_n 1, 1) := by decide +kernel
theorem dX13_dataOf_78 : decode cX13_dataOf 78 = .ok (.invokevirtual 427, 3) := by decide +kernel
theorem dX13_dataOf_81 : decode cX13_dataOf 81 = .ok (.lreturn, 1) := by decide +kernel
theorem dX13_listOf_0 : decode cX13_listOf 0 = .ok (.iconst 0, 1) := by decide +kernel
theorem dX13_listOf_1 : decode cX13_listOf 1 = .ok (.istore_n 2, 1) := by decide +kernel
theorem dX13_listOf_2 : decode cX13_listOf 2 = .ok (.aload_n 0, 1) := by decide +kernel
theorem dX13_listOf_3 : decode cX13_listOf 3 = .ok (.getfield 43, 3) := by decide +kernel
theorem dX13_listOf_6 : decode cX13_listOf 6 = .ok (.getfield 243, 3) := by decide +kernel
theorem dX13_listOf_9 : decode cX13_listOf 9 = .ok (.iload_n 1, 1) := by decide +kernel
theorem dX13_listOf_10 : decode cX13_listOf 10 = .ok (.iaload, 1) := by decide +kernel
theorem dX13_listOf_11 : decode cX13_listOf 11 = .ok (.istore_n 3, 1) := by decide +kernel
theorem dX13_listOf_12 : decode cX13_listOf 12 = .ok (.iload_n 3, 1) := by decide +kernel
theorem dX13_listOf_13 : decode cX13_listOf 13 = .ok (.iconst (-1), 1) := by decide +kernel
theorem dX13_listOf_14 : decode cX13_listOf 14 = .ok (.if_icmp .eq 26, 3) := by decide +kernel
theorem dX13_listOf_17 : decode cX13_listOf 17 = .ok (.aload_n 0, 1) := by decide +kernel
theorem dX13_listOf_18 : decode cX13_listOf 18 = .ok (.getfield 79, 3) := by decide +kernel
theorem dX13_listOf_21 : decode cX13_listOf 21 = .ok (.iload_n 2, 1) := by decide +kernel
theorem dX13_listOf_22 : decode cX13_listOf 22 = .ok (.iload_n 3, 1) := by decide +kernel
theorem dX13_listOf_23 : decode cX13_listOf 23 = .ok (.iastore, 1) := by decide +kernel
theorem dX13_listOf_24 : decode cX13_listOf 24 = .ok (.iinc 2 1, 3) := by decide +kernel
theorem dX13_listOf_27 : decode cX13_listOf 27 = .ok (.aload_n 0, 1) := by decide +kernel
theorem dX13_listOf_28 : decode cX13_listOf 28 = .ok (.getfield 43, 3) := by decide +kernel
theorem dX13_listOf_31 : decode cX13_listOf 31 = .ok (.getfield 246, 3) := by decide +kernel
theorem dX13_listOf_34 : decode cX13_listOf 34 = .ok (.iload_n 3, 1) := by decide +kernel
theorem dX13_listOf_35 : decode cX13_listOf 35 = .ok (.iaload, 1) := by decide +kernel
theorem dX13_listOf_36 : decode cX13_listOf 36 = .ok (.istore_n 3, 1) := by decide +kernel
theorem dX13_listOf_37 : decode cX13_listOf 37 = .ok (.goto (-25), 3) := by decide +kernel
theorem dX13_listOf_40 : decode cX13_listOf 40 = .ok (.ldc2_w 430, 3) := by decide +kernel
theorem dX13_listOf_43 : decode cX13_listOf 43 = .ok (.lstore_n 3, 1) := by decide +kernel
theorem dX13_listOf_44 : decode cX13_listOf 44 = .ok (.iload_n 2, 1) := by decide +kernel
theorem dX13_listOf_45 : decode cX13_listOf 45 = .ok (.iconst 1, 1) := by decide +kernel
theorem dX13_listOf_46 : decode cX13_listOf 46 = .ok (.isub, 1) := by decide +kernel
theorem dX13_listOf_47 : decode cX13_listOf 47 = .ok (.istore 5, 2) := by decide +kernel
theorem dX13_listOf_49 : decode cX13_listOf 49 = .ok (.iload 5, 2) := by decide +kernel
theorem dX13_listOf_51 : decode cX13_listOf 51 = .ok (.ifCond .lt 27, 3) := by decide +kernel
theorem dX13_listOf_54 : decode cX13_listOf 54 = .ok (.aload_n 0, 1) := by decide +kernel
theorem dX13_listOf_55 : decode cX13_listOf 55 = .ok (.aload_n 0, 1) := by decide +kernel
theorem dX13_listOf_56 : decode cX13_listOf 56 = .ok (.getfield 76, 3) := by decide +kernel
theorem dX13_listOf_59 : decode cX13_listOf 59 = .ok (.aload_n 0, 1) := by decide +kernel
theorem dX13_listOf_60 : decode cX13_listOf 60 = .ok (.getfield 79, 3) := by decide +kernel
theorem dX13_listOf_63 : decode cX13_listOf 63 = .ok (.iload 5, 2) := by decide +kernel
theorem dX13_listOf_65 : decode cX13_listOf 65 = .ok (.iaload, 1) := by decide +kernel
theorem dX13_listOf_66 : decode cX13_listOf 66 = .ok (.laload, 1) := by decide +kernel
theorem dX13_listOf_67 : decode cX13_listOf 67 = .ok (.lload_n 3, 1) := by decide +kernel
theorem dX13_listOf_68 : decode cX13_listOf 68 = .ok (.invokevirtual 432, 3) := by decide +kernel
theorem dX13_listOf_71 : decode cX13_listOf 71 = .ok (.lstore_n 3, 1) := by decide +kernel
theorem dX13_listOf_72 : decode cX13_listOf 72 = .ok (.iinc 5 (-1), 3) := by decide +kernel
theorem dX13_listOf_75 : decode cX13_listOf 75 = .ok (.goto (-26), 3) := by decide +kernel
theorem dX13_listOf_78 : decode cX13_listOf 78 = .ok (.lload_n 3, 1) := by decide +kernel
theorem dX13_listOf_79 : decode cX13_listOf 79 = .ok (.lreturn, 1) := by decide +kernel
theorem dX13_freesAll_0 : decode cX13_freesAll 0 = .ok (.aload_n 0, 1) := by decide +kernel
theorem dX13_freesAll_1 : decode cX13_freesAll 1 = .ok (.iconst (-1), 1) := by decide +kernel
theorem dX13_freesAll_2 : decode cX13_freesAll 2 = .ok (.putfield 435, 3) := by decide +kernel
theorem dX13_freesAll_5 : decode cX13_freesAll 5 = .ok (.aload_n 0, 1) := by decide +kernel
theorem dX13_freesAll_6 : decode cX13_freesAll 6 = .ok (.getfield 92, 3) := by decide +kernel
theorem dX13_freesAll_9 : decode cX13_freesAll 9 = .ok (.arraylength, 1) := by decide +kernel
theorem dX13_freesAll_10 : decode cX13_freesAll 10 = .ok (.iconst 1, 1) := by decide +kernel
theorem dX13_freesAll_11 : decode cX13_freesAll 11 = .ok (.isub, 1) := by decide +kernel
theorem dX13_freesAll_12 : decode cX13_freesAll 12 = .ok (.istore_n 1, 1) := by decide +kernel
theorem dX13_freesAll_13 : decode cX13_freesAll 13 = .ok (.iload_n 1, 1) := by decide +kernel
theorem dX13_freesAll_14 : decode cX13_freesAll 14 = .ok (.ifCond .lt 24, 3) := by decide +kernel
theorem dX13_freesAll_17 : decode cX13_freesAll 17 = .ok (.aload_n 0, 1) := by decide +kernel
theorem dX13_freesAll_18 : decode cX13_freesAll 18 = .ok (.getfield 95, 3) := by decide +kernel
theorem dX13_freesAll_21 : decode cX13_freesAll 21 = .ok (.iload_n 1, 1) := by decide +kernel
theorem dX13_freesAll_22 : decode cX13_freesAll 22 = .ok (.aload_n 0, 1) := by decide +kernel
theorem dX13_freesAll_23 : decode cX13_freesAll 23 = .ok (.getfield 435, 3) := by decide +kernel
theorem dX13_freesAll_26 : decode cX13_freesAll 26 = .ok (.iastore, 1) := by decide +kernel
theorem dX13_freesAll_27 : decode cX13_freesAll 27 = .ok (.aload_n 0, 1) := by decide +kernel
theorem dX13_freesAll_28 : decode cX13_freesAll 28 = .ok (.iload_n 1, 1) := by decide +kernel
theorem dX13_freesAll_29 : decode cX13_freesAll 29 = .ok (.putfield 435, 3) := by decide +kernel
theorem dX13_freesAll_32 : decode cX13_freesAll 32 = .ok (.iinc 1 (-1), 3) := by decide +kernel
theorem dX13_freesAll_35 : decode cX13_freesAll 35 = .ok (.goto (-22), 3) := by decide +kernel
theorem dX13_freesAll_38 : decode cX13_freesAll 38 = .ok (.return_, 1) := by decide +kernel
theorem dX13_newBox_0 : decode cX13_newBox 0 = .ok (.aload_n 0, 1) := by decide +kernel
theorem dX13_newBox_1 : decode cX13_newBox 1 = .ok (.getfield 435, 3) := by decide +kernel
theorem dX13_newBox_4 : decode cX13_newBox 4 = .ok (.iconst (-1), 1) := by decide +kernel
theorem dX13_newBox_5 : decode cX13_newBox 5 = .ok (.if_icmp .ne 7, 3) := by decide +kernel
theorem dX13_newBox_8 : decode cX13_newBox 8 = .ok (.aload_n 0, 1) := by decide +kernel
theorem dX13_newBox_9 : decode cX13_newBox 9 = .ok (.invokevirtual 438, 3) := by decide +kernel
theorem dX13_newBox_12 : decode cX13_newBox 12 = .ok (.aload_n 0, 1) := by decide +kernel
theorem dX13_newBox_13 : decode cX13_newBox 13 = .ok (.getfield 435, 3) := by decide +kernel
theorem dX13_newBox_16 : decode cX13_newBox 16 = .ok (.istore_n 3, 1) := by decide +kernel
theorem dX13_newBox_17 : decode cX13_newBox 17 = .ok (.aload_n 0, 1) := by decide +kernel
theorem dX13_newBox_18 : decode cX13_newBox 18 = .ok (.aload_n 0, 1) := by decide +kernel
theorem dX13_newBox_19 : decode cX13_newBox 19 = .ok (.getfield 95, 3) := by decide +kernel
theorem dX13_newBox_22 : decode cX13_newBox 22 = .ok (.iload_n 3, 1) := by decide +kernel
theorem dX13_newBox_23 : decode cX13_newBox 23 = .ok (.iaload, 1) := by decide +kernel
theorem dX13_newBox_24 : decode cX13_newBox 24 = .ok (.putfield 435, 3) := by decide +kernel
theorem dX13_newBox_27 : decode cX13_newBox 27 = .ok (.aload_n 0, 1) := by decide +kernel
theorem dX13_newBox_28 : decode cX13_newBox 28 = .ok (.getfield 92, 3) := by decide +kernel
theorem dX13_newBox_31 : decode cX13_newBox 31 = .ok (.iload_n 3, 1) := by decide +kernel
theorem dX13_newBox_32 : decode cX13_newBox 32 = .ok (.lload_n 1, 1) := by decide +kernel
theorem dX13_newBox_33 : decode cX13_newBox 33 = .ok (.lastore, 1) := by decide +kernel
theorem dX13_newBox_34 : decode cX13_newBox 34 = .ok (.iload_n 3, 1) := by decide +kernel
theorem dX13_newBox_35 : decode cX13_newBox 35 = .ok (.ireturn, 1) := by decide +kernel
theorem dX13_collects_0 : decode cX13_collects 0 = .ok (.iconst 0, 1) := by decide +kernel
theorem dX13_collects_1 : decode cX13_collects 1 = .ok (.istore_n 1, 1) := by decide +kernel
theorem dX13_collects_2 : decode cX13_collects 2 = .ok (.iload_n 1, 1) := by decide +kernel
theorem dX13_collects_3 : decode cX13_collects 3 = .ok (.aload_n 0, 1) := by decide +kernel
theorem dX13_collects_4 : decode cX13_collects 4 = .ok (.getfield 92, 3) := by decide +kernel
theorem dX13_collects_7 : decode cX13_collects 7 = .ok (.arraylength, 1) := by decide +kernel
theorem dX13_collects_8 : decode cX13_collects 8 = .ok (.if_icmp .ge 16, 3) := by decide +kernel
theorem dX13_collects_11 : decode cX13_collects 11 = .ok (.aload_n 0, 1) := by decide +kernel
theorem dX13_collects_12 : decode cX13_collects 12 = .ok (.getfield 95, 3) := by decide +kernel
theorem dX13_collects_15 : decode cX13_collects 15 = .ok (.iload_n 1, 1) := by decide +kernel
theorem dX13_collects_16 : decode cX13_collects 16 = .ok (.iconst (-1), 1) := by decide +kernel
theorem dX13_collects_17 : decode cX13_collects 17 = .ok (.iastore, 1) := by decide +kernel
theorem dX13_collects_18 : decode cX13_collects 18 = .ok (.iinc 1 1, 3) := by decide +kernel
theorem dX13_collects_21 : decode cX13_collects 21 = .ok (.goto (-19), 3) := by decide +kernel
theorem dX13_collects_24 : decode cX13_collects 24 = .ok (.iconst 0, 1) := by decide +kernel
theorem dX13_collects_25 : decode cX13_collects 25 = .ok (.istore_n 1, 1) := by decide +kernel
theorem dX13_collects_26 : decode cX13_collects 26 = .ok (.iload_n 1, 1) := by decide +kernel
theorem dX13_collects_27 : decode cX13_collects 27 = .ok (.aload_n 0, 1) := by decide +kernel
theorem dX13_collects_28 : decode cX13_collects 28 = .ok (.getfield 441, 3) := by decide +kernel
theorem dX13_collects_31 : decode cX13_collects 31 = .ok (.if_icmp .ge 22, 3) := by decide +kernel
theorem dX13_collects_34 : decode cX13_collects 34 = .ok (.aload_n 0, 1) := by decide +kernel
theorem dX13_collects_35 : decode cX13_collects 35 = .ok (.getfield 95, 3) := by decide +kernel
theorem dX13_collects_38 : decode cX13_collects 38 = .ok (.aload_n 0, 1) := by decide +kernel
theorem dX13_collects_39 : decode cX13_collects 39 = .ok (.getfield 89, 3) := by decide +kernel
theorem dX13_collects_42 : decode cX13_collects 42 = .ok (.iload_n 1, 1) := by decide +kernel
theorem dX13_collects_43 : decode cX13_collects 43 = .ok (.iaload, 1) := by decide +kernel
theorem dX13_collects_44 : decode cX13_collects 44 = .ok (.bipush (-2), 2) := by decide +kernel
theorem dX13_collects_46 : decode cX13_collects 46 = .ok (.iastore, 1) := by decide +kernel
theorem dX13_collects_47 : decode cX13_collects 47 = .ok (.iinc 1 1, 3) := by decide +kernel
theorem dX13_collects_50 : decode cX13_collects 50 = .ok (.goto (-24), 3) := by decide +kernel
theorem dX13_collects_53 : decode cX13_collects 53 = .ok (.iconst 0, 1) := by decide +kernel
theorem dX13_collects_54 : decode cX13_collects 54 = .ok (.istore_n 1, 1) := by decide +kernel
theorem dX13_collects_55 : decode cX13_collects 55 = .ok (.iload_n 1, 1) := by decide +kernel
theorem dX13_collects_56 : decode cX13_collects 56 = .ok (.aload_n 0, 1) := by decide +kernel
theorem dX13_collects_57 : decode cX13_collects 57 = .ok (.getfield 444, 3) := by decide +kernel
theorem dX13_collects_60 : decode cX13_collects 60 = .ok (.if_icmp .ge 32, 3) := by decide +kernel
theorem dX13_collects_63 : decode cX13_collects 63 = .ok (.aload_n 0, 1) := by decide +kernel
theorem dX13_collects_64 : decode cX13_collects 64 = .ok (.getfield 98, 3) := by decide +kernel
theorem dX13_collects_67 : decode cX13_collects 67 = .ok (.iload_n 1, 1) := by decide +kernel
theorem dX13_collects_68 : decode cX13_collects 68 = .ok (.iaload, 1) := by decide +kernel
theorem dX13_collects_69 : decode cX13_collects 69 = .ok (.iconst (-1), 1) := by decide +kernel
theorem dX13_collects_70 : decode cX13_collects 70 = .ok (.if_icmp .eq 16, 3) := by decide +kernel
theorem dX13_collects_73 : decode cX13_collects 73 = .ok (.aload_n 0, 1) := by decide +kernel
theorem dX13_collects_74 : decode cX13_collects 74 = .ok (.getfield 95, 3) := by decide +kernel
theorem dX13_collects_77 : decode cX13_collects 77 = .ok (.aload_n 0, 1) := by decide +kernel
theorem dX13_collects_78 : decode cX13_collects 78 = .ok (.getfield 98, 3) := by decide +kernel
theorem dX13_collects_81 : decode cX13_collects 81 = .ok (.iload_n 1, 1) := by decide +kernel
theorem dX13_collects_82 : decode cX13_collects 82 = .ok (.iaload, 1) := by decide +kernel
theorem dX13_collects_83 : decode cX13_collects 83 = .ok (.bipush (-2), 2) := by decide +kernel
theorem dX13_collects_85 : decode cX13_collects 85 = .ok (.iastore, 1) := by decide +kernel
theorem dX13_collects_86 : decode cX13_collects 86 = .ok (.iinc 1 1, 3) := by decide +kernel
theorem dX13_collects_89 : decode cX13_collects 89 = .ok (.goto (-34), 3) := by decide +kernel
theorem dX13_collects_92 : decode cX13_collects 92 = .ok (.aload_n 0, 1) := by decide +kernel
theorem dX13_collects_93 : decode cX13_collects 93 = .ok (.iconst (-1), 1) := by decide +kernel
theorem dX13_collects_94 : decode cX13_collects 94 = .ok (.putfield 435, 3) := by decide +kernel
theorem dX13_collects_97 : decode cX13_collects 97 = .ok (.iconst 0, 1) := by decide +kernel
theorem dX13_collects_98 : decode cX13_collects 98 = .ok (.istore_n 1, 1) := by decide +kernel
theorem dX13_collects_99 : decode cX13_collects 99 = .ok (.aload_n 0, 1) := by decide +kernel
theorem dX13_collects_100 : decode cX13_collects 100 = .ok (.getfield 92, 3) := by decide +kernel
theorem dX13_collects_103 : decode cX13_collects 103 = .ok (.arraylength, 1) := by decide +kernel
theorem dX13_collects_104 : decode cX13_collects 104 = .ok (.iconst 1, 1) := by decide +kernel
theorem dX13_collects_105 : decode cX13_collects 105 = .ok (.isub, 1) := by decide +kernel
theorem dX13_collects_106 : decode cX13_collects 106 = .ok (.istore_n 2, 1) := by decide +kernel
theorem dX13_collects_107 : decode cX13_collects 107 = .ok (.iload_n 2, 1) := by decide +kernel
theorem dX13_collects_108 : decode cX13_collects 108 = .ok (.ifCond .lt 41, 3) := by decide +kernel
theorem dX13_collects_111 : decode cX13_collects 111 = .ok (.aload_n 0, 1) := by decide +kernel
theorem dX13_collects_112 : decode cX13_collects 112 = .ok (.getfield 95, 3) := by decide +kernel
theorem dX13_collects_115 : decode cX13_collects 115 = .ok (.iload_n 2, 1) := by decide +kernel
theorem dX13_collects_116 : decode cX13_collects 116 = .ok (.iaload, 1) := by decide +kernel
theorem dX13_collects_117 : decode cX13_collects 117 = .ok (.bipush (-2), 2) := by decide +kernel
theorem dX13_collects_119 : decode cX13_collects 119 = .ok (.if_icmp .ne 6, 3) := by decide +kernel
theorem dX13_collects_122 : decode cX13_collects 122 = .ok (.goto 21, 3) := by decide +kernel
theorem dX13_collects_125 : decode cX13_collects 125 = .ok (.aload_n 0, 1) := by decide +kernel
theorem dX13_collects_126 : decode cX13_collects 126 = .ok (.getfield 95, 3) := by decide +kernel
theorem dX13_collects_129 : decode cX13_collects 129 = .ok (.iload_n 2, 1) := by decide +kernel
theorem dX13_collects_130 : decode cX13_collects 130 = .ok (.aload_n 0, 1) := by decide +kernel
theorem dX13_collects_131 : decode cX13_collects 131 = .ok (.getfield 435, 3) := by decide +kernel
theorem dX13_collects_134 : decode cX13_collects 134 = .ok (.iastore, 1) := by decide +kernel
theorem dX13_collects_135 : decode cX13_collects 135 = .ok (.aload_n 0, 1) := by decide +kernel
theorem dX13_collects_136 : decode cX13_collects 136 = .ok (.iload_n 2, 1) := by decide +kernel
theorem dX13_collects_137 : decode cX13_collects 137 = .ok (.putfield 435, 3) := by decide +kernel
theorem dX13_collects_140 : decode cX13_collects 140 = .ok (.iinc 1 1, 3) := by decide +kernel
theorem dX13_collects_143 : decode cX13_collects 143 = .ok (.iinc 2 (-1), 3) := by decide +kernel
theorem dX13_collects_146 : decode cX13_collects 146 = .ok (.goto (-39), 3) := by decide +kernel
theorem dX13_collects_149 : decode cX13_collects 149 = .ok (.iload_n 1, 1) := by decide +kernel
theorem dX13_collects_150 : decode cX13_collects 150 = .ok (.aload_n 0, 1) := by decide +kernel
theorem dX13_collects_151 : decode cX13_collects 151 = .ok (.getfield 92, 3) := by decide +kernel
theorem dX13_collects_154 : decode cX13_collects 154 = .ok (.arraylength, 1) := by decide +kernel
theorem dX13_collects_155 : decode cX13_collects 155 = .ok (.iconst 2, 1) := by decide +kernel
theorem dX13_collects_156 : decode cX13_collects 156 = .ok (.idiv, 1) := by decide +kernel
theorem dX13_collects_157 : decode cX13_collects 157 = .ok (.if_icmp .ge 18, 3) := by decide +kernel
theorem dX13_collects_160 : decode cX13_collects 160 = .ok (.aload_n 0, 1) := by decide +kernel
theorem dX13_collects_161 : decode cX13_collects 161 = .ok (.getfield 92, 3) := by decide +kernel
theorem dX13_collects_164 : decode cX13_collects 164 = .ok (.arraylength, 1) := by decide +kernel
theorem dX13_collects_165 : decode cX13_collects 165 = .ok (.ldc_w 447, 3) := by decide +kernel
theorem dX13_collects_168 : decode cX13_collects 168 = .ok (.if_icmp .ge 7, 3) := by decide +kernel
theorem dX13_collects_171 : decode cX13_collects 171 = .ok (.aload_n 0, 1) := by decide +kernel
theorem dX13_collects_172 : decode cX13_collects 172 = .ok (.invokevirtual 448, 3) := by decide +kernel
theorem dX13_collects_175 : decode cX13_collects 175 = .ok (.return_, 1) := by decide +kernel
theorem dX13_grows_0 : decode cX13_grows 0 = .ok (.aload_n 0, 1) := by decide +kernel
theorem dX13_grows_1 : decode cX13_grows 1 = .ok (.getfield 92, 3) := by decide +kernel
theorem dX13_grows_4 : decode cX13_grows 4 = .ok (.arraylength, 1) := by decide +kernel
theorem dX13_grows_5 : decode cX13_grows 5 = .ok (.istore_n 1, 1) := by decide +kernel
theorem dX13_grows_6 : decode cX13_grows 6 = .ok (.iload_n 1, 1) := by decide +kernel
theorem dX13_grows_7 : decode cX13_grows 7 = .ok (.ldc_w 451, 3) := by decide +kernel
theorem dX13_grows_10 : decode cX13_grows 10 = .ok (.if_icmp .ge 9, 3) := by decide +kernel
theorem dX13_grows_13 : decode cX13_grows 13 = .ok (.iconst 4, 1) := by decide +kernel
theorem dX13_grows_14 : decode cX13_grows 14 = .ok (.iload_n 1, 1) := by decide +kernel
theorem dX13_grows_15 : decode cX13_grows 15 = .ok (.imul, 1) := by decide +kernel
theorem dX13_grows_16 : decode cX13_grows 16 = .ok (.goto 6, 3) := by decide +kernel
theorem dX13_grows_19 : decode cX13_grows 19 = .ok (.ldc_w 447, 3) := by decide +kernel
theorem dX13_grows_22 : decode cX13_grows 22 = .ok (.istore_n 2, 1) := by decide +kernel
theorem dX13_grows_23 : decode cX13_grows 23 = .ok (.iload_n 2, 1) := by decide +kernel
theorem dX13_grows_24 : decode cX13_grows 24 = .ok (.newarray .long, 2) := by decide +kernel
theorem dX13_grows_26 : decode cX13_grows 26 = .ok (.astore_n 3, 1) := by decide +kernel
theorem dX13_grows_27 : decode cX13_grows 27 = .ok (.iload_n 2, 1) := by decide +kernel
theorem dX13_grows_28 : decode cX13_grows 28 = .ok (.newarray .int, 2) := by decide +kernel
theorem dX13_grows_30 : decode cX13_grows 30 = .ok (.astore 4, 2) := by decide +kernel
theorem dX13_grows_32 : decode cX13_grows 32 = .ok (.iconst 0, 1) := by decide +kernel
theorem dX13_grows_33 : decode cX13_grows 33 = .ok (.istore 5, 2) := by decide +kernel
theorem dX13_grows_35 : decode cX13_grows 35 = .ok (.iload 5, 2) := by decide +kernel
theorem dX13_grows_37 : decode cX13_grows 37 = .ok (.iload_n 1, 1) := by decide +kernel
theorem dX13_grows_38 : decode cX13_grows 38 = .ok (.if_icmp .ge 32, 3) := by decide +kernel
theorem dX13_grows_41 : decode cX13_grows 41 = .ok (.aload_n 3, 1) := by decide +kernel
theorem dX13_grows_42 : decode cX13_grows 42 = .ok (.iload 5, 2) := by decide +kernel
theorem dX13_grows_44 : decode cX13_grows 44 = .ok (.aload_n 0, 1) := by decide +kernel
theorem dX13_grows_45 : decode cX13_grows 45 = .ok (.getfield 92, 3) := by decide +kernel
theorem dX13_grows_48 : decode cX13_grows 48 = .ok (.iload 5, 2) := by decide +kernel
theorem dX13_grows_50 : decode cX13_grows 50 = .ok (.laload, 1) := by decide +kernel
theorem dX13_grows_51 : decode cX13_grows 51 = .ok (.lastore, 1) := by decide +kernel
theorem dX13_grows_52 : decode cX13_grows 52 = .ok (.aload 4, 2) := by decide +kernel
theorem dX13_grows_54 : decode cX13_grows 54 = .ok (.iload 5, 2) := by decide +kernel
theorem dX13_grows_56 : decode cX13_grows 56 = .ok (.aload_n 0, 1) := by decide +kernel
theorem dX13_grows_57 : decode cX13_grows 57 = .ok (.getfield 95, 3) := by decide +kernel
theorem dX13_grows_60 : decode cX13_grows 60 = .ok (.iload 5, 2) := by decide +kernel
theorem dX13_grows_62 : decode cX13_grows 62 = .ok (.iaload, 1) := by decide +kernel
theorem dX13_grows_63 : decode cX13_grows 63 = .ok (.iastore, 1) := by decide +kernel
theorem dX13_grows_64 : decode cX13_grows 64 = .ok (.iinc 5 1, 3) := by decide +kernel
theorem dX13_grows_67 : decode cX13_grows 67 = .ok (.goto (-32), 3) := by decide +kernel
theorem dX13_grows_70 : decode cX13_grows 70 = .ok (.aload_n 0, 1) := by decide +kernel
theorem dX13_grows_71 : decode cX13_grows 71 = .ok (.aload_n 3, 1) := by decide +kernel
theorem dX13_grows_72 : decode cX13_grows 72 = .ok (.putfield 92, 3) := by decide +kernel
theorem dX13_grows_75 : decode cX13_grows 75 = .ok (.aload_n 0, 1) := by decide +kernel
theorem dX13_grows_76 : decode cX13_grows 76 = .ok (.aload 4, 2) := by decide +kernel
theorem dX13_grows_78 : decode cX13_grows 78 = .ok (.putfield 95, 3) := by decide +kernel
theorem dX13_grows_81 : decode cX13_grows 81 = .ok (.iload_n 2, 1) := by decide +kernel
theorem dX13_grows_82 : decode cX13_grows 82 = .ok (.iconst 1, 1) := by decide +kernel
theorem dX13_grows_83 : decode cX13_grows 83 = .ok (.isub, 1) := by decide +kernel
theorem dX13_grows_84 : decode cX13_grows 84 = .ok (.istore 5, 2) := by decide +kernel
theorem dX13_grows_86 : decode cX13_grows 86 = .ok (.iload 5, 2) := by decide +kernel
theorem dX13_grows_88 : decode cX13_grows 88 = .ok (.iload_n 1, 1) := by decide +kernel
theorem dX13_grows_89 : decode cX13_grows 89 = .ok (.if_icmp .lt 26, 3) := by decide +kernel
theorem dX13_grows_92 : decode cX13_grows 92 = .ok (.aload_n 0, 1) := by decide +kernel
theorem dX13_grows_93 : decode cX13_grows 93 = .ok (.getfield 95, 3) := by decide +kernel
theorem dX13_grows_96 : decode cX13_grows 96 = .ok (.iload 5, 2) := by decide +kernel
theorem dX13_grows_98 : decode cX13_grows 98 = .ok (.aload_n 0, 1) := by decide +kernel
theorem dX13_grows_99 : decode cX13_grows 99 = .ok (.getfield 435, 3) := by decide +kernel
theorem dX13_grows_102 : decode cX13_grows 102 = .ok (.iastore, 1) := by decide +kernel
theorem dX13_grows_103 : decode cX13_grows 103 = .ok (.aload_n 0, 1) := by decide +kernel
theorem dX13_grows_104 : decode cX13_grows 104 = .ok (.iload 5, 2) := by decide +kernel
theorem dX13_grows_106 : decode cX13_grows 106 = .ok (.putfield 435, 3) := by decide +kernel
theorem dX13_grows_109 : decode cX13_grows 109 = .ok (.iinc 5 (-1), 3) := by decide +kernel
theorem dX13_grows_112 : decode cX13_grows 112 = .ok (.goto (-26), 3) := by decide +kernel
theorem dX13_grows_115 : decode cX13_grows 115 = .ok (.return_, 1) := by decide +kernel
theorem dX13_todo_0 : decode cX13_todo 0 = .ok (.aload_n 0, 1) := by decide +kernel
theorem dX13_todo_1 : decode cX13_todo 1 = .ok (.getfield 452, 3) := by decide +kernel
theorem dX13_todo_4 : decode cX13_todo 4 = .ok (.aload_n 0, 1) := by decide +kernel
theorem dX13_todo_5 : decode cX13_todo 5 = .ok (.getfield 101, 3) := by decide +kernel
theorem dX13_todo_8 : decode cX13_todo 8 = .ok (.arraylength, 1) := by decide +kernel
theorem dX13_todo_9 : decode cX13_todo 9 = .ok (.if_icmp .ne 39, 3) := by decide +kernel
theorem dX13_todo_12 : decode cX13_todo 12 = .ok (.aload_n 0, 1) := by decide +kernel
theorem dX13_todo_13 : decode cX13_todo 13 = .ok (.aload_n 0, 1) := by decide +kernel
theorem dX13_todo_14 : decode cX13_todo 14 = .ok (.getfield 101, 3) := by decide +kernel
theorem dX13_todo_17 : decode cX13_todo 17 = .ok (.iconst 2, 1) := by decide +kernel
theorem dX13_todo_18 : decode cX13_todo 18 = .ok (.invokestatic 455, 3) := by decide +kernel
theorem dX13_todo_21 : decode cX13_todo 21 = .ok (.putfield 101, 3) := by decide +kernel
theorem dX13_todo_24 : decode cX13_todo 24 = .ok (.aload_n 0, 1) := by decide +kernel
theorem dX13_todo_25 : decode cX13_todo 25 = .ok (.aload_n 0, 1) := by decide +kernel
theorem dX13_todo_26 : decode cX13_todo 26 = .ok (.getfield 104, 3) := by decide +kernel
theorem dX13_todo_29 : decode cX13_todo 29 = .ok (.iconst 2, 1) := by decide +kernel
theorem dX13_todo_30 : decode cX13_todo 30 = .ok (.invokestatic 455, 3) := by decide +kernel
theorem dX13_todo_33 : decode cX13_todo 33 = .ok (.putfield 104, 3) := by decide +kernel
theorem dX13_todo_36 : decode cX13_todo 36 = .ok (.aload_n 0, 1) := by decide +kernel
theorem dX13_todo_37 : decode cX13_todo 37 = .ok (.aload_n 0, 1) := by decide +kernel
theorem dX13_todo_38 : decode cX13_todo 38 = .ok (.getfield 107, 3) := by decide +kernel
theorem dX13_todo_41 : decode cX13_todo 41 = .ok (.iconst 2, 1) := by decide +kernel
theorem dX13_todo_42 : decode cX13_todo 42 = .ok (.invokestatic 455, 3) := by decide +kernel
theorem dX13_todo_45 : decode cX13_todo 45 = .ok (.putfield 107, 3) := by decide +kernel
theorem dX13_todo_48 : decode cX13_todo 48 = .ok (.aload_n 0, 1) := by decide +kernel
theorem dX13_todo_49 : decode cX13_todo 49 = .ok (.getfield 101, 3) := by decide +kernel
theorem dX13_todo_52 : decode cX13_todo 52 = .ok (.aload_n 0, 1) := by decide +kernel
theorem dX13_todo_53 : decode cX13_todo 53 = .ok (.getfield 452, 3) := by decide +kernel
theorem dX13_todo_56 : decode cX13_todo 56 = .ok (.iload_n 1, 1) := by decide +kernel
theorem dX13_todo_57 : decode cX13_todo 57 = .ok (.iastore, 1) := by decide +kernel
theorem dX13_todo_58 : decode cX13_todo 58 = .ok (.aload_n 0, 1) := by decide +kernel
theorem dX13_todo_59 : decode cX13_todo 59 = .ok (.getfield 104, 3) := by decide +kernel
theorem dX13_todo_62 : decode cX13_todo 62 = .ok (.aload_n 0, 1) := by decide +kernel
theorem dX13_todo_63 : decode cX13_todo 63 = .ok (.getfield 452, 3) := by decide +kernel
theorem dX13_todo_66 : decode cX13_todo 66 = .ok (.iload_n 2, 1) := by decide +kernel
theorem dX13_todo_67 : decode cX13_todo 67 = .ok (.iastore, 1) := by decide +kernel
theorem dX13_todo_68 : decode cX13_todo 68 = .ok (.aload_n 0, 1) := by decide +kernel
theorem dX13_todo_69 : decode cX13_todo 69 = .ok (.getfield 107, 3) := by decide +kernel
theorem dX13_todo_72 : decode cX13_todo 72 = .ok (.aload_n 0, 1) := by decide +kernel
theorem dX13_todo_73 : decode cX13_todo 73 = .ok (.getfield 452, 3) := by decide +kernel
theorem dX13_todo_76 : decode cX13_todo 76 = .ok (.iload_n 3, 1) := by decide +kernel
theorem dX13_todo_77 : decode cX13_todo 77 = .ok (.iastore, 1) := by decide +kernel
theorem dX13_todo_78 : decode cX13_todo 78 = .ok (.aload_n 0, 1) := by decide +kernel
theorem dX13_todo_79 : decode cX13_todo 79 = .ok (.dup, 1) := by decide +kernel
theorem dX13_todo_80 : decode cX13_todo 80 = .ok (.getfield 452, 3) := by decide +kernel
theorem dX13_todo_83 : decode cX13_todo 83 = .ok (.iconst 1, 1) := by decide +kernel
theorem dX13_todo_84 : decode cX13_todo 84 = .ok (.iadd, 1) := by decide +kernel
theorem dX13_todo_85 : decode cX13_todo 85 = .ok (.putfield 452, 3) := by decide +kernel
theorem dX13_todo_88 : decode cX13_todo 88 = .ok (.return_, 1) := by decide +kernel
theorem dX13_longer_0 : decode cX13_longer 0 = .ok (.iload_n 1, 1) := by decide +kernel
theorem dX13_longer_1 : decode cX13_longer 1 = .ok (.aload_n 0, 1) := by decide +kernel
theorem dX13_longer_2 : decode cX13_longer 2 = .ok (.arraylength, 1) := by decide +kernel
theorem dX13_longer_3 : decode cX13_longer 3 = .ok (.imul, 1) := by decide +kernel
theorem dX13_longer_4 : decode cX13_longer 4 = .ok (.newarray .int, 2) := by decide +kernel
theorem dX13_longer_6 : decode cX13_longer 6 = .ok (.astore_n 2, 1) := by decide +kernel
theorem dX13_longer_7 : decode cX13_longer 7 = .ok (.iconst 0, 1) := by decide +kernel
theorem dX13_longer_8 : decode cX13_longer 8 = .ok (.istore_n 3, 1) := by decide +kernel
theorem dX13_longer_9 : decode cX13_longer 9 = .ok (.iload_n 3, 1) := by decide +kernel
theorem dX13_longer_10 : decode cX13_longer 10 = .ok (.aload_n 0, 1) := by decide +kernel
theorem dX13_longer_11 : decode cX13_longer 11 = .ok (.arraylength, 1) := by decide +kernel
theorem dX13_longer_12 : decode cX13_longer 12 = .ok (.if_icmp .ge 15, 3) := by decide +kernel
theorem dX13_longer_15 : decode cX13_longer 15 = .ok (.aload_n 2, 1) := by decide +kernel
theorem dX13_longer_16 : decode cX13_longer 16 = .ok (.iload_n 3, 1) := by decide +kernel
theorem dX13_longer_17 : decode cX13_longer 17 = .ok (.aload_n 0, 1) := by decide +kernel
theorem dX13_longer_18 : decode cX13_longer 18 = .ok (.iload_n 3, 1) := by decide +kernel
theorem dX13_longer_19 : decode cX13_longer 19 = .ok (.iaload, 1) := by decide +kernel
theorem dX13_longer_20 : decode cX13_longer 20 = .ok (.iastore, 1) := by decide +kernel
theorem dX13_longer_21 : decode cX13_longer 21 = .ok (.iinc 3 1, 3) := by decide +kernel
theorem dX13_longer_24 : decode cX13_longer 24 = .ok (.goto (-15), 3) := by decide +kernel
theorem dX13_longer_27 : decode cX13_longer 27 = .ok (.aload_n 2, 1) := by decide +kernel
theorem dX13_longer_28 : decode cX13_longer 28 = .ok (.areturn, 1) := by decide +kernel
theorem dX13_push_0 : decode cX13_push 0 = .ok (.aload_n 0, 1) := by decide +kernel
theorem dX13_push_1 : decode cX13_push 1 = .ok (.getfield 459, 3) := by decide +kernel
theorem dX13_push_4 : decode cX13_push 4 = .ok (.aload_n 0, 1) := by decide +kernel
theorem dX13_push_5 : decode cX13_push 5 = .ok (.getfield 110, 3) := by decide +kernel
theorem dX13_push_8 : decode cX13_push 8 = .ok (.arraylength, 1) := by decide +kernel
theorem dX13_push_9 : decode cX13_push 9 = .ok (.if_icmp .ne 46, 3) := by decide +kernel
theorem dX13_push_12 : decode cX13_push 12 = .ok (.iconst 2, 1) := by decide +kernel
theorem dX13_push_13 : decode cX13_push 13 = .ok (.aload_n 0, 1) := by decide +kernel
theorem dX13_push_14 : decode cX13_push 14 = .ok (.getfield 459, 3) := by decide +kernel
theorem dX13_push_17 : decode cX13_push 17 = .ok (.imul, 1) := by decide +kernel
theorem dX13_push_18 : decode cX13_push 18 = .ok (.newarray .long, 2) := by decide +kernel
theorem dX13_push_20 : decode cX13_push 20 = .ok (.astore_n 3, 1) := by decide +kernel
theorem dX13_push_21 : decode cX13_push 21 = .ok (.iconst 0, 1) := by decide +kernel
theorem dX13_push_22 : decode cX13_push 22 = .ok (.istore 4, 2) := by decide +kernel
theorem dX13_push_24 : decode cX13_push 24 = .ok (.iload 4, 2) := by decide +kernel
theorem dX13_push_26 : decode cX13_push 26 = .ok (.aload_n 0, 1) := by decide +kernel
theorem dX13_push_27 : decode cX13_push 27 = .ok (.getfield 459, 3) := by decide +kernel
theorem dX13_push_30 : decode cX13_push 30 = .ok (.if_icmp .ge 20, 3) := by decide +kernel
theorem dX13_push_33 : decode cX13_push 33 = .ok (.aload_n 3, 1) := by decide +kernel
theorem dX13_push_34 : decode cX13_push 34 = .ok (.iload 4, 2) := by decide +kernel
theorem dX13_push_36 : decode cX13_push 36 = .ok (.aload_n 0, 1) := by decide +kernel
theorem dX13_push_37 : decode cX13_push 37 = .ok (.getfield 110, 3) := by decide +kernel
theorem dX13_push_40 : decode cX13_push 40 = .ok (.iload 4, 2) := by decide +kernel
theorem dX13_push_42 : decode cX13_push 42 = .ok (.laload, 1) := by decide +kernel
theorem dX13_push_43 : decode cX13_push 43 = .ok (.lastore, 1) := by decide +kernel
theorem dX13_push_44 : decode cX13_push 44 = .ok (.iinc 4 1, 3) := by decide +kernel
theorem dX13_push_47 : decode cX13_push 47 = .ok (.goto (-23), 3) := by decide +kernel
theorem dX13_push_50 : decode cX13_push 50 = .ok (.aload_n 0, 1) := by decide +kernel
theorem dX13_push_51 : decode cX13_push 51 = .ok (.aload_n 3, 1) := by decide +kernel
theorem dX13_push_52 : decode cX13_push 52 = .ok (.putfield 110, 3) := by decide +kernel
theorem dX13_push_55 : decode cX13_push 55 = .ok (.aload_n 0, 1) := by decide +kernel
theorem dX13_push_56 : decode cX13_push 56 = .ok (.getfield 110, 3) := by decide +kernel
theorem dX13_push_59 : decode cX13_push 59 = .ok (.aload_n 0, 1) := by decide +kernel
theorem dX13_push_60 : decode cX13_push 60 = .ok (.getfield 459, 3) := by decide +kernel
theorem dX13_push_63 : decode cX13_push 63 = .ok (.lload_n 1, 1) := by decide +kernel
theorem dX13_push_64 : decode cX13_push 64 = .ok (.lastore, 1) := by decide +kernel
theorem dX13_push_65 : decode cX13_push 65 = .ok (.aload_n 0, 1) := by decide +kernel
theorem dX13_push_66 : decode cX13_push 66 = .ok (.dup, 1) := by decide +kernel
theorem dX13_push_67 : decode cX13_push 67 = .ok (.getfield 459, 3) := by decide +kernel
theorem dX13_push_70 : decode cX13_push 70 = .ok (.iconst 1, 1) := by decide +kernel
theorem dX13_push_71 : decode cX13_push 71 = .ok (.iadd, 1) := by decide +kernel
theorem dX13_push_72 : decode cX13_push 72 = .ok (.putfield 459, 3) := by decide +kernel
theorem dX13_push_75 : decode cX13_push 75 = .ok (.return_, 1) := by decide +kernel
theorem dX13_slots_0 : decode cX13_slots 0 = .ok (.aload_n 0, 1) := by decide +kernel
theorem dX13_slots_1 : decode cX13_slots 1 = .ok (.getfield 444, 3) := by decide +kernel
theorem dX13_slots_4 : decode cX13_slots 4 = .ok (.iload_n 1, 1) := by decide +kernel
theorem dX13_slots_5 : decode cX13_slots 5 = .ok (.iadd, 1) := by decide +kernel
theorem dX13_slots_6 : decode cX13_slots 6 = .ok (.aload_n 0, 1) := by decide +kernel
theorem dX13_slots_7 : decode cX13_slots 7 = .ok (.getfield 98, 3) := by decide +kernel
theorem dX13_slots_10 : decode cX13_slots 10 = .ok (.arraylength, 1) := by decide +kernel
theorem dX13_slots_11 : decode cX13_slots 11 = .ok (.if_icmp .le 18, 3) := by decide +kernel
theorem dX13_slots_14 : decode cX13_slots 14 = .ok (.aload_n 0, 1) := by decide +kernel
theorem dX13_slots_15 : decode cX13_slots 15 = .ok (.aload_n 0, 1) := by decide +kernel
theorem dX13_slots_16 : decode cX13_slots 16 = .ok (.getfield 98, 3) := by decide +kernel
theorem dX13_slots_19 : decode cX13_slots 19 = .ok (.iconst 4, 1) := by decide +kernel
theorem dX13_slots_20 : decode cX13_slots 20 = .ok (.invokestatic 455, 3) := by decide +kernel
theorem dX13_slots_23 : decode cX13_slots 23 = .ok (.putfield 98, 3) := by decide +kernel
theorem dX13_slots_26 : decode cX13_slots 26 = .ok (.goto (-26), 3) := by decide +kernel
theorem dX13_slots_29 : decode cX13_slots 29 = .ok (.iconst 0, 1) := by decide +kernel
theorem dX13_slots_30 : decode cX13_slots 30 = .ok (.istore_n 2, 1) := by decide +kernel
theorem dX13_slots_31 : decode cX13_slots 31 = .ok (.iload_n 2, 1) := by decide +kernel
theorem dX13_slots_32 : decode cX13_slots 32 = .ok (.iload_n 1, 1) := by decide +kernel
theorem dX13_slots_33 : decode cX13_slots 33 = .ok (.if_icmp .ge 21, 3) := by decide +kernel
theorem dX13_slots_36 : decode cX13_slots 36 = .ok (.aload_n 0, 1) := by decide +kernel
theorem dX13_slots_37 : decode cX13_slots 37 = .ok (.getfield 98, 3) := by decide +kernel
theorem dX13_slots_40 : decode cX13_slots 40 = .ok (.aload_n 0, 1) := by decide +kernel
theorem dX13_slots_41 : decode cX13_slots 41 = .ok (.getfield 444, 3) := by decide +kernel
theorem dX13_slots_44 : decode cX13_slots 44 = .ok (.iload_n 2, 1) := by decide +kernel
theorem dX13_slots_45 : decode cX13_slots 45 = .ok (.iadd, 1) := by decide +kernel
theorem dX13_slots_46 : decode cX13_slots 46 = .ok (.iconst (-1), 1) := by decide +kernel
theorem dX13_slots_47 : decode cX13_slots 47 = .ok (.iastore, 1) := by decide +kernel
theorem dX13_slots_48 : decode cX13_slots 48 = .ok (.iinc 2 1, 3) := by decide +kernel
theorem dX13_slots_51 : decode cX13_slots 51 = .ok (.goto (-20), 3) := by decide +kernel
theorem dX13_slots_54 : decode cX13_slots 54 = .ok (.aload_n 0, 1) := by decide +kernel
theorem dX13_slots_55 : decode cX13_slots 55 = .ok (.dup, 1) := by decide +kernel
theorem dX13_slots_56 : decode cX13_slots 56 = .ok (.getfield 444, 3) := by decide +kernel
theorem dX13_slots_59 : decode cX13_slots 59 = .ok (.iload_n 1, 1) := by decide +kernel
theorem dX13_slots_60 : decode cX13_slots 60 = .ok (.iadd, 1) := by decide +kernel
theorem dX13_slots_61 : decode cX13_slots 61 = .ok (.putfield 444, 3) := by decide +kernel
theorem dX13_slots_64 : decode cX13_slots 64 = .ok (.return_, 1) := by decide +kernel
theorem dX13_begins_0 : decode cX13_begins 0 = .ok (.aload_n 0, 1) := by decide +kernel
theorem dX13_begins_1 : decode cX13_begins 1 = .ok (.invokevirtual 462, 3) := by decide +kernel
theorem dX13_begins_4 : decode cX13_begins 4 = .ok (.aload_n 0, 1) := by decide +kernel
theorem dX13_begins_5 : decode cX13_begins 5 = .ok (.iconst 0, 1) := by decide +kernel
theorem dX13_begins_6 : decode cX13_begins 6 = .ok (.putfield 465, 3) := by decide +kernel
theorem dX13_begins_9 : decode cX13_begins 9 = .ok (.aload_n 0, 1) := by decide +kernel
theorem dX13_begins_10 : decode cX13_begins 10 = .ok (.iconst 0, 1) := by decide +kernel
theorem dX13_begins_11 : decode cX13_begins 11 = .ok (.putfield 441, 3) := by decide +kernel
theorem dX13_begins_14 : decode cX13_begins 14 = .ok (.aload_n 0, 1) := by decide +kernel
theorem dX13_begins_15 : decode cX13_begins 15 = .ok (.iconst 0, 1) := by decide +kernel
theorem dX13_begins_16 : decode cX13_begins 16 = .ok (.putfield 468, 3) := by decide +kernel
theorem dX13_begins_19 : decode cX13_begins 19 = .ok (.aload_n 0, 1) := by decide +kernel
theorem dX13_begins_20 : decode cX13_begins 20 = .ok (.invokevirtual 471, 3) := by decide +kernel
theorem dX13_begins_23 : decode cX13_begins 23 = .ok (.aload_n 0, 1) := by decide +kernel
theorem dX13_begins_24 : decode cX13_begins 24 = .ok (.iconst 0, 1) := by decide +kernel
theorem dX13_begins_25 : decode cX13_begins 25 = .ok (.putfield 444, 3) := by decide +kernel
theorem dX13_begins_28 : decode cX13_begins 28 = .ok (.aload_n 0, 1) := by decide +kernel
theorem dX13_begins_29 : decode cX13_begins 29 = .ok (.iconst 0, 1) := by decide +kernel
theorem dX13_begins_30 : decode cX13_begins 30 = .ok (.putfield 474, 3) := by decide +kernel
theorem dX13_begins_33 : decode cX13_begins 33 = .ok (.aload_n 0, 1) := by decide +kernel
theorem dX13_begins_34 : decode cX13_begins 34 = .ok (.iconst (-1), 1) := by decide +kernel
theorem dX13_begins_35 : decode cX13_begins 35 = .ok (.putfield 477, 3) := by decide +kernel
theorem dX13_begins_38 : decode cX13_begins 38 = .ok (.aload_n 0, 1) := by decide +kernel
theorem dX13_begins_39 : decode cX13_begins 39 = .ok (.iconst 0, 1) := by decide +kernel
theorem dX13_begins_40 : decode cX13_begins 40 = .ok (.putfield 452, 3) := by decide +kernel
theorem dX13_begins_43 : decode cX13_begins 43 = .ok (.aload_n 0, 1) := by decide +kernel
theorem dX13_begins_44 : decode cX13_begins 44 = .ok (.iconst 0, 1) := by decide +kernel
theorem dX13_begins_45 : decode cX13_begins 45 = .ok (.putfield 459, 3) := by decide +kernel
theorem dX13_begins_48 : decode cX13_begins 48 = .ok (.iconst 0, 1) := by decide +kernel
theorem dX13_begins_49 : decode cX13_begins 49 = .ok (.istore_n 1, 1) := by decide +kernel
theorem dX13_begins_50 : decode cX13_begins 50 = .ok (.iload_n 1, 1) := by decide +kernel
theorem dX13_begins_51 : decode cX13_begins 51 = .ok (.aload_n 0, 1) := by decide +kernel
theorem dX13_begins_52 : decode cX13_begins 52 = .ok (.getfield 43, 3) := by decide +kernel
theorem dX13_begins_55 : decode cX13_begins 55 = .ok (.getfield 314, 3) := by decide +kernel
theorem dX13_begins_58 : decode cX13_begins 58 = .ok (.if_icmp .ge 18, 3) := by decide +kernel
theorem dX13_begins_61 : decode cX13_begins 61 = .ok (.aload_n 0, 1) := by decide +kernel
theorem dX13_begins_62 : decode cX13_begins 62 = .ok (.getfield 113, 3) := by decide +kernel
theorem dX13_begins_65 : decode cX13_begins 65 = .ok (.iload_n 1, 1) := by decide +kernel
theorem dX13_begins_66 : decode cX13_begins 66 = .ok (.ldc2_w 480, 3) := by decide +kernel
theorem dX13_begins_69 : decode cX13_begins 69 = .ok (.lastore, 1) := by decide +kernel
theorem dX13_begins_70 : decode cX13_begins 70 = .ok (.iinc 1 1, 3) := by decide +kernel
theorem dX13_begins_73 : decode cX13_begins 73 = .ok (.goto (-23), 3) := by decide +kernel
theorem dX13_begins_76 : decode cX13_begins 76 = .ok (.aload_n 0, 1) := by decide +kernel
theorem dX13_begins_77 : decode cX13_begins 77 = .ok (.iconst 0, 1) := by decide +kernel
theorem dX13_begins_78 : decode cX13_begins 78 = .ok (.putfield 482, 3) := by decide +kernel
theorem dX13_begins_81 : decode cX13_begins 81 = .ok (.aload_n 0, 1) := by decide +kernel
theorem dX13_begins_82 : decode cX13_begins 82 = .ok (.iconst 0, 1) := by decide +kernel
theorem dX13_begins_83 : decode cX13_begins 83 = .ok (.putfield 485, 3) := by decide +kernel
theorem dX13_begins_86 : decode cX13_begins 86 = .ok (.aload_n 0, 1) := by decide +kernel
theorem dX13_begins_87 : decode cX13_begins 87 = .ok (.iconst 0, 1) := by decide +kernel
theorem dX13_begins_88 : decode cX13_begins 88 = .ok (.putfield 488, 3) := by decide +kernel
theorem dX13_begins_91 : decode cX13_begins 91 = .ok (.aload_n 0, 1) := by decide +kernel
theorem dX13_begins_92 : decode cX13_begins 92 = .ok (.iconst 0, 1) := by decide +kernel
theorem dX13_begins_93 : decode cX13_begins 93 = .ok (.putfield 491, 3) := by decide +kernel
theorem dX13_begins_96 : decode cX13_begins 96 = .ok (.aload_n 0, 1) := by decide +kernel
theorem dX13_begins_97 : decode cX13_begins 97 = .ok (.iconst (-1), 1) := by decide +kernel
theorem dX13_begins_98 : decode cX13_begins 98 = .ok (.putfield 494, 3) := by decide +kernel
theorem dX13_begins_101 : decode cX13_begins 101 = .ok (.aload_n 0, 1) := by decide +kernel
theorem dX13_begins_102 : decode cX13_begins 102 = .ok (.lconst 0, 1) := by decide +kernel
theorem dX13_begins_103 : decode cX13_begins 103 = .ok (.putfield 497, 3) := by decide +kernel
theorem dX13_begins_106 : decode cX13_begins 106 = .ok (.aload_n 0, 1) := by decide +kernel
theorem dX13_begins_107 : decode cX13_begins 107 = .ok (.lconst 0, 1) := by decide +kernel
theorem dX13_begins_108 : decode cX13_begins 108 = .ok (.putfield 501, 3) := by decide +kernel
theorem dX13_begins_111 : decode cX13_begins 111 = .ok (.aload_n 0, 1) := by decide +kernel
theorem dX13_begins_112 : decode cX13_begins 112 = .ok (.lconst 0, 1) := by decide +kernel
theorem dX13_begins_113 : decode cX13_begins 113 = .ok (.putfield 504, 3) := by decide +kernel
theorem dX13_begins_116 : decode cX13_begins 116 = .ok (.aload_n 0, 1) := by decide +kernel
theorem dX13_begins_117 : decode cX13_begins 117 = .ok (.iconst (-1), 1) := by decide +kernel
theorem dX13_begins_118 : decode cX13_begins 118 = .ok (.putfield 507, 3) := by decide +kernel
theorem dX13_begins_121 : decode cX13_begins 121 = .ok (.iconst 0, 1) := by decide +kernel
theorem dX13_begins_122 : decode cX13_begins 122 = .ok (.istore_n 1, 1) := by decide +kernel
theorem dX13_begins_123 : decode cX13_begins 123 = .ok (.iload_n 1, 1) := by decide +kernel
theorem dX13_begins_124 : decode cX13_begins 124 = .ok (.iconst 4, 1) := by decide +kernel
theorem dX13_begins_125 : decode cX13_begins 125 = .ok (.if_icmp .ge 16, 3) := by decide +kernel
theorem dX13_begins_128 : decode cX13_begins 128 = .ok (.aload_n 0, 1) := by decide +kernel
theorem dX13_begins_129 : decode cX13_begins 129 = .ok (.getfield 122, 3) := by decide +kernel
theorem dX13_begins_132 : decode cX13_begins 132 = .ok (.iload_n 1, 1) := by decide +kernel
theorem dX13_begins_133 : decode cX13_begins 133 = .ok (.lconst 0, 1) := by decide +kernel
theorem dX13_begins_134 : decode cX13_begins 134 = .ok (.lastore, 1) := by decide +kernel
theorem dX13_begins_135 : decode cX13_begins 135 = .ok (.iinc 1 1, 3) := by decide +kernel
theorem dX13_begins_138 : decode cX13_begins 138 = .ok (.goto (-15), 3) := by decide +kernel
theorem dX13_begins_141 : decode cX13_begins 141 = .ok (.aload_n 0, 1) := by decide +kernel
theorem dX13_begins_142 : decode cX13_begins 142 = .ok (.aload_n 0, 1) := by decide +kernel
theorem dX13_begins_143 : decode cX13_begins 143 = .ok (.getfield 43, 3) := by decide +kernel
theorem dX13_begins_146 : decode cX13_begins 146 = .ok (.getfield 344, 3) := by decide +kernel
theorem dX13_begins_149 : decode cX13_begins 149 = .ok (.invokevirtual 510, 3) := by decide +kernel
theorem dX13_begins_152 : decode cX13_begins 152 = .ok (.aload_n 0, 1) := by decide +kernel
theorem dX13_begins_153 : decode cX13_begins 153 = .ok (.bipush 9, 2) := by decide +kernel
theorem dX13_begins_155 : decode cX13_begins 155 = .ok (.aload_n 0, 1) := by decide +kernel
theorem dX13_begins_156 : decode cX13_begins 156 = .ok (.getfield 43, 3) := by decide +kernel
theorem dX13_begins_159 : decode cX13_begins 159 = .ok (.getfield 277, 3) := by decide +kernel
theorem dX13_begins_162 : decode cX13_begins 162 = .ok (.iconst 0, 1) := by decide +kernel
theorem dX13_begins_163 : decode cX13_begins 163 = .ok (.invokevirtual 512, 3) := by decide +kernel
theorem dX13_begins_166 : decode cX13_begins 166 = .ok (.aload_n 0, 1) := by decide +kernel
theorem dX13_begins_167 : decode cX13_begins 167 = .ok (.iconst 1, 1) := by decide +kernel
theorem dX13_begins_168 : decode cX13_begins 168 = .ok (.putfield 514, 3) := by decide +kernel
theorem dX13_begins_171 : decode cX13_begins 171 = .ok (.aload_n 0, 1) := by decide +kernel
theorem dX13_begins_172 : decode cX13_begins 172 = .ok (.lconst 0, 1) := by decide +kernel
theorem dX13_begins_173 : decode cX13_begins 173 = .ok (.putfield 517, 3) := by decide +kernel
theorem dX13_begins_176 : decode cX13_begins 176 = .ok (.return_, 1) := by decide +kernel
theorem dX13_restart_0 : decode cX13_restart 0 = .ok (.aload_n 0, 1) := by decide +kernel
theorem dX13_restart_1 : decode cX13_restart 1 = .ok (.getfield 404, 3) := by decide +kernel
theorem dX13_restart_4 : decode cX13_restart 4 = .ok (.ifCond .ne 5, 3) := by decide +kernel
theorem dX13_restart_7 : decode cX13_restart 7 = .ok (.iconst 0, 1) := by decide +kernel
theorem dX13_restart_8 : decode cX13_restart 8 = .ok (.ireturn, 1) := by decide +kernel
theorem dX13_restart_9 : decode cX13_restart 9 = .ok (.aload_n 0, 1) := by decide +kernel
theorem dX13_restart_10 : decode cX13_restart 10 = .ok (.invokevirtual 408, 3) := by decide +kernel
theorem dX13_restart_13 : decode cX13_restart 13 = .ok (.iconst 1, 1) := by decide +kernel
theorem dX13_restart_14 : decode cX13_restart 14 = .ok (.ireturn, 1) := by decide +kernel
theorem dX13_input_0 : decode cX13_input 0 = .ok (.aload_n 0, 1) := by decide +kernel
theorem dX13_input_1 : decode cX13_input 1 = .ok (.getfield 404, 3) := by decide +kernel
theorem dX13_input_4 : decode cX13_input 4 = .ok (.ifCond .eq 13, 3) := by decide +kernel
theorem dX13_input_7 : decode cX13_input 7 = .ok (.aload_n 0, 1) := by decide +kernel
theorem dX13_input_8 : decode cX13_input 8 = .ok (.getfield 482, 3) := by decide +kernel
theorem dX13_input_11 : decode cX13_input 11 = .ok (.sipush 200, 3) := by decide +kernel
theorem dX13_input_14 : decode cX13_input 14 = .ok (.if_icmp .ne 5, 3) := by decide +kernel
theorem dX13_input_17 : decode cX13_input 17 = .ok (.iconst (-1), 1) := by decide +kernel
theorem dX13_input_18 : decode cX13_input 18 = .ok (.ireturn, 1) := by decide +kernel
theorem dX13_input_19 : decode cX13_input 19 = .ok (.aload_n 0, 1) := by decide +kernel
theorem dX13_input_20 : decode cX13_input 20 = .ok (.getfield 116, 3) := by decide +kernel
theorem dX13_input_23 : decode cX13_input 23 = .ok (.aload_n 0, 1) := by decide +kernel
theorem dX13_input_24 : decode cX13_input 24 = .ok (.getfield 482, 3) := by decide +kernel
theorem dX13_input_27 : decode cX13_input 27 = .ok (.iload_n 1, 1) := by decide +kernel
theorem dX13_input_28 : decode cX13_input 28 = .ok (.iastore, 1) := by decide +kernel
theorem dX13_input_29 : decode cX13_input 29 = .ok (.aload_n 0, 1) := by decide +kernel
theorem dX13_input_30 : decode cX13_input 30 = .ok (.dup, 1) := by decide +kernel
theorem dX13_input_31 : decode cX13_input 31 = .ok (.getfield 482, 3) := by decide +kernel
theorem dX13_input_34 : decode cX13_input 34 = .ok (.iconst 1, 1) := by decide +kernel
theorem dX13_input_35 : decode cX13_input 35 = .ok (.iadd, 1) := by decide +kernel
theorem dX13_input_36 : decode cX13_input 36 = .ok (.putfield 482, 3) := by decide +kernel
theorem dX13_input_39 : decode cX13_input 39 = .ok (.aload_n 0, 1) := by decide +kernel
theorem dX13_input_40 : decode cX13_input 40 = .ok (.getfield 482, 3) := by decide +kernel
theorem dX13_input_43 : decode cX13_input 43 = .ok (.ireturn, 1) := by decide +kernel
theorem dX13_is_0 : decode cX13_is 0 = .ok (.aload_n 0, 1) := by decide +kernel
theorem dX13_is_1 : decode cX13_is 1 = .ok (.lload_n 1, 1) := by decide +kernel
theorem dX13_is_2 : decode cX13_is 2 = .ok (.putfield 517, 3) := by decide +kernel
theorem dX13_is_5 : decode cX13_is 5 = .ok (.aload_n 0, 1) := by decide +kernel
theorem dX13_is_6 : decode cX13_is 6 = .ok (.iconst 1, 1) := by decide +kernel
theorem dX13_is_7 : decode cX13_is 7 = .ok (.putfield 514, 3) := by decide +kernel
theorem dX13_is_10 : decode cX13_is 10 = .ok (.return_, 1) := by decide +kernel
theorem dX13_form__0 : decode cX13_form_ 0 = .ok (.aload_n 0, 1) := by decide +kernel
theorem dX13_form__1 : decode cX13_form_ 1 = .ok (.iload_n 1, 1) := by decide +kernel
theorem dX13_form__2 : decode cX13_form_ 2 = .ok (.putfield 520, 3) := by decide +kernel
theorem dX13_form__5 : decode cX13_form_ 5 = .ok (.aload_n 0, 1) := by decide +kernel
theorem dX13_form__6 : decode cX13_form_ 6 = .ok (.iconst 0, 1) := by decide +kernel
theorem dX13_form__7 : decode cX13_form_ 7 = .ok (.putfield 514, 3) := by decide +kernel
theorem dX13_form__10 : decode cX13_form_ 10 = .ok (.return_, 1) := by decide +kernel
theorem dX13_boxOf_0 : decode cX13_boxOf 0 = .ok (.aload_n 0, 1) := by decide +kernel
theorem dX13_boxOf_1 : decode cX13_boxOf 1 = .ok (.getfield 43, 3) := by decide +kernel
theorem dX13_boxOf_4 : decode cX13_boxOf 4 = .ok (.getfield 249, 3) := by decide +kernel
theorem dX13_boxOf_7 : decode cX13_boxOf 7 = .ok (.iload_n 1, 1) := by decide +kernel
theorem dX13_boxOf_8 : decode cX13_boxOf 8 = .ok (.iaload, 1) := by decide +kernel
theorem dX13_boxOf_9 : decode cX13_boxOf 9 = .ok (.iconst 1, 1) := by decide +kernel
theorem dX13_boxOf_10 : decode cX13_boxOf 10 = .ok (.if_icmp .ne 25, 3) := by decide +kernel
theorem dX13_boxOf_13 : decode cX13_boxOf 13 = .ok (.aload_n 0, 1) := by decide +kernel
theorem dX13_boxOf_14 : decode cX13_boxOf 14 = .ok (.getfield 98, 3) := by decide +kernel
theorem dX13_boxOf_17 : decode cX13_boxOf 17 = .ok (.aload_n 0, 1) := by decide +kernel
theorem dX13_boxOf_18 : decode cX13_boxOf 18 = .ok (.getfield 474, 3) := by decide +kernel
theorem dX13_boxOf_21 : decode cX13_boxOf 21 = .ok (.aload_n 0, 1) := by decide +kernel
theorem dX13_boxOf_22 : decode cX13_boxOf 22 = .ok (.getfield 43, 3) := by decide +kernel
theorem dX13_boxOf_25 : decode cX13_boxOf 25 = .ok (.getfield 252, 3) := by decide +kernel
theorem dX13_boxOf_28 : decode cX13_boxOf 28 = .ok (.iload_n 1, 1) := by decide +kernel
theorem dX13_boxOf_29 : decode cX13_boxOf 29 = .ok (.iaload, 1) := by decide +kernel
theorem dX13_boxOf_30 : decode cX13_boxOf 30 = .ok (.iadd, 1) := by decide +kernel
theorem dX13_boxOf_31 : decode cX13_boxOf 31 = .ok (.iaload, 1) := by decide +kernel
theorem dX13_boxOf_32 : decode cX13_boxOf 32 = .ok (.goto 27, 3) := by decide +kernel
theorem dX13_boxOf_35 : decode cX13_boxOf 35 = .ok (.aload_n 0, 1) := by decide +kernel
theorem dX13_boxOf_36 : decode cX13_boxOf 36 = .ok (.getfield 89, 3) := by decide +kernel
theorem dX13_boxOf_39 : decode cX13_boxOf 39 = .ok (.aload_n 0, 1) := by decide +kernel
theorem dX13_boxOf_40 : decode cX13_boxOf 40 = .ok (.getfield 86, 3) := by decide +kernel
theorem dX13_boxOf_43 : decode cX13_boxOf 43 = .ok (.aload_n 0, 1) := by decide +kernel
theorem dX13_boxOf_44 : decode cX13_boxOf 44 = .ok (.getfield 477, 3) := by decide +kernel
theorem dX13_boxOf_47 : decode cX13_boxOf 47 = .ok (.iaload, 1) := by decide +kernel
theorem dX13_boxOf_48 : decode cX13_boxOf 48 = .ok (.aload_n 0, 1) := by decide +kernel
theorem dX13_boxOf_49 : decode cX13_boxOf 49 = .ok (.getfield 43, 3) := by decide +kernel
theorem dX13_boxOf_52 : decode cX13_boxOf 52 = .ok (.getfield 252, 3) := by decide +kernel
theorem dX13_boxOf_55 : decode cX13_boxOf 55 = .ok (.iload_n 1, 1) := by decide +kernel
theorem dX13_boxOf_56 : decode cX13_boxOf 56 = .ok (.iaload, 1) := by decide +kernel
theorem dX13_boxOf_57 : decode cX13_boxOf 57 = .ok (.iadd, 1) := by decide +kernel
theorem dX13_boxOf_58 : decode cX13_boxOf 58 = .ok (.iaload, 1) := by decide +kernel
theorem dX13_boxOf_59 : decode cX13_boxOf 59 = .ok (.ireturn, 1) := by decide +kernel
theorem dX13_valueOf_0 : decode cX13_valueOf 0 = .ok (.aload_n 0, 1) := by decide +kernel
theorem dX13_valueOf_1 : decode cX13_valueOf 1 = .ok (.getfield 43, 3) := by decide +kernel
theorem dX13_valueOf_4 : decode cX13_valueOf 4 = .ok (.getfield 249, 3) := by decide +kernel
theorem dX13_valueOf_7 : decode cX13_valueOf 7 = .ok (.iload_n 1, 1) := by decide +kernel
theorem dX13_valueOf_8 : decode cX13_valueOf 8 = .ok (.iaload, 1) := by decide +kernel
theorem dX13_valueOf_9 : decode cX13_valueOf 9 = .ok (.lookupswitch 57 #[(3, 27), (4, 42)], 27) := by decide +kernel
theorem dX13_valueOf_36 : decode cX13_valueOf 36 = .ok (.aload_n 0, 1) := by decide +kernel
theorem dX13_valueOf_37 : decode cX13_valueOf 37 = .ok (.getfield 113, 3) := by decide +kernel
theorem dX13_valueOf_40 : decode cX13_valueOf 40 = .ok (.aload_n 0, 1) := by decide +kernel
theorem dX13_valueOf_41 : decode cX13_valueOf 41 = .ok (.getfield 43, 3) := by decide +kernel
theorem dX13_valueOf_44 : decode cX13_valueOf 44 = .ok (.getfield 252, 3) := by decide +kernel
theorem dX13_valueOf_47 : decode cX13_valueOf 47 = .ok (.iload_n 1, 1) := by decide +kernel
theorem dX13_valueOf_48 : decode cX13_valueOf 48 = .ok (.iaload, 1) := by decide +kernel
theorem dX13_valueOf_49 : decode cX13_valueOf 49 = .ok (.laload, 1) := by decide +kernel
theorem dX13_valueOf_50 : decode cX13_valueOf 50 = .ok (.lreturn, 1) := by decide +kernel
theorem dX13_valueOf_51 : decode cX13_valueOf 51 = .ok (.bipush 8, 2) := by decide +kernel
theorem dX13_valueOf_53 : decode cX13_valueOf 53 = .ok (.aload_n 0, 1) := by decide +kernel
theorem dX13_valueOf_54 : decode cX13_valueOf 54 = .ok (.getfield 43, 3) := by decide +kernel
theorem dX13_valueOf_57 : decode cX13_valueOf 57 = .ok (.getfield 252, 3) := by decide +kernel
theorem dX13_valueOf_60 : decode cX13_valueOf 60 = .ok (.iload_n 1, 1) := by decide +kernel
theorem dX13_valueOf_61 : decode cX13_valueOf 61 = .ok (.iaload, 1) := by decide +kernel
theorem dX13_valueOf_62 : decode cX13_valueOf 62 = .ok (.invokestatic 420, 3) := by decide +kernel
theorem dX13_valueOf_65 : decode cX13_valueOf 65 = .ok (.lreturn, 1) := by decide +kernel
theorem dX13_valueOf_66 : decode cX13_valueOf 66 = .ok (.aload_n 0, 1) := by decide +kernel
theorem dX13_valueOf_67 : decode cX13_valueOf 67 = .ok (.getfield 92, 3) := by decide +kernel
theorem dX13_valueOf_70 : decode cX13_valueOf 70 = .ok (.aload_n 0, 1) := by decide +kernel
theorem dX13_valueOf_71 : decode cX13_valueOf 71 = .ok (.iload_n 1, 1) := by decide +kernel
theorem dX13_valueOf_72 : decode cX13_valueOf 72 = .ok (.invokevirtual 522, 3) := by decide +kernel
theorem dX13_valueOf_75 : decode cX13_valueOf 75 = .ok (.laload, 1) := by decide +kernel
theorem dX13_valueOf_76 : decode cX13_valueOf 76 = .ok (.lreturn, 1) := by decide +kernel
theorem dX13_partOf_0 : decode cX13_partOf 0 = .ok (.aload_n 0, 1) := by decide +kernel
theorem dX13_partOf_1 : decode cX13_partOf 1 = .ok (.getfield 43, 3) := by decide +kernel
theorem dX13_partOf_4 : decode cX13_partOf 4 = .ok (.getfield 243, 3) := by decide +kernel
theorem dX13_partOf_7 : decode cX13_partOf 7 = .ok (.iload_n 1, 1) := by decide +kernel
theorem dX13_partOf_8 : decode cX13_partOf 8 = .ok (.iaload, 1) := by decide +kernel
theorem dX13_partOf_9 : decode cX13_partOf 9 = .ok (.istore_n 3, 1) := by decide +kernel
theorem dX13_partOf_10 : decode cX13_partOf 10 = .ok (.iconst 0, 1) := by decide +kernel
theorem dX13_partOf_11 : decode cX13_partOf 11 = .ok (.istore 4, 2) := by decide +kernel
theorem dX13_partOf_13 : decode cX13_partOf 13 = .ok (.iload 4, 2) := by decide +kernel
theorem dX13_partOf_15 : decode cX13_partOf 15 = .ok (.iload_n 2, 1) := by decide +kernel
theorem dX13_partOf_16 : decode cX13_partOf 16 = .ok (.if_icmp .ge 19, 3) := by decide +kernel
theorem dX13_partOf_19 : decode cX13_partOf 19 = .ok (.aload_n 0, 1) := by decide +kernel
theorem dX13_partOf_20 : decode cX13_partOf 20 = .ok (.getfield 43, 3) := by decide +kernel
theorem dX13_partOf_23 : decode cX13_partOf 23 = .ok (.getfield 246, 3) := by decide +kernel
theorem dX13_partOf_26 : decode cX13_partOf 26 = .ok (.iload_n 3, 1) := by decide +kernel
theorem dX13_partOf_27 : decode cX13_partOf 27 = .ok (.iaload, 1) := by decide +kernel
theorem dX13_partOf_28 : decode cX13_partOf 28 = .ok (.istore_n 3, 1) := by decide +kernel
theorem dX13_partOf_29 : decode cX13_partOf 29 = .ok (.iinc 4 1, 3) := by decide +kernel
theorem dX13_partOf_32 : decode cX13_partOf 32 = .ok (.goto (-19), 3) := by decide +kernel
theorem dX13_partOf_35 : decode cX13_partOf 35 = .ok (.iload_n 3, 1) := by decide +kernel
theorem dX13_partOf_36 : decode cX13_partOf 36 = .ok (.ireturn, 1) := by decide +kernel
theorem dX13_formWord_0 : decode cX13_formWord 0 = .ok (.aload_n 0, 1) := by decide +kernel
theorem dX13_formWord_1 : decode cX13_formWord 1 = .ok (.getfield 43, 3) := by decide +kernel
theorem dX13_formWord_4 : decode cX13_formWord 4 = .ok (.getfield 243, 3) := by decide +kernel
theorem dX13_formWord_7 : decode cX13_formWord 7 = .ok (.iload_n 1, 1) := by decide +kernel
theorem dX13_formWord_8 : decode cX13_formWord 8 = .ok (.iaload, 1) := by decide +kernel
theorem dX13_formWord_9 : decode cX13_formWord 9 = .ok (.istore_n 2, 1) := by decide +kernel
theorem dX13_formWord_10 : decode cX13_formWord 10 = .ok (.aload_n 0, 1) := by decide +kernel
theorem dX13_formWord_11 : decode cX13_formWord 11 = .ok (.getfield 43, 3) := by decide +kernel
theorem dX13_formWord_14 : decode cX13_formWord 14 = .ok (.getfield 235, 3) := by decide +kernel
theorem dX13_formWord_17 : decode cX13_formWord 17 = .ok (.iload_n 2, 1) := by decide +kernel
theorem dX13_formWord_18 : decode cX13_formWord 18 = .ok (.iaload, 1) := by decide +kernel
theorem dX13_formWord_19 : decode cX13_formWord 19 = .ok (.iconst 3, 1) := by decide +kernel
theorem dX13_formWord_20 : decode cX13_formWord 20 = .ok (.if_icmp .eq 5, 3) := by decide +kernel
theorem dX13_formWord_23 : decode cX13_formWord 23 = .ok (.iconst 0, 1) := by decide +kernel
theorem dX13_formWord_24 : decode cX13_formWord 24 = .ok (.ireturn, 1) := by decide +kernel
theorem dX13_formWord_25 : decode cX13_formWord 25 = .ok (.aload_n 0, 1) := by decide +kernel
theorem dX13_formWord_26 : decode cX13_formWord 26 = .ok (.getfield 43, 3) := by decide +kernel
theorem dX13_formWord_29 : decode cX13_formWord 29 = .ok (.getfield 209, 3) := by decide +kernel
theorem dX13_formWord_32 : decode cX13_formWord 32 = .ok (.aload_n 0, 1) := by decide +kernel
theorem dX13_formWord_33 : decode cX13_formWord 33 = .ok (.getfield 43, 3) := by decide +kernel
theorem dX13_formWord_36 : decode cX13_formWord 36 = .ok (.getfield 238, 3) := by decide +kernel
theorem dX13_formWord_39 : decode cX13_formWord 39 = .ok (.iload_n 2, 1) := by decide +kernel
theorem dX13_formWord_40 : decode cX13_formWord 40 = .ok (.iaload, 1) := by decide +kernel
theorem dX13_formWord_41 : decode cX13_formWord 41 = .ok (.iaload, 1) := by decide +kernel
theorem dX13_formWord_42 : decode cX13_formWord 42 = .ok (.istore_n 3, 1) := by decide +kernel
theorem dX13_formWord_43 : decode cX13_formWord 43 = .ok (.iload_n 3, 1) := by decide +kernel
theorem dX13_formWord_44 : decode cX13_formWord 44 = .ok (.bipush 10, 2) := by decide +kernel
theorem dX13_formWord_46 : decode cX13_formWord 46 = .ok (.if_icmp .gt 7, 3) := by decide +kernel
theorem dX13_formWord_49 : decode cX13_formWord 49 = .ok (.iload_n 3, 1) := by decide +kernel
theorem dX13_formWord_50 : decode cX13_formWord 50 = .ok (.goto 4, 3) := by decide +kernel
theorem dX13_formWord_53 : decode cX13_formWord 53 = .ok (.iconst 0, 1) := by decide +kernel
theorem dX13_formWord_54 : decode cX13_formWord 54 = .ok (.ireturn, 1) := by decide +kernel
theorem dX13_works_0 : decode cX13_works 0 = .ok (.aload_n 0, 1) := by decide +kernel
theorem dX13_works_1 : decode cX13_works 1 = .ok (.getfield 43, 3) := by decide +kernel
theorem dX13_works_4 : decode cX13_works 4 = .ok (.getfield 235, 3) := by decide +kernel
theorem dX13_works_7 : decode cX13_works 7 = .ok (.iload_n 1, 1) := by decide +kernel
theorem dX13_works_8 : decode cX13_works 8 = .ok (.iaload, 1) := by decide +kernel
theorem dX13_works_9 : decode cX13_works 9 = .ok (.tableswitch 103 0 3 #[31, 49, 49, 75], 31) := by decide +kernel
theorem dX13_works_40 : decode cX13_works 40 = .ok (.aload_n 0, 1) := by decide +kernel
theorem dX13_works_41 : decode cX13_works 41 = .ok (.iconst 1, 1) := by decide +kernel
theorem dX13_works_42 : decode cX13_works 42 = .ok (.aload_n 0, 1) := by decide +kernel
theorem dX13_works_43 : decode cX13_works 43 = .ok (.getfield 43, 3) := by decide +kernel
theorem dX13_works_46 : decode cX13_works 46 = .ok (.getfield 238, 3) := by decide +kernel
theorem dX13_works_49 : decode cX13_works 49 = .ok (.iload_n 1, 1) := by decide +kernel
theorem dX13_works_50 : decode cX13_works 50 = .ok (.iaload, 1) := by decide +kernel
theorem dX13_works_51 : decode cX13_works 51 = .ok (.invokestatic 420, 3) := by decide +kernel
theorem dX13_works_54 : decode cX13_works 54 = .ok (.invokevirtual 525, 3) := by decide +kernel
theorem dX13_works_57 : decode cX13_works 57 = .ok (.return_, 1) := by decide +kernel
theorem dX13_works_58 : decode cX13_works 58 = .ok (.aload_n 0, 1) := by decide +kernel
theorem dX13_works_59 : decode cX13_works 59 = .ok (.aload_n 0, 1) := by decide +kernel
theorem dX13_works_60 : decode cX13_works 60 = .ok (.getfield 43, 3) := by decide +kernel
theorem dX13_works_63 : decode cX13_works 63 = .ok (.getfield 235, 3) := by decide +kernel
theorem dX13_works_66 : decode cX13_works 66 = .ok (.iload_n 1, 1) := by decide +kernel
theorem dX13_works_67 : decode cX13_works 67 = .ok (.iaload, 1) := by decide +kernel
theorem dX13_works_68 : decode cX13_works 68 = .ok (.iconst 1, 1) := by decide +kernel
theorem dX13_works_69 : decode cX13_works 69 = .ok (.if_icmp .ne 7, 3) := by decide +kernel
theorem dX13_works_72 : decode cX13_works 72 = .ok (.iconst 1, 1) := by decide +kernel
theorem dX13_works_73 : decode cX13_works 73 = .ok (.goto 4, 3) := by decide +kernel
theorem dX13_works_76 : decode cX13_works 76 = .ok (.iconst 0, 1) := by decide +kernel
theorem dX13_works_77 : decode cX13_works 77 = .ok (.invokestatic 529, 3) := by decide +kernel
theorem dX13_works_80 : decode cX13_works 80 = .ok (.invokevirtual 525, 3) := by decide +kernel
theorem dX13_works_83 : decode cX13_works 83 = .ok (.return_, 1) := by decide +kernel
theorem dX13_works_84 : decode cX13_works 84 = .ok (.aload_n 0, 1) := by decide +kernel
theorem dX13_works_85 : decode cX13_works 85 = .ok (.iload_n 1, 1) := by decide +kernel
theorem dX13_works_86 : decode cX13_works 86 = .ok (.invokevirtual 533, 3) := by decide +kernel
theorem dX13_works_89 : decode cX13_works 89 = .ok (.lstore_n 2, 1) := by decide +kernel
theorem dX13_works_90 : decode cX13_works 90 = .ok (.lload_n 2, 1) := by decide +kernel
theorem dX13_works_91 : decode cX13_works 91 = .ok (.ldc2_w 480, 3) := by decide +kernel
theorem dX13_works_94 : decode cX13_works 94 = .ok (.lcmp, 1) := by decide +kernel
theorem dX13_works_95 : decode cX13_works 95 = .ok (.ifCond .ne 11, 3) := by decide +kernel
theorem dX13_works_98 : decode cX13_works 98 = .ok (.aload_n 0, 1) := by decide +kernel
theorem dX13_works_99 : decode cX13_works 99 = .ok (.iconst 5, 1) := by decide +kernel
theorem dX13_works_100 : decode cX13_works 100 = .ok (.putfield 536, 3) := by decide +kernel
theorem dX13_works_103 : decode cX13_works 103 = .ok (.goto 8, 3) := by decide +kernel
theorem dX13_works_106 : decode cX13_works 106 = .ok (.aload_n 0, 1) := by decide +kernel
theorem dX13_works_107 : decode cX13_works 107 = .ok (.lload_n 2, 1) := by decide +kernel
theorem dX13_works_108 : decode cX13_works 108 = .ok (.invokevirtual 525, 3) := by decide +kernel
theorem dX13_works_111 : decode cX13_works 111 = .ok (.return_, 1) := by decide +kernel
theorem dX13_works_112 : decode cX13_works 112 = .ok (.aload_n 0, 1) := by decide +kernel
theorem dX13_works_113 : decode cX13_works 113 = .ok (.iload_n 1, 1) := by decide +kernel
theorem dX13_works_114 : decode cX13_works 114 = .ok (.invokevirtual 539, 3) := by decide +kernel
theorem dX13_works_117 : decode cX13_works 117 = .ok (.return_, 1) := by decide +kernel
theorem dX13_worksList_0 : decode cX13_worksList 0 = .ok (.aload_n 0, 1) := by decide +kernel
theorem dX13_worksList_1 : decode cX13_worksList 1 = .ok (.iload_n 1, 1) := by decide +kernel
theorem dX13_worksList_2 : decode cX13_worksList 2 = .ok (.invokevirtual 542, 3) := by decide +kernel
theorem dX13_worksList_5 : decode cX13_worksList 5 = .ok (.tableswitch 184 1 10 #[55, 73, 81, 101, 115, 123, 143, 156, 156, 123], 55) := by decide +kernel
theorem dX13_worksList_60 : decode cX13_worksList 60 = .ok (.aload_n 0, 1) := by decide +kernel
theorem dX13_worksList_61 : decode cX13_worksList 61 = .ok (.aload_n 0, 1) := by decide +kernel
theorem dX13_worksList_62 : decode cX13_worksList 62 = .ok (.getfield 76, 3) := by decide +kernel
theorem dX13_worksList_65 : decode cX13_worksList 65 = .ok (.aload_n 0, 1) := by decide +kernel
theorem dX13_worksList_66 : decode cX13_worksList 66 = .ok (.iload_n 1, 1) := by decide +kernel
theorem dX13_worksList_67 : decode cX13_worksList 67 = .ok (.iconst 1, 1) := by decide +kernel
theorem dX13_worksList_68 : decode cX13_worksList 68 = .ok (.invokevirtual 545, 3) := by decide +kernel
theorem dX13_worksList_71 : decode cX13_worksList 71 = .ok (.laload, 1) := by decide +kernel
theorem dX13_worksList_72 : decode cX13_worksList 72 = .ok (.invokevirtual 525, 3) := by decide +kernel
theorem dX13_worksList_75 : decode cX13_worksList 75 = .ok (.goto 143, 3) := by decide +kernel
theorem dX13_worksList_78 : decode cX13_worksList 78 = .ok (.aload_n 0, 1) := by decide +kernel
theorem dX13_worksList_79 : decode cX13_worksList 79 = .ok (.iload_n 1, 1) := by decide +kernel
theorem dX13_worksList_80 : decode cX13_worksList 80 = .ok (.invokevirtual 548, 3) := by decide +kernel
theorem dX13_worksList_83 : decode cX13_worksList 83 = .ok (.goto 135, 3) := by decide +kernel
theorem dX13_worksList_86 : decode cX13_worksList 86 = .ok (.aload_n 0, 1) := by decide +kernel
theorem dX13_worksList_87 : decode cX13_worksList 87 = .ok (.iconst 1, 1) := by decide +kernel
theorem dX13_worksList_88 : decode cX13_worksList 88 = .ok (.iload_n 1, 1) := by decide +kernel
theorem dX13_worksList_89 : decode cX13_worksList 89 = .ok (.iconst 0, 1) := by decide +kernel
theorem dX13_worksList_90 : decode cX13_worksList 90 = .ok (.invokevirtual 512, 3) := by decide +kernel
theorem dX13_worksList_93 : decode cX13_worksList 93 = .ok (.aload_n 0, 1) := by decide +kernel
theorem dX13_worksList_94 : decode cX13_worksList 94 = .ok (.aload_n 0, 1) := by decide +kernel
theorem dX13_worksList_95 : decode cX13_worksList 95 = .ok (.iload_n 1, 1) := by decide +kernel
theorem dX13_worksList_96 : decode cX13_worksList 96 = .ok (.iconst 1, 1) := by decide +kernel
theorem dX13_worksList_97 : decode cX13_worksList 97 = .ok (.invokevirtual 545, 3) := by decide +kernel
theorem dX13_worksList_100 : decode cX13_worksList 100 = .ok (.invokevirtual 551, 3) := by decide +kernel
theorem dX13_worksList_103 : decode cX13_worksList 103 = .ok (.goto 115, 3) := by decide +kernel
theorem dX13_worksList_106 : decode cX13_worksList 106 = .ok (.aload_n 0, 1) := by decide +kernel
theorem dX13_worksList_107 : decode cX13_worksList 107 = .ok (.iload_n 1, 1) := by decide +kernel
theorem dX13_worksList_108 : decode cX13_worksList 108 = .ok (.aload_n 0, 1) := by decide +kernel
theorem dX13_worksList_109 : decode cX13_worksList 109 = .ok (.iload_n 1, 1) := by decide +kernel
theorem dX13_worksList_110 : decode cX13_worksList 110 = .ok (.iconst 1, 1) := by decide +kernel
theorem dX13_worksList_111 : decode cX13_worksList 111 = .ok (.invokevirtual 545, 3) := by decide +kernel
theorem dX13_worksList_114 : decode cX13_worksList 114 = .ok (.invokevirtual 553, 3) := by decide +kernel
theorem dX13_worksList_117 : decode cX13_worksList 117 = .ok (.goto 101, 3) := by decide +kernel
theorem dX13_worksList_120 : decode cX13_worksList 120 = .ok (.aload_n 0, 1) := by decide +kernel
theorem dX13_worksList_121 : decode cX13_worksList 121 = .ok (.iload_n 1, 1) := by decide +kernel
theorem dX13_worksList_122 : decode cX13_worksList 122 = .ok (.invokevirtual 556, 3) := by decide +kernel
theorem dX13_worksList_125 : decode cX13_worksList 125 = .ok (.goto 93, 3) := by decide +kernel
theorem dX13_worksList_128 : decode cX13_worksList 128 = .ok (.aload_n 0, 1) := by decide +kernel
theorem dX13_worksList_129 : decode cX13_worksList 129 = .ok (.iconst 4, 1) := by decide +kernel
theorem dX13_worksList_130 : decode cX13_worksList 130 = .ok (.iload_n 1, 1) := by decide +kernel
theorem dX13_worksList_131 : decode cX13_worksList 131 = .ok (.iconst 0, 1) := by decide +kernel
theorem dX13_worksList_132 : decode cX13_worksList 132 = .ok (.invokevirtual 512, 3) := by decide +kernel
theorem dX13_worksList_135 : decode cX13_worksList 135 = .ok (.aload_n 0, 1) := by decide +kernel
theorem dX13_worksList_136 : decode cX13_worksList 136 = .ok (.aload_n 0, 1) := by decide +kernel
theorem dX13_worksList_137 : decode cX13_worksList 137 = .ok (.iload_n 1, 1) := by decide +kernel
theorem dX13_worksList_138 : decode cX13_worksList 138 = .ok (.iconst 2, 1) := by decide +kernel
theorem dX13_worksList_139 : decode cX13_worksList 139 = .ok (.invokevirtual 545, 3) := by decide +kernel
theorem dX13_worksList_142 : decode cX13_worksList 142 = .ok (.invokevirtual 551, 3) := by decide +kernel
theorem dX13_worksList_145 : decode cX13_worksList 145 = .ok (.goto 73, 3) := by decide +kernel
theorem dX13_worksList_148 : decode cX13_worksList 148 = .ok (.aload_n 0, 1) := by decide +kernel
theorem dX13_worksList_149 : decode cX13_worksList 149 = .ok (.aload_n 0, 1) := by decide +kernel
theorem dX13_worksList_150 : decode cX13_worksList 150 = .ok (.iload_n 1, 1) := by decide +kernel
theorem dX13_worksList_151 : decode cX13_worksList 151 = .ok (.iconst 1, 1) := by decide +kernel
theorem dX13_worksList_152 : decode cX13_worksList 152 = .ok (.invokevirtual 545, 3) := by decide +kernel
theorem dX13_worksList_155 : decode cX13_worksList 155 = .ok (.invokevirtual 559, 3) := by decide +kernel
theorem dX13_worksList_158 : decode cX13_worksList 158 = .ok (.goto 60, 3) := by decide +kernel
theorem dX13_worksList_161 : decode cX13_worksList 161 = .ok (.aload_n 0, 1) := by decide +kernel
theorem dX13_worksList_162 : decode cX13_worksList 162 = .ok (.aload_n 0, 1) := by decide +kernel
theorem dX13_worksList_163 : decode cX13_worksList 163 = .ok (.iload_n 1, 1) := by decide +kernel
theorem dX13_worksList_164 : decode cX13_worksList 164 = .ok (.invokevirtual 542, 3) := by decide +kernel
theorem dX13_worksList_167 : decode cX13_worksList 167 = .ok (.bipush 8, 2) := by decide +kernel
theorem dX13_worksList_169 : decode cX13_worksList 169 = .ok (.if_icmp .ne 7, 3) := by decide +kernel
theorem dX13_worksList_172 : decode cX13_worksList 172 = .ok (.iconst 2, 1) := by decide +kernel
theorem dX13_worksList_173 : decode cX13_worksList 173 = .ok (.goto 4, 3) := by decide +kernel
theorem dX13_worksList_176 : decode cX13_worksList 176 = .ok (.iconst 3, 1) := by decide +kernel
theorem dX13_worksList_177 : decode cX13_worksList 177 = .ok (.aload_n 0, 1) := by decide +kernel
theorem dX13_worksList_178 : decode cX13_worksList 178 = .ok (.iload_n 1, 1) := by decide +kernel
theorem dX13_worksList_179 : decode cX13_worksList 179 = .ok (.iconst 1, 1) := by decide +kernel
theorem dX13_worksList_180 : decode cX13_worksList 180 = .ok (.invokevirtual 545, 3) := by decide +kernel
theorem dX13_worksList_183 : decode cX13_worksList 183 = .ok (.invokevirtual 561, 3) := by decide +kernel
theorem dX13_worksList_186 : decode cX13_worksList 186 = .ok (.goto 32, 3) := by decide +kernel
theorem dX13_worksList_189 : decode cX13_worksList 189 = .ok (.aload_n 0, 1) := by decide +kernel
theorem dX13_worksList_190 : decode cX13_worksList 190 = .ok (.bipush 7, 2) := by decide +kernel
theorem dX13_worksList_192 : decode cX13_worksList 192 = .ok (.aload_n 0, 1) := by decide +kernel
theorem dX13_worksList_193 : decode cX13_worksList 193 = .ok (.getfield 43, 3) := by decide +kernel
theorem dX13_worksList_196 : decode cX13_worksList 196 = .ok (.getfield 243, 3) := by decide +kernel
theorem dX13_worksList_199 : decode cX13_worksList 199 = .ok (.iload_n 1, 1) := by decide +kernel
theorem dX13_worksList_200 : decode cX13_worksList 200 = .ok (.iaload, 1) := by decide +kernel
theorem dX13_worksList_201 : decode cX13_worksList 201 = .ok (.iload_n 1, 1) := by decide +kernel
theorem dX13_worksList_202 : decode cX13_worksList 202 = .ok (.invokevirtual 512, 3) := by decide +kernel
theorem dX13_worksList_205 : decode cX13_worksList 205 = .ok (.aload_n 0, 1) := by decide +kernel
theorem dX13_worksList_206 : decode cX13_worksList 206 = .ok (.aload_n 0, 1) := by decide +kernel
theorem dX13_worksList_207 : decode cX13_worksList 207 = .ok (.getfield 43, 3) := by decide +kernel
theorem dX13_worksList_210 : decode cX13_worksList 210 = .ok (.getfield 243, 3) := by decide +kernel
theorem dX13_worksList_213 : decode cX13_worksList 213 = .ok (.iload_n 1, 1) := by decide +kernel
theorem dX13_worksList_214 : decode cX13_worksList 214 = .ok (.iaload, 1) := by decide +kernel
theorem dX13_worksList_215 : decode cX13_worksList 215 = .ok (.invokevirtual 551, 3) := by decide +kernel
theorem dX13_worksList_218 : decode cX13_worksList 218 = .ok (.return_, 1) := by decide +kernel
theorem dX13_forms_0 : decode cX13_forms 0 = .ok (.aload_n 0, 1) := by decide +kernel
theorem dX13_forms_1 : decode cX13_forms 1 = .ok (.getfield 43, 3) := by decide +kernel
theorem dX13_forms_4 : decode cX13_forms 4 = .ok (.getfield 246, 3) := by decide +kernel
theorem dX13_forms_7 : decode cX13_forms 7 = .ok (.iload_n 1, 1) := by decide +kernel
theorem dX13_forms_8 : decode cX13_forms 8 = .ok (.iaload, 1) := by decide +kernel
theorem dX13_forms_9 : decode cX13_forms 9 = .ok (.iconst (-1), 1) := by decide +kernel
theorem dX13_forms_10 : decode cX13_forms 10 = .ok (.if_icmp .eq 18, 3) := by decide +kernel
theorem dX13_forms_13 : decode cX13_forms 13 = .ok (.aload_n 0, 1) := by decide +kernel
theorem dX13_forms_14 : decode cX13_forms 14 = .ok (.iconst 0, 1) := by decide +kernel
theorem dX13_forms_15 : decode cX13_forms 15 = .ok (.aload_n 0, 1) := by decide +kernel
theorem dX13_forms_16 : decode cX13_forms 16 = .ok (.getfield 43, 3) := by decide +kernel
theorem dX13_forms_19 : decode cX13_forms 19 = .ok (.getfield 246, 3) := by decide +kernel
theorem dX13_forms_22 : decode cX13_forms 22 = .ok (.iload_n 1, 1) := by decide +kernel
theorem dX13_forms_23 : decode cX13_forms 23 = .ok (.iaload, 1) := by decide +kernel
theorem dX13_forms_24 : decode cX13_forms 24 = .ok (.iconst 0, 1) := by decide +kernel
theorem dX13_forms_25 : decode cX13_forms 25 = .ok (.invokevirtual 512, 3) := by decide +kernel
theorem dX13_forms_28 : decode cX13_forms 28 = .ok (.aload_n 0, 1) := by decide +kernel
theorem dX13_forms_29 : decode cX13_forms 29 = .ok (.iload_n 1, 1) := by decide +kernel
theorem dX13_forms_30 : decode cX13_forms 30 = .ok (.invokevirtual 551, 3) := by decide +kernel
theorem dX13_forms_33 : decode cX13_forms 33 = .ok (.return_, 1) := by decide +kernel
theorem dX13_choices_0 : decode cX13_choices 0 = .ok (.aload_n 0, 1) := by decide +kernel
theorem dX13_choices_1 : decode cX13_choices 1 = .ok (.getfield 43, 3) := by decide +kernel
theorem dX13_choices_4 : decode cX13_choices 4 = .ok (.getfield 246, 3) := by decide +kernel
theorem dX13_choices_7 : decode cX13_choices 7 = .ok (.iload_n 2, 1) := by decide +kernel
theorem dX13_choices_8 : decode cX13_choices 8 = .ok (.iaload, 1) := by decide +kernel
theorem dX13_choices_9 : decode cX13_choices 9 = .ok (.iconst (-1), 1) := by decide +kernel
theorem dX13_choices_10 : decode cX13_choices 10 = .ok (.if_icmp .eq 18, 3) := by decide +kernel
theorem dX13_choices_13 : decode cX13_choices 13 = .ok (.aload_n 0, 1) := by decide +kernel
theorem dX13_choices_14 : decode cX13_choices 14 = .ok (.iload_n 1, 1) := by decide +kernel
theorem dX13_choices_15 : decode cX13_choices 15 = .ok (.aload_n 0, 1) := by decide +kernel
theorem dX13_choices_16 : decode cX13_choices 16 = .ok (.getfield 43, 3) := by decide +kernel
theorem dX13_choices_19 : decode cX13_choices 19 = .ok (.getfield 246, 3) := by decide +kernel
theorem dX13_choices_22 : decode cX13_choices 22 = .ok (.iload_n 2, 1) := by decide +kernel
theorem dX13_choices_23 : decode cX13_choices 23 = .ok (.iaload, 1) := by decide +kernel
theorem dX13_choices_24 : decode cX13_choices 24 = .ok (.iconst 0, 1) := by decide +kernel
theorem dX13_choices_25 : decode cX13_choices 25 = .ok (.invokevirtual 512, 3) := by decide +kernel
theorem dX13_choices_28 : decode cX13_choices 28 = .ok (.aload_n 0, 1) := by decide +kernel
theorem dX13_choices_29 : decode cX13_choices 29 = .ok (.iload_n 2, 1) := by decide +kernel
theorem dX13_choices_30 : decode cX13_choices 30 = .ok (.invokevirtual 551, 3) := by decide +kernel
theorem dX13_choices_33 : decode cX13_choices 33 = .ok (.return_, 1) := by decide +kernel
theorem dX13_closes_0 : decode cX13_closes 0 = .ok (.aload_n 0, 1) := by decide +kernel
theorem dX13_closes_1 : decode cX13_closes 1 = .ok (.getfield 43, 3) := by decide +kernel
theorem dX13_closes_4 : decode cX13_closes 4 = .ok (.getfield 252, 3) := by decide +kernel
theorem dX13_closes_7 : decode cX13_closes 7 = .ok (.iload_n 1, 1) := by decide +kernel
theorem dX13_closes_8 : decode cX13_closes 8 = .ok (.iaload, 1) := by decide +kernel
theorem dX13_closes_9 : decode cX13_closes 9 = .ok (.istore_n 2, 1) := by decide +kernel
theorem dX13_closes_10 : decode cX13_closes 10 = .ok (.aload_n 0, 1) := by decide +kernel
theorem dX13_closes_11 : decode cX13_closes 11 = .ok (.getfield 43, 3) := by decide +kernel
theorem dX13_closes_14 : decode cX13_closes 14 = .ok (.getfield 332, 3) := by decide +kernel
theorem dX13_closes_17 : decode cX13_closes 17 = .ok (.iload_n 2, 1) := by decide +kernel
theorem dX13_closes_18 : decode cX13_closes 18 = .ok (.iaload, 1) := by decide +kernel
theorem dX13_closes_19 : decode cX13_closes 19 = .ok (.istore_n 3, 1) := by decide +kernel
theorem dX13_closes_20 : decode cX13_closes 20 = .ok (.aload_n 0, 1) := by decide +kernel
theorem dX13_closes_21 : decode cX13_closes 21 = .ok (.getfield 468, 3) := by decide +kernel
theorem dX13_closes_24 : decode cX13_closes 24 = .ok (.iconst 1, 1) := by decide +kernel
theorem dX13_closes_25 : decode cX13_closes 25 = .ok (.iadd, 1) := by decide +kernel
theorem dX13_closes_26 : decode cX13_closes 26 = .ok (.iload_n 3, 1) := by decide +kernel
theorem dX13_closes_27 : decode cX13_closes 27 = .ok (.iadd, 1) := by decide +kernel
theorem dX13_closes_28 : decode cX13_closes 28 = .ok (.ldc_w 564, 3) := by decide +kernel
theorem dX13_closes_31 : decode cX13_closes 31 = .ok (.if_icmp .le 10, 3) := by decide +kernel
theorem dX13_closes_34 : decode cX13_closes 34 = .ok (.aload_n 0, 1) := by decide +kernel
theorem dX13_closes_35 : decode cX13_closes 35 = .ok (.bipush 6, 2) := by decide +kernel
theorem dX13_closes_37 : decode cX13_closes 37 = .ok (.putfield 536, 3) := by decide +kernel
theorem dX13_closes_40 : decode cX13_closes 40 = .ok (.return_, 1) := by decide +kernel
theorem dX13_closes_41 : decode cX13_closes 41 = .ok (.aload_n 0, 1) := by decide +kernel
theorem dX13_closes_42 : decode cX13_closes 42 = .ok (.dup, 1) := by decide +kernel
theorem dX13_closes_43 : decode cX13_closes 43 = .ok (.getfield 468, 3) := by decide +kernel
theorem dX13_closes_46 : decode cX13_closes 46 = .ok (.iconst 1, 1) := by decide +kernel
theorem dX13_closes_47 : decode cX13_closes 47 = .ok (.iload_n 3, 1) := by decide +kernel
theorem dX13_closes_48 : decode cX13_closes 48 = .ok (.iadd, 1) := by decide +kernel
theorem dX13_closes_49 : decode cX13_closes 49 = .ok (.iadd, 1) := by decide +kernel
theorem dX13_closes_50 : decode cX13_closes 50 = .ok (.putfield 468, 3) := by decide +kernel
theorem dX13_closes_53 : decode cX13_closes 53 = .ok (.aload_n 0, 1) := by decide +kernel
theorem dX13_closes_54 : decode cX13_closes 54 = .ok (.getfield 465, 3) := by decide +kernel
theorem dX13_closes_57 : decode cX13_closes 57 = .ok (.istore 4, 2) := by decide +kernel
theorem dX13_closes_59 : decode cX13_closes 59 = .ok (.aload_n 0, 1) := by decide +kernel
theorem dX13_closes_60 : decode cX13_closes 60 = .ok (.getfield 83, 3) := by decide +kernel
theorem dX13_closes_63 : decode cX13_closes 63 = .ok (.iload 4, 2) := by decide +kernel
theorem dX13_closes_65 : decode cX13_closes 65 = .ok (.iload_n 2, 1) := by decide +kernel
theorem dX13_closes_66 : decode cX13_closes 66 = .ok (.iastore, 1) := by decide +kernel
theorem dX13_closes_67 : decode cX13_closes 67 = .ok (.aload_n 0, 1) := by decide +kernel
theorem dX13_closes_68 : decode cX13_closes 68 = .ok (.getfield 86, 3) := by decide +kernel
theorem dX13_closes_71 : decode cX13_closes 71 = .ok (.iload 4, 2) := by decide +kernel
theorem dX13_closes_73 : decode cX13_closes 73 = .ok (.aload_n 0, 1) := by decide +kernel
theorem dX13_closes_74 : decode cX13_closes 74 = .ok (.getfield 441, 3) := by decide +kernel
theorem dX13_closes_77 : decode cX13_closes 77 = .ok (.iastore, 1) := by decide +kernel
theorem dX13_closes_78 : decode cX13_closes 78 = .ok (.iconst 0, 1) := by decide +kernel
theorem dX13_closes_79 : decode cX13_closes 79 = .ok (.istore 5, 2) := by decide +kernel
theorem dX13_closes_81 : decode cX13_closes 81 = .ok (.iload 5, 2) := by decide +kernel
theorem dX13_closes_83 : decode cX13_closes 83 = .ok (.iload_n 3, 1) := by decide +kernel
theorem dX13_closes_84 : decode cX13_closes 84 = .ok (.if_icmp .ge 98, 3) := by decide +kernel
theorem dX13_closes_87 : decode cX13_closes 87 = .ok (.aload_n 0, 1) := by decide +kernel
theorem dX13_closes_88 : decode cX13_closes 88 = .ok (.getfield 43, 3) := by decide +kernel
theorem dX13_closes_91 : decode cX13_closes 91 = .ok (.getfield 365, 3) := by decide +kernel
theorem dX13_closes_94 : decode cX13_closes 94 = .ok (.sipush 256, 3) := by decide +kernel
theorem dX13_closes_97 : decode cX13_closes 97 = .ok (.iload_n 2, 1) := by decide +kernel
theorem dX13_closes_98 : decode cX13_closes 98 = .ok (.imul, 1) := by decide +kernel
theorem dX13_closes_99 : decode cX13_closes 99 = .ok (.iload 5, 2) := by decide +kernel
theorem dX13_closes_101 : decode cX13_closes 101 = .ok (.iadd, 1) := by decide +kernel
theorem dX13_closes_102 : decode cX13_closes 102 = .ok (.iaload, 1) := by decide +kernel
theorem dX13_closes_103 : decode cX13_closes 103 = .ok (.istore 6, 2) := by decide +kernel
theorem dX13_closes_105 : decode cX13_closes 105 = .ok (.aload_n 0, 1) := by decide +kernel
theorem dX13_closes_106 : decode cX13_closes 106 = .ok (.getfield 89, 3) := by decide +kernel
theorem dX13_closes_109 : decode cX13_closes 109 = .ok (.aload_n 0, 1) := by decide +kernel
theorem dX13_closes_110 : decode cX13_closes 110 = .ok (.getfield 441, 3) := by decide +kernel
theorem dX13_closes_113 : decode cX13_closes 113 = .ok (.aload_n 0, 1) := by decide +kernel
theorem dX13_closes_114 : decode cX13_closes 114 = .ok (.getfield 43, 3) := by decide +kernel
theorem dX13_closes_117 : decode cX13_closes 117 = .ok (.getfield 362, 3) := by decide +kernel
theorem dX13_closes_120 : decode cX13_closes 120 = .ok (.sipush 256, 3) := by decide +kernel
theorem dX13_closes_123 : decode cX13_closes 123 = .ok (.iload_n 2, 1) := by decide +kernel
theorem dX13_closes_124 : decode cX13_closes 124 = .ok (.imul, 1) := by decide +kernel
theorem dX13_closes_125 : decode cX13_closes 125 = .ok (.iload 5, 2) := by decide +kernel
theorem dX13_closes_127 : decode cX13_closes 127 = .ok (.iadd, 1) := by decide +kernel
theorem dX13_closes_128 : decode cX13_closes 128 = .ok (.iaload, 1) := by decide +kernel
theorem dX13_closes_129 : decode cX13_closes 129 = .ok (.iconst 1, 1) := by decide +kernel
theorem dX13_closes_130 : decode cX13_closes 130 = .ok (.if_icmp .ne 18, 3) := by decide +kernel
theorem dX13_closes_133 : decode cX13_closes 133 = .ok (.aload_n 0, 1) := by decide +kernel
theorem dX13_closes_134 : decode cX13_closes 134 = .ok (.getfield 98, 3) := by decide +kernel
theorem dX13_closes_137 : decode cX13_closes 137 = .ok (.aload_n 0, 1) := by decide +kernel
theorem dX13_closes_138 : decode cX13_closes 138 = .ok (.getfield 474, 3) := by decide +kernel
theorem dX13_closes_141 : decode cX13_closes 141 = .ok (.iload 6, 2) := by decide +kernel
theorem dX13_closes_143 : decode cX13_closes 143 = .ok (.iadd, 1) := by decide +kernel
theorem dX13_closes_144 : decode cX13_closes 144 = .ok (.iaload, 1) := by decide +kernel
theorem dX13_closes_145 : decode cX13_closes 145 = .ok (.goto 20, 3) := by decide +kernel
theorem dX13_closes_148 : decode cX13_closes 148 = .ok (.aload_n 0, 1) := by decide +kernel
theorem dX13_closes_149 : decode cX13_closes 149 = .ok (.getfield 89, 3) := by decide +kernel
theorem dX13_closes_152 : decode cX13_closes 152 = .ok (.aload_n 0, 1) := by decide +kernel
theorem dX13_closes_153 : decode cX13_closes 153 = .ok (.getfield 86, 3) := by decide +kernel
theorem dX13_closes_156 : decode cX13_closes 156 = .ok (.aload_n 0, 1) := by decide +kernel
theorem dX13_closes_157 : decode cX13_closes 157 = .ok (.getfield 477, 3) := by decide +kernel
theorem dX13_closes_160 : decode cX13_closes 160 = .ok (.iaload, 1) := by decide +kernel
theorem dX13_closes_161 : decode cX13_closes 161 = .ok (.iload 6, 2) := by decide +kernel
theorem dX13_closes_163 : decode cX13_closes 163 = .ok (.iadd, 1) := by decide +kernel
theorem dX13_closes_164 : decode cX13_closes 164 = .ok (.iaload, 1) := by decide +kernel
theorem dX13_closes_165 : decode cX13_closes 165 = .ok (.iastore, 1) := by decide +kernel
theorem dX13_closes_166 : decode cX13_closes 166 = .ok (.aload_n 0, 1) := by decide +kernel
theorem dX13_closes_167 : decode cX13_closes 167 = .ok (.dup, 1) := by decide +kernel
theorem dX13_closes_168 : decode cX13_closes 168 = .ok (.getfield 441, 3) := by decide +kernel
theorem dX13_closes_171 : decode cX13_closes 171 = .ok (.iconst 1, 1) := by decide +kernel
theorem dX13_closes_172 : decode cX13_closes 172 = .ok (.iadd, 1) := by decide +kernel
theorem dX13_closes_173 : decode cX13_closes 173 = .ok (.putfield 441, 3) := by decide +kernel
theorem dX13_closes_176 : decode cX13_closes 176 = .ok (.iinc 5 1, 3) := by decide +kernel
theorem dX13_closes_179 : decode cX13_closes 179 = .ok (.goto (-98), 3) := by decide +kernel
theorem dX13_closes_182 : decode cX13_closes 182 = .ok (.aload_n 0, 1) := by decide +kernel
theorem dX13_closes_183 : decode cX13_closes 183 = .ok (.dup, 1) := by decide +kernel
theorem dX13_closes_184 : decode cX13_closes 184 = .ok (.getfield 465, 3) := by decide +kernel
theorem dX13_closes_187 : decode cX13_closes 187 = .ok (.iconst 1, 1) := by decide +kernel
theorem dX13_closes_188 : decode cX13_closes 188 = .ok (.iadd, 1) := by decide +kernel
theorem dX13_closes_189 : decode cX13_closes 189 = .ok (.putfield 465, 3) := by decide +kernel
theorem dX13_closes_192 : decode cX13_closes 192 = .ok (.aload_n 0, 1) := by decide +kernel
theorem dX13_closes_193 : decode cX13_closes 193 = .ok (.bipush 7, 2) := by decide +kernel
theorem dX13_closes_195 : decode cX13_closes 195 = .ok (.iload 4, 2) := by decide +kernel
theorem dX13_closes_197 : decode cX13_closes 197 = .ok (.invokestatic 420, 3) := by decide +kernel
theorem dX13_closes_200 : decode cX13_closes 200 = .ok (.invokevirtual 525, 3) := by decide +kernel
theorem dX13_closes_203 : decode cX13_closes 203 = .ok (.return_, 1) := by decide +kernel
theorem dX13_lets_0 : decode cX13_lets 0 = .ok (.aload_n 0, 1) := by decide +kernel
theorem dX13_lets_1 : decode cX13_lets 1 = .ok (.getfield 43, 3) := by decide +kernel
theorem dX13_lets_4 : decode cX13_lets 4 = .ok (.getfield 243, 3) := by decide +kernel
theorem dX13_lets_7 : decode cX13_lets 7 = .ok (.iload_n 2, 1) := by decide +kernel
theorem dX13_lets_8 : decode cX13_lets 8 = .ok (.iaload, 1) := by decide +kernel
theorem dX13_lets_9 : decode cX13_lets 9 = .ok (.istore_n 3, 1) := by decide +kernel
theorem dX13_lets_10 : decode cX13_lets 10 = .ok (.iload_n 3, 1) := by decide +kernel
theorem dX13_lets_11 : decode cX13_lets 11 = .ok (.iconst (-1), 1) := by decide +kernel
theorem dX13_lets_12 : decode cX13_lets 12 = .ok (.if_icmp .ne 14, 3) := by decide +kernel
theorem dX13_lets_15 : decode cX13_lets 15 = .ok (.aload_n 0, 1) := by decide +kernel
theorem dX13_lets_16 : decode cX13_lets 16 = .ok (.aload_n 0, 1) := by decide +kernel
theorem dX13_lets_17 : decode cX13_lets 17 = .ok (.iload_n 1, 1) := by decide +kernel
theorem dX13_lets_18 : decode cX13_lets 18 = .ok (.iconst 2, 1) := by decide +kernel
theorem dX13_lets_19 : decode cX13_lets 19 = .ok (.invokevirtual 545, 3) := by decide +kernel
theorem dX13_lets_22 : decode cX13_lets 22 = .ok (.invokevirtual 559, 3) := by decide +kernel
theorem dX13_lets_25 : decode cX13_lets 25 = .ok (.return_, 1) := by decide +kernel
theorem dX13_lets_26 : decode cX13_lets 26 = .ok (.aload_n 0, 1) := by decide +kernel
theorem dX13_lets_27 : decode cX13_lets 27 = .ok (.iconst 5, 1) := by decide +kernel
theorem dX13_lets_28 : decode cX13_lets 28 = .ok (.iload_n 3, 1) := by decide +kernel
theorem dX13_lets_29 : decode cX13_lets 29 = .ok (.iload_n 1, 1) := by decide +kernel
theorem dX13_lets_30 : decode cX13_lets 30 = .ok (.invokevirtual 512, 3) := by decide +kernel
theorem dX13_lets_33 : decode cX13_lets 33 = .ok (.aload_n 0, 1) := by decide +kernel
theorem dX13_lets_34 : decode cX13_lets 34 = .ok (.aload_n 0, 1) := by decide +kernel
theorem dX13_lets_35 : decode cX13_lets 35 = .ok (.iload_n 3, 1) := by decide +kernel
theorem dX13_lets_36 : decode cX13_lets 36 = .ok (.iconst 1, 1) := by decide +kernel
theorem dX13_lets_37 : decode cX13_lets 37 = .ok (.invokevirtual 545, 3) := by decide +kernel
theorem dX13_lets_40 : decode cX13_lets 40 = .ok (.invokevirtual 551, 3) := by decide +kernel
theorem dX13_lets_43 : decode cX13_lets 43 = .ok (.return_, 1) := by decide +kernel
theorem dX13_letrecs_0 : decode cX13_letrecs 0 = .ok (.aload_n 0, 1) := by decide +kernel
theorem dX13_letrecs_1 : decode cX13_letrecs 1 = .ok (.getfield 43, 3) := by decide +kernel
theorem dX13_letrecs_4 : decode cX13_letrecs 4 = .ok (.getfield 252, 3) := by decide +kernel
theorem dX13_letrecs_7 : decode cX13_letrecs 7 = .ok (.iload_n 1, 1) := by decide +kernel
theorem dX13_letrecs_8 : decode cX13_letrecs 8 = .ok (.iaload, 1) := by decide +kernel
theorem dX13_letrecs_9 : decode cX13_letrecs 9 = .ok (.istore_n 2, 1) := by decide +kernel
theorem dX13_letrecs_10 : decode cX13_letrecs 10 = .ok (.aload_n 0, 1) := by decide +kernel
theorem dX13_letrecs_11 : decode cX13_letrecs 11 = .ok (.getfield 43, 3) := by decide +kernel
theorem dX13_letrecs_14 : decode cX13_letrecs 14 = .ok (.getfield 243, 3) := by decide +kernel
theorem dX13_letrecs_17 : decode cX13_letrecs 17 = .ok (.aload_n 0, 1) := by decide +kernel
theorem dX13_letrecs_18 : decode cX13_letrecs 18 = .ok (.iload_n 1, 1) := by decide +kernel
theorem dX13_letrecs_19 : decode cX13_letrecs 19 = .ok (.iconst 1, 1) := by decide +kernel
theorem dX13_letrecs_20 : decode cX13_letrecs 20 = .ok (.invokevirtual 545, 3) := by decide +kernel
theorem dX13_letrecs_23 : decode cX13_letrecs 23 = .ok (.iaload, 1) := by decide +kernel
theorem dX13_letrecs_24 : decode cX13_letrecs 24 = .ok (.istore_n 3, 1) := by decide +kernel
theorem dX13_letrecs_25 : decode cX13_letrecs 25 = .ok (.iload_n 3, 1) := by decide +kernel
theorem dX13_letrecs_26 : decode cX13_letrecs 26 = .ok (.iconst (-1), 1) := by decide +kernel
theorem dX13_letrecs_27 : decode cX13_letrecs 27 = .ok (.if_icmp .eq 37, 3) := by decide +kernel
theorem dX13_letrecs_30 : decode cX13_letrecs 30 = .ok (.aload_n 0, 1) := by decide +kernel
theorem dX13_letrecs_31 : decode cX13_letrecs 31 = .ok (.getfield 98, 3) := by decide +kernel
theorem dX13_letrecs_34 : decode cX13_letrecs 34 = .ok (.aload_n 0, 1) := by decide +kernel
theorem dX13_letrecs_35 : decode cX13_letrecs 35 = .ok (.getfield 474, 3) := by decide +kernel
theorem dX13_letrecs_38 : decode cX13_letrecs 38 = .ok (.iload_n 2, 1) := by decide +kernel
theorem dX13_letrecs_39 : decode cX13_letrecs 39 = .ok (.iadd, 1) := by decide +kernel
theorem dX13_letrecs_40 : decode cX13_letrecs 40 = .ok (.aload_n 0, 1) := by decide +kernel
theorem dX13_letrecs_41 : decode cX13_letrecs 41 = .ok (.ldc2_w 480, 3) := by decide +kernel
theorem dX13_letrecs_44 : decode cX13_letrecs 44 = .ok (.invokevirtual 565, 3) := by decide +kernel
theorem dX13_letrecs_47 : decode cX13_letrecs 47 = .ok (.iastore, 1) := by decide +kernel
theorem dX13_letrecs_48 : decode cX13_letrecs 48 = .ok (.iinc 2 1, 3) := by decide +kernel
theorem dX13_letrecs_51 : decode cX13_letrecs 51 = .ok (.aload_n 0, 1) := by decide +kernel
theorem dX13_letrecs_52 : decode cX13_letrecs 52 = .ok (.getfield 43, 3) := by decide +kernel
theorem dX13_letrecs_55 : decode cX13_letrecs 55 = .ok (.getfield 246, 3) := by decide +kernel
theorem dX13_letrecs_58 : decode cX13_letrecs 58 = .ok (.iload_n 3, 1) := by decide +kernel
theorem dX13_letrecs_59 : decode cX13_letrecs 59 = .ok (.iaload, 1) := by decide +kernel
theorem dX13_letrecs_60 : decode cX13_letrecs 60 = .ok (.istore_n 3, 1) := by decide +kernel
theorem dX13_letrecs_61 : decode cX13_letrecs 61 = .ok (.goto (-36), 3) := by decide +kernel
theorem dX13_letrecs_64 : decode cX13_letrecs 64 = .ok (.aload_n 0, 1) := by decide +kernel
theorem dX13_letrecs_65 : decode cX13_letrecs 65 = .ok (.getfield 43, 3) := by decide +kernel
theorem dX13_letrecs_68 : decode cX13_letrecs 68 = .ok (.getfield 243, 3) := by decide +kernel
theorem dX13_letrecs_71 : decode cX13_letrecs 71 = .ok (.aload_n 0, 1) := by decide +kernel
theorem dX13_letrecs_72 : decode cX13_letrecs 72 = .ok (.iload_n 1, 1) := by decide +kernel
theorem dX13_letrecs_73 : decode cX13_letrecs 73 = .ok (.iconst 1, 1) := by decide +kernel
theorem dX13_letrecs_74 : decode cX13_letrecs 74 = .ok (.invokevirtual 545, 3) := by decide +kernel
theorem dX13_letrecs_77 : decode cX13_letrecs 77 = .ok (.iaload, 1) := by decide +kernel
theorem dX13_letrecs_78 : decode cX13_letrecs 78 = .ok (.istore_n 3, 1) := by decide +kernel
theorem dX13_letrecs_79 : decode cX13_letrecs 79 = .ok (.iload_n 3, 1) := by decide +kernel
theorem dX13_letrecs_80 : decode cX13_letrecs 80 = .ok (.iconst (-1), 1) := by decide +kernel
theorem dX13_letrecs_81 : decode cX13_letrecs 81 = .ok (.if_icmp .ne 14, 3) := by decide +kernel
theorem dX13_letrecs_84 : decode cX13_letrecs 84 = .ok (.aload_n 0, 1) := by decide +kernel
theorem dX13_letrecs_85 : decode cX13_letrecs 85 = .ok (.aload_n 0, 1) := by decide +kernel
theorem dX13_letrecs_86 : decode cX13_letrecs 86 = .ok (.iload_n 1, 1) := by decide +kernel
theorem dX13_letrecs_87 : decode cX13_letrecs 87 = .ok (.iconst 2, 1) := by decide +kernel
theorem dX13_letrecs_88 : decode cX13_letrecs 88 = .ok (.invokevirtual 545, 3) := by decide +kernel
theorem dX13_letrecs_91 : decode cX13_letrecs 91 = .ok (.invokevirtual 559, 3) := by decide +kernel
theorem dX13_letrecs_94 : decode cX13_letrecs 94 = .ok (.return_, 1) := by decide +kernel
theorem dX13_letrecs_95 : decode cX13_letrecs 95 = .ok (.aload_n 0, 1) := by decide +kernel
theorem dX13_letrecs_96 : decode cX13_letrecs 96 = .ok (.bipush 6, 2) := by decide +kernel
theorem dX13_letrecs_98 : decode cX13_letrecs 98 = .ok (.iload_n 3, 1) := by decide +kernel
theorem dX13_letrecs_99 : decode cX13_letrecs 99 = .ok (.iload_n 1, 1) := by decide +kernel
theorem dX13_letrecs_100 : decode cX13_letrecs 100 = .ok (.invokevirtual 512, 3) := by decide +kernel
theorem dX13_letrecs_103 : decode cX13_letrecs 103 = .ok (.aload_n 0, 1) := by decide +kernel
theorem dX13_letrecs_104 : decode cX13_letrecs 104 = .ok (.aload_n 0, 1) := by decide +kernel
theorem dX13_letrecs_105 : decode cX13_letrecs 105 = .ok (.iload_n 3, 1) := by decide +kernel
theorem dX13_letrecs_106 : decode cX13_letrecs 106 = .ok (.iconst 1, 1) := by decide +kernel
theorem dX13_letrecs_107 : decode cX13_letrecs 107 = .ok (.invokevirtual 545, 3) := by decide +kernel
theorem dX13_letrecs_110 : decode cX13_letrecs 110 = .ok (.invokevirtual 551, 3) := by decide +kernel
theorem dX13_letrecs_113 : decode cX13_letrecs 113 = .ok (.return_, 1) := by decide +kernel
theorem dX13_wants_0 : decode cX13_wants 0 = .ok (.iload_n 0, 1) := by decide +kernel
theorem dX13_wants_1 : decode cX13_wants 1 = .ok (.bipush 30, 2) := by decide +kernel
theorem dX13_wants_3 : decode cX13_wants 3 = .ok (.if_icmp .ne 7, 3) := by decide +kernel
theorem dX13_wants_6 : decode cX13_wants 6 = .ok (.iconst 0, 1) := by decide +kernel
theorem dX13_wants_7 : decode cX13_wants 7 = .ok (.goto 14, 3) := by decide +kernel
theorem dX13_wants_10 : decode cX13_wants 10 = .ok (.iload_n 0, 1) := by decide +kernel
theorem dX13_wants_11 : decode cX13_wants 11 = .ok (.bipush 18, 2) := by decide +kernel
theorem dX13_wants_13 : decode cX13_wants 13 = .ok (.if_icmp .gt 7, 3) := by decide +kernel
theorem dX13_wants_16 : decode cX13_wants 16 = .ok (.iconst 1, 1) := by decide +kernel
theorem dX13_wants_17 : decode cX13_wants 17 = .ok (.goto 4, 3) := by decide +kernel
theorem dX13_wants_20 : decode cX13_wants 20 = .ok (.iconst 2, 1) := by decide +kernel
theorem dX13_wants_21 : decode cX13_wants 21 = .ok (.ireturn, 1) := by decide +kernel
theorem dX13_holds_0 : decode cX13_holds 0 = .ok (.aload_n 0, 1) := by decide +kernel
theorem dX13_holds_1 : decode cX13_holds 1 = .ok (.iload_n 1, 1) := by decide +kernel
theorem dX13_holds_2 : decode cX13_holds 2 = .ok (.putfield 569, 3) := by decide +kernel
theorem dX13_holds_5 : decode cX13_holds 5 = .ok (.aload_n 0, 1) := by decide +kernel
theorem dX13_holds_6 : decode cX13_holds 6 = .ok (.bipush 10, 2) := by decide +kernel
theorem dX13_holds_8 : decode cX13_holds 8 = .ok (.iload_n 2, 1) := by decide +kernel
theorem dX13_holds_9 : decode cX13_holds 9 = .ok (.iconst 0, 1) := by decide +kernel
theorem dX13_holds_10 : decode cX13_holds 10 = .ok (.invokevirtual 512, 3) := by decide +kernel
theorem dX13_holds_13 : decode cX13_holds 13 = .ok (.aload_n 0, 1) := by decide +kernel
theorem dX13_holds_14 : decode cX13_holds 14 = .ok (.lconst 0, 1) := by decide +kernel
theorem dX13_holds_15 : decode cX13_holds 15 = .ok (.invokevirtual 525, 3) := by decide +kernel
theorem dX13_holds_18 : decode cX13_holds 18 = .ok (.return_, 1) := by decide +kernel
theorem dX13_goesOn_0 : decode cX13_goesOn 0 = .ok (.aload_n 0, 1) := by decide +kernel
theorem dX13_goesOn_1 : decode cX13_goesOn 1 = .ok (.dup, 1) := by decide +kernel
theorem dX13_goesOn_2 : decode cX13_goesOn 2 = .ok (.getfield 452, 3) := by decide +kernel
theorem dX13_goesOn_5 : decode cX13_goesOn 5 = .ok (.iconst 1, 1) := by decide +kernel
theorem dX13_goesOn_6 : decode cX13_goesOn 6 = .ok (.isub, 1) := by decide +kernel
theorem dX13_goesOn_7 : decode cX13_goesOn 7 = .ok (.putfield 452, 3) := by decide +kernel
theorem dX13_goesOn_10 : decode cX13_goesOn 10 = .ok (.aload_n 0, 1) := by decide +kernel
theorem dX13_goesOn_11 : decode cX13_goesOn 11 = .ok (.getfield 104, 3) := by decide +kernel
theorem dX13_goesOn_14 : decode cX13_goesOn 14 = .ok (.aload_n 0, 1) := by decide +kernel
theorem dX13_goesOn_15 : decode cX13_goesOn 15 = .ok (.getfield 452, 3) := by decide +kernel
theorem dX13_goesOn_18 : decode cX13_goesOn 18 = .ok (.iaload, 1) := by decide +kernel
theorem dX13_goesOn_19 : decode cX13_goesOn 19 = .ok (.istore_n 1, 1) := by decide +kernel
theorem dX13_goesOn_20 : decode cX13_goesOn 20 = .ok (.aload_n 0, 1) := by decide +kernel
theorem dX13_goesOn_21 : decode cX13_goesOn 21 = .ok (.getfield 107, 3) := by decide +kernel
theorem dX13_goesOn_24 : decode cX13_goesOn 24 = .ok (.aload_n 0, 1) := by decide +kernel
theorem dX13_goesOn_25 : decode cX13_goesOn 25 = .ok (.getfield 452, 3) := by decide +kernel
theorem dX13_goesOn_28 : decode cX13_goesOn 28 = .ok (.iaload, 1) := by decide +kernel
theorem dX13_goesOn_29 : decode cX13_goesOn 29 = .ok (.istore_n 2, 1) := by decide +kernel
theorem dX13_goesOn_30 : decode cX13_goesOn 30 = .ok (.aload_n 0, 1) := by decide +kernel
theorem dX13_goesOn_31 : decode cX13_goesOn 31 = .ok (.getfield 101, 3) := by decide +kernel
theorem dX13_goesOn_34 : decode cX13_goesOn 34 = .ok (.aload_n 0, 1) := by decide +kernel
theorem dX13_goesOn_35 : decode cX13_goesOn 35 = .ok (.getfield 452, 3) := by decide +kernel
theorem dX13_goesOn_38 : decode cX13_goesOn 38 = .ok (.iaload, 1) := by decide +kernel
theorem dX13_goesOn_39 : decode cX13_goesOn 39 = .ok (.tableswitch 256 0 9 #[62, 70, 98, 118, 138, 146, 155, 164, 225, 53], 53) := by decide +kernel
theorem dX13_goesOn_92 : decode cX13_goesOn 92 = .ok (.aload_n 0, 1) := by decide +kernel
theorem dX13_goesOn_93 : decode cX13_goesOn 93 = .ok (.iload_n 1, 1) := by decide +kernel
theorem dX13_goesOn_94 : decode cX13_goesOn 94 = .ok (.iload_n 2, 1) := by decide +kernel
theorem dX13_goesOn_95 : decode cX13_goesOn 95 = .ok (.invokevirtual 572, 3) := by decide +kernel
theorem dX13_goesOn_98 : decode cX13_goesOn 98 = .ok (.goto 202, 3) := by decide +kernel
theorem dX13_goesOn_101 : decode cX13_goesOn 101 = .ok (.aload_n 0, 1) := by decide +kernel
theorem dX13_goesOn_102 : decode cX13_goesOn 102 = .ok (.iload_n 1, 1) := by decide +kernel
theorem dX13_goesOn_103 : decode cX13_goesOn 103 = .ok (.invokevirtual 559, 3) := by decide +kernel
theorem dX13_goesOn_106 : decode cX13_goesOn 106 = .ok (.goto 194, 3) := by decide +kernel
theorem dX13_goesOn_109 : decode cX13_goesOn 109 = .ok (.aload_n 0, 1) := by decide +kernel
theorem dX13_goesOn_110 : decode cX13_goesOn 110 = .ok (.aload_n 0, 1) := by decide +kernel
theorem dX13_goesOn_111 : decode cX13_goesOn 111 = .ok (.iload_n 1, 1) := by decide +kernel
theorem dX13_goesOn_112 : decode cX13_goesOn 112 = .ok (.aload_n 0, 1) := by decide +kernel
theorem dX13_goesOn_113 : decode cX13_goesOn 113 = .ok (.getfield 517, 3) := by decide +kernel
theorem dX13_goesOn_116 : decode cX13_goesOn 116 = .ok (.ldc2_w 415, 3) := by decide +kernel
theorem dX13_goesOn_119 : decode cX13_goesOn 119 = .ok (.lcmp, 1) := by decide +kernel
theorem dX13_goesOn_120 : decode cX13_goesOn 120 = .ok (.ifCond .eq 7, 3) := by decide +kernel
theorem dX13_goesOn_123 : decode cX13_goesOn 123 = .ok (.iconst 2, 1) := by decide +kernel
theorem dX13_goesOn_124 : decode cX13_goesOn 124 = .ok (.goto 4, 3) := by decide +kernel
theorem dX13_goesOn_127 : decode cX13_goesOn 127 = .ok (.iconst 3, 1) := by decide +kernel
theorem dX13_goesOn_128 : decode cX13_goesOn 128 = .ok (.invokevirtual 545, 3) := by decide +kernel
theorem dX13_goesOn_131 : decode cX13_goesOn 131 = .ok (.invokevirtual 551, 3) := by decide +kernel
theorem dX13_goesOn_134 : decode cX13_goesOn 134 = .ok (.goto 166, 3) := by decide +kernel
theorem dX13_goesOn_137 : decode cX13_goesOn 137 = .ok (.aload_n 0, 1) := by decide +kernel
theorem dX13_goesOn_138 : decode cX13_goesOn 138 = .ok (.getfield 517, 3) := by decide +kernel
theorem dX13_goesOn_141 : decode cX13_goesOn 141 = .ok (.ldc2_w 415, 3) := by decide +kernel
theorem dX13_goesOn_144 : decode cX13_goesOn 144 = .ok (.lcmp, 1) := by decide +kernel
theorem dX13_goesOn_145 : decode cX13_goesOn 145 = .ok (.ifCond .eq 155, 3) := by decide +kernel
theorem dX13_goesOn_148 : decode cX13_goesOn 148 = .ok (.aload_n 0, 1) := by decide +kernel
theorem dX13_goesOn_149 : decode cX13_goesOn 149 = .ok (.iconst 2, 1) := by decide +kernel
theorem dX13_goesOn_150 : decode cX13_goesOn 150 = .ok (.iload_n 1, 1) := by decide +kernel
theorem dX13_goesOn_151 : decode cX13_goesOn 151 = .ok (.invokevirtual 561, 3) := by decide +kernel
theorem dX13_goesOn_154 : decode cX13_goesOn 154 = .ok (.goto 146, 3) := by decide +kernel
theorem dX13_goesOn_157 : decode cX13_goesOn 157 = .ok (.aload_n 0, 1) := by decide +kernel
theorem dX13_goesOn_158 : decode cX13_goesOn 158 = .ok (.getfield 517, 3) := by decide +kernel
theorem dX13_goesOn_161 : decode cX13_goesOn 161 = .ok (.ldc2_w 415, 3) := by decide +kernel
theorem dX13_goesOn_164 : decode cX13_goesOn 164 = .ok (.lcmp, 1) := by decide +kernel
theorem dX13_goesOn_165 : decode cX13_goesOn 165 = .ok (.ifCond .ne 135, 3) := by decide +kernel
theorem dX13_goesOn_168 : decode cX13_goesOn 168 = .ok (.aload_n 0, 1) := by decide +kernel
theorem dX13_goesOn_169 : decode cX13_goesOn 169 = .ok (.iconst 3, 1) := by decide +kernel
theorem dX13_goesOn_170 : decode cX13_goesOn 170 = .ok (.iload_n 1, 1) := by decide +kernel
theorem dX13_goesOn_171 : decode cX13_goesOn 171 = .ok (.invokevirtual 561, 3) := by decide +kernel
theorem dX13_goesOn_174 : decode cX13_goesOn 174 = .ok (.goto 126, 3) := by decide +kernel
theorem dX13_goesOn_177 : decode cX13_goesOn 177 = .ok (.aload_n 0, 1) := by decide +kernel
theorem dX13_goesOn_178 : decode cX13_goesOn 178 = .ok (.iload_n 1, 1) := by decide +kernel
theorem dX13_goesOn_179 : decode cX13_goesOn 179 = .ok (.invokevirtual 574, 3) := by decide +kernel
theorem dX13_goesOn_182 : decode cX13_goesOn 182 = .ok (.goto 118, 3) := by decide +kernel
theorem dX13_goesOn_185 : decode cX13_goesOn 185 = .ok (.aload_n 0, 1) := by decide +kernel
theorem dX13_goesOn_186 : decode cX13_goesOn 186 = .ok (.iload_n 1, 1) := by decide +kernel
theorem dX13_goesOn_187 : decode cX13_goesOn 187 = .ok (.iload_n 2, 1) := by decide +kernel
theorem dX13_goesOn_188 : decode cX13_goesOn 188 = .ok (.invokevirtual 577, 3) := by decide +kernel
theorem dX13_goesOn_191 : decode cX13_goesOn 191 = .ok (.goto 109, 3) := by decide +kernel
theorem dX13_goesOn_194 : decode cX13_goesOn 194 = .ok (.aload_n 0, 1) := by decide +kernel
theorem dX13_goesOn_195 : decode cX13_goesOn 195 = .ok (.iload_n 1, 1) := by decide +kernel
theorem dX13_goesOn_196 : decode cX13_goesOn 196 = .ok (.iload_n 2, 1) := by decide +kernel
theorem dX13_goesOn_197 : decode cX13_goesOn 197 = .ok (.invokevirtual 580, 3) := by decide +kernel
theorem dX13_goesOn_200 : decode cX13_goesOn 200 = .ok (.goto 100, 3) := by decide +kernel
theorem dX13_goesOn_203 : decode cX13_goesOn 203 = .ok (.aload_n 0, 1) := by decide +kernel
theorem dX13_goesOn_204 : decode cX13_goesOn 204 = .ok (.aload_n 0, 1) := by decide +kernel
theorem dX13_goesOn_205 : decode cX13_goesOn 205 = .ok (.getfield 517, 3) := by decide +kernel
theorem dX13_goesOn_208 : decode cX13_goesOn 208 = .ok (.invokevirtual 583, 3) := by decide +kernel
theorem dX13_goesOn_211 : decode cX13_goesOn 211 = .ok (.aload_n 0, 1) := by decide +kernel
theorem dX13_goesOn_212 : decode cX13_goesOn 212 = .ok (.getfield 43, 3) := by decide +kernel
theorem dX13_goesOn_215 : decode cX13_goesOn 215 = .ok (.getfield 246, 3) := by decide +kernel
theorem dX13_goesOn_218 : decode cX13_goesOn 218 = .ok (.iload_n 1, 1) := by decide +kernel
theorem dX13_goesOn_219 : decode cX13_goesOn 219 = .ok (.iaload, 1) := by decide +kernel
theorem dX13_goesOn_220 : decode cX13_goesOn 220 = .ok (.iconst (-1), 1) := by decide +kernel
theorem dX13_goesOn_221 : decode cX13_goesOn 221 = .ok (.if_icmp .ne 11, 3) := by decide +kernel
theorem dX13_goesOn_224 : decode cX13_goesOn 224 = .ok (.aload_n 0, 1) := by decide +kernel
theorem dX13_goesOn_225 : decode cX13_goesOn 225 = .ok (.iload_n 2, 1) := by decide +kernel
theorem dX13_goesOn_226 : decode cX13_goesOn 226 = .ok (.invokevirtual 586, 3) := by decide +kernel
theorem dX13_goesOn_229 : decode cX13_goesOn 229 = .ok (.goto 71, 3) := by decide +kernel
theorem dX13_goesOn_232 : decode cX13_goesOn 232 = .ok (.aload_n 0, 1) := by decide +kernel
theorem dX13_goesOn_233 : decode cX13_goesOn 233 = .ok (.bipush 7, 2) := by decide +kernel
theorem dX13_goesOn_235 : decode cX13_goesOn 235 = .ok (.aload_n 0, 1) := by decide +kernel
theorem dX13_goesOn_236 : decode cX13_goesOn 236 = .ok (.getfield 43, 3) := by decide +kernel
theorem dX13_goesOn_239 : decode cX13_goesOn 239 = .ok (.getfield 246, 3) := by decide +kernel
theorem dX13_goesOn_242 : decode cX13_goesOn 242 = .ok (.iload_n 1, 1) := by decide +kernel
theorem dX13_goesOn_243 : decode cX13_goesOn 243 = .ok (.iaload, 1) := by decide +kernel
theorem dX13_goesOn_244 : decode cX13_goesOn 244 = .ok (.iload_n 2, 1) := by decide +kernel
theorem dX13_goesOn_245 : decode cX13_goesOn 245 = .ok (.invokevirtual 512, 3) := by decide +kernel
theorem dX13_goesOn_248 : decode cX13_goesOn 248 = .ok (.aload_n 0, 1) := by decide +kernel
theorem dX13_goesOn_249 : decode cX13_goesOn 249 = .ok (.aload_n 0, 1) := by decide +kernel
theorem dX13_goesOn_250 : decode cX13_goesOn 250 = .ok (.getfield 43, 3) := by decide +kernel
theorem dX13_goesOn_253 : decode cX13_goesOn 253 = .ok (.getfield 246, 3) := by decide +kernel
theorem dX13_goesOn_256 : decode cX13_goesOn 256 = .ok (.iload_n 1, 1) := by decide +kernel
theorem dX13_goesOn_257 : decode cX13_goesOn 257 = .ok (.iaload, 1) := by decide +kernel
theorem dX13_goesOn_258 : decode cX13_goesOn 258 = .ok (.invokevirtual 551, 3) := by decide +kernel
theorem dX13_goesOn_261 : decode cX13_goesOn 261 = .ok (.goto 39, 3) := by decide +kernel
theorem dX13_goesOn_264 : decode cX13_goesOn 264 = .ok (.aload_n 0, 1) := by decide +kernel
theorem dX13_goesOn_265 : decode cX13_goesOn 265 = .ok (.aload_n 0, 1) := by decide +kernel
theorem dX13_goesOn_266 : decode cX13_goesOn 266 = .ok (.getfield 474, 3) := by decide +kernel
theorem dX13_goesOn_269 : decode cX13_goesOn 269 = .ok (.putfield 444, 3) := by decide +kernel
theorem dX13_goesOn_272 : decode cX13_goesOn 272 = .ok (.aload_n 0, 1) := by decide +kernel
theorem dX13_goesOn_273 : decode cX13_goesOn 273 = .ok (.iload_n 1, 1) := by decide +kernel
theorem dX13_goesOn_274 : decode cX13_goesOn 274 = .ok (.putfield 474, 3) := by decide +kernel
theorem dX13_goesOn_277 : decode cX13_goesOn 277 = .ok (.aload_n 0, 1) := by decide +kernel
theorem dX13_goesOn_278 : decode cX13_goesOn 278 = .ok (.iload_n 2, 1) := by decide +kernel
theorem dX13_goesOn_279 : decode cX13_goesOn 279 = .ok (.putfield 477, 3) := by decide +kernel
theorem dX13_goesOn_282 : decode cX13_goesOn 282 = .ok (.aload_n 0, 1) := by decide +kernel
theorem dX13_goesOn_283 : decode cX13_goesOn 283 = .ok (.dup, 1) := by decide +kernel
theorem dX13_goesOn_284 : decode cX13_goesOn 284 = .ok (.getfield 491, 3) := by decide +kernel
theorem dX13_goesOn_287 : decode cX13_goesOn 287 = .ok (.iconst 1, 1) := by decide +kernel
theorem dX13_goesOn_288 : decode cX13_goesOn 288 = .ok (.isub, 1) := by decide +kernel
theorem dX13_goesOn_289 : decode cX13_goesOn 289 = .ok (.putfield 491, 3) := by decide +kernel
theorem dX13_goesOn_292 : decode cX13_goesOn 292 = .ok (.goto 8, 3) := by decide +kernel
theorem dX13_goesOn_295 : decode cX13_goesOn 295 = .ok (.aload_n 0, 1) := by decide +kernel
theorem dX13_goesOn_296 : decode cX13_goesOn 296 = .ok (.iload_n 1, 1) := by decide +kernel
theorem dX13_goesOn_297 : decode cX13_goesOn 297 = .ok (.invokevirtual 586, 3) := by decide +kernel
theorem dX13_goesOn_300 : decode cX13_goesOn 300 = .ok (.return_, 1) := by decide +kernel
theorem dX13_row_0 : decode cX13_row 0 = .ok (.iload_n 2, 1) := by decide +kernel
theorem dX13_row_1 : decode cX13_row 1 = .ok (.iconst 1, 1) := by decide +kernel
theorem dX13_row_2 : decode cX13_row 2 = .ok (.if_icmp .ne 21, 3) := by decide +kernel
theorem dX13_row_5 : decode cX13_row 5 = .ok (.aload_n 0, 1) := by decide +kernel
theorem dX13_row_6 : decode cX13_row 6 = .ok (.dup, 1) := by decide +kernel
theorem dX13_row_7 : decode cX13_row 7 = .ok (.getfield 488, 3) := by decide +kernel
theorem dX13_row_10 : decode cX13_row 10 = .ok (.iconst 1, 1) := by decide +kernel
theorem dX13_row_11 : decode cX13_row 11 = .ok (.iadd, 1) := by decide +kernel
theorem dX13_row_12 : decode cX13_row 12 = .ok (.putfield 488, 3) := by decide +kernel
theorem dX13_row_15 : decode cX13_row 15 = .ok (.aload_n 0, 1) := by decide +kernel
theorem dX13_row_16 : decode cX13_row 16 = .ok (.aload_n 0, 1) := by decide +kernel
theorem dX13_row_17 : decode cX13_row 17 = .ok (.getfield 517, 3) := by decide +kernel
theorem dX13_row_20 : decode cX13_row 20 = .ok (.putfield 504, 3) := by decide +kernel
theorem dX13_row_23 : decode cX13_row 23 = .ok (.iload_n 1, 1) := by decide +kernel
theorem dX13_row_24 : decode cX13_row 24 = .ok (.iconst (-1), 1) := by decide +kernel
theorem dX13_row_25 : decode cX13_row 25 = .ok (.if_icmp .ne 9, 3) := by decide +kernel
theorem dX13_row_28 : decode cX13_row 28 = .ok (.aload_n 0, 1) := by decide +kernel
theorem dX13_row_29 : decode cX13_row 29 = .ok (.iconst 0, 1) := by decide +kernel
theorem dX13_row_30 : decode cX13_row 30 = .ok (.putfield 507, 3) := by decide +kernel
theorem dX13_row_33 : decode cX13_row 33 = .ok (.return_, 1) := by decide +kernel
theorem dX13_row_34 : decode cX13_row 34 = .ok (.aload_n 0, 1) := by decide +kernel
theorem dX13_row_35 : decode cX13_row 35 = .ok (.bipush 9, 2) := by decide +kernel
theorem dX13_row_37 : decode cX13_row 37 = .ok (.aload_n 0, 1) := by decide +kernel
theorem dX13_row_38 : decode cX13_row 38 = .ok (.getfield 43, 3) := by decide +kernel
theorem dX13_row_41 : decode cX13_row 41 = .ok (.getfield 246, 3) := by decide +kernel
theorem dX13_row_44 : decode cX13_row 44 = .ok (.iload_n 1, 1) := by decide +kernel
theorem dX13_row_45 : decode cX13_row 45 = .ok (.iaload, 1) := by decide +kernel
theorem dX13_row_46 : decode cX13_row 46 = .ok (.iconst 1, 1) := by decide +kernel
theorem dX13_row_47 : decode cX13_row 47 = .ok (.invokevirtual 512, 3) := by decide +kernel
theorem dX13_row_50 : decode cX13_row 50 = .ok (.aload_n 0, 1) := by decide +kernel
theorem dX13_row_51 : decode cX13_row 51 = .ok (.iload_n 1, 1) := by decide +kernel
theorem dX13_row_52 : decode cX13_row 52 = .ok (.invokevirtual 551, 3) := by decide +kernel
theorem dX13_row_55 : decode cX13_row 55 = .ok (.return_, 1) := by decide +kernel
theorem dX13_sets_0 : decode cX13_sets 0 = .ok (.aload_n 0, 1) := by decide +kernel
theorem dX13_sets_1 : decode cX13_sets 1 = .ok (.iload_n 1, 1) := by decide +kernel
theorem dX13_sets_2 : decode cX13_sets 2 = .ok (.iconst 1, 1) := by decide +kernel
theorem dX13_sets_3 : decode cX13_sets 3 = .ok (.invokevirtual 545, 3) := by decide +kernel
theorem dX13_sets_6 : decode cX13_sets 6 = .ok (.istore_n 2, 1) := by decide +kernel
theorem dX13_sets_7 : decode cX13_sets 7 = .ok (.aload_n 0, 1) := by decide +kernel
theorem dX13_sets_8 : decode cX13_sets 8 = .ok (.iload_n 1, 1) := by decide +kernel
theorem dX13_sets_9 : decode cX13_sets 9 = .ok (.invokevirtual 542, 3) := by decide +kernel
theorem dX13_sets_12 : decode cX13_sets 12 = .ok (.bipush 10, 2) := by decide +kernel
theorem dX13_sets_14 : decode cX13_sets 14 = .ok (.if_icmp .ne 7, 3) := by decide +kernel
theorem dX13_sets_17 : decode cX13_sets 17 = .ok (.iconst 1, 1) := by decide +kernel
theorem dX13_sets_18 : decode cX13_sets 18 = .ok (.goto 4, 3) := by decide +kernel
theorem dX13_sets_21 : decode cX13_sets 21 = .ok (.iconst 0, 1) := by decide +kernel
theorem dX13_sets_22 : decode cX13_sets 22 = .ok (.istore_n 3, 1) := by decide +kernel
theorem dX13_sets_23 : decode cX13_sets 23 = .ok (.iload_n 3, 1) := by decide +kernel
theorem dX13_sets_24 : decode cX13_sets 24 = .ok (.ifCond .ne 21, 3) := by decide +kernel
theorem dX13_sets_27 : decode cX13_sets 27 = .ok (.aload_n 0, 1) := by decide +kernel
theorem dX13_sets_28 : decode cX13_sets 28 = .ok (.iload_n 2, 1) := by decide +kernel
theorem dX13_sets_29 : decode cX13_sets 29 = .ok (.invokevirtual 533, 3) := by decide +kernel
theorem dX13_sets_32 : decode cX13_sets 32 = .ok (.ldc2_w 480, 3) := by decide +kernel
theorem dX13_sets_35 : decode cX13_sets 35 = .ok (.lcmp, 1) := by decide +kernel
theorem dX13_sets_36 : decode cX13_sets 36 = .ok (.ifCond .ne 9, 3) := by decide +kernel
theorem dX13_sets_39 : decode cX13_sets 39 = .ok (.aload_n 0, 1) := by decide +kernel
theorem dX13_sets_40 : decode cX13_sets 40 = .ok (.iconst 5, 1) := by decide +kernel
theorem dX13_sets_41 : decode cX13_sets 41 = .ok (.putfield 536, 3) := by decide +kernel
theorem dX13_sets_44 : decode cX13_sets 44 = .ok (.return_, 1) := by decide +kernel
theorem dX13_sets_45 : decode cX13_sets 45 = .ok (.aload_n 0, 1) := by decide +kernel
theorem dX13_sets_46 : decode cX13_sets 46 = .ok (.getfield 43, 3) := by decide +kernel
theorem dX13_sets_49 : decode cX13_sets 49 = .ok (.getfield 249, 3) := by decide +kernel
theorem dX13_sets_52 : decode cX13_sets 52 = .ok (.iload_n 2, 1) := by decide +kernel
theorem dX13_sets_53 : decode cX13_sets 53 = .ok (.iaload, 1) := by decide +kernel
theorem dX13_sets_54 : decode cX13_sets 54 = .ok (.iconst 3, 1) := by decide +kernel
theorem dX13_sets_55 : decode cX13_sets 55 = .ok (.if_icmp .ne 24, 3) := by decide +kernel
theorem dX13_sets_58 : decode cX13_sets 58 = .ok (.aload_n 0, 1) := by decide +kernel
theorem dX13_sets_59 : decode cX13_sets 59 = .ok (.getfield 113, 3) := by decide +kernel
theorem dX13_sets_62 : decode cX13_sets 62 = .ok (.aload_n 0, 1) := by decide +kernel
theorem dX13_sets_63 : decode cX13_sets 63 = .ok (.getfield 43, 3) := by decide +kernel
theorem dX13_sets_66 : decode cX13_sets 66 = .ok (.getfield 252, 3) := by decide +kernel
theorem dX13_sets_69 : decode cX13_sets 69 = .ok (.iload_n 2, 1) := by decide +kernel
theorem dX13_sets_70 : decode cX13_sets 70 = .ok (.iaload, 1) := by decide +kernel
theorem dX13_sets_71 : decode cX13_sets 71 = .ok (.aload_n 0, 1) := by decide +kernel
theorem dX13_sets_72 : decode cX13_sets 72 = .ok (.getfield 517, 3) := by decide +kernel
theorem dX13_sets_75 : decode cX13_sets 75 = .ok (.lastore, 1) := by decide +kernel
theorem dX13_sets_76 : decode cX13_sets 76 = .ok (.goto 17, 3) := by decide +kernel
theorem dX13_sets_79 : decode cX13_sets 79 = .ok (.aload_n 0, 1) := by decide +kernel
theorem dX13_sets_80 : decode cX13_sets 80 = .ok (.getfield 92, 3) := by decide +kernel
theorem dX13_sets_83 : decode cX13_sets 83 = .ok (.aload_n 0, 1) := by decide +kernel
theorem dX13_sets_84 : decode cX13_sets 84 = .ok (.iload_n 2, 1) := by decide +kernel
theorem dX13_sets_85 : decode cX13_sets 85 = .ok (.invokevirtual 522, 3) := by decide +kernel
theorem dX13_sets_88 : decode cX13_sets 88 = .ok (.aload_n 0, 1) := by decide +kernel
theorem dX13_sets_89 : decode cX13_sets 89 = .ok (.getfield 517, 3) := by decide +kernel
theorem dX13_sets_92 : decode cX13_sets 92 = .ok (.lastore, 1) := by decide +kernel
theorem dX13_sets_93 : decode cX13_sets 93 = .ok (.aload_n 0, 1) := by decide +kernel
theorem dX13_sets_94 : decode cX13_sets 94 = .ok (.lconst 0, 1) := by decide +kernel
theorem dX13_sets_95 : decode cX13_sets 95 = .ok (.invokevirtual 525, 3) := by decide +kernel
theorem dX13_sets_98 : decode cX13_sets 98 = .ok (.return_, 1) := by decide +kernel
theorem dX13_letPair_0 : decode cX13_letPair 0 = .ok (.aload_n 0, 1) := by decide +kernel
theorem dX13_letPair_1 : decode cX13_letPair 1 = .ok (.aload_n 0, 1) := by decide +kernel
theorem dX13_letPair_2 : decode cX13_letPair 2 = .ok (.getfield 517, 3) := by decide +kernel
theorem dX13_letPair_5 : decode cX13_letPair 5 = .ok (.invokevirtual 583, 3) := by decide +kernel
theorem dX13_letPair_8 : decode cX13_letPair 8 = .ok (.aload_n 0, 1) := by decide +kernel
theorem dX13_letPair_9 : decode cX13_letPair 9 = .ok (.getfield 43, 3) := by decide +kernel
theorem dX13_letPair_12 : decode cX13_letPair 12 = .ok (.getfield 246, 3) := by decide +kernel
theorem dX13_letPair_15 : decode cX13_letPair 15 = .ok (.iload_n 1, 1) := by decide +kernel
theorem dX13_letPair_16 : decode cX13_letPair 16 = .ok (.iaload, 1) := by decide +kernel
theorem dX13_letPair_17 : decode cX13_letPair 17 = .ok (.istore_n 3, 1) := by decide +kernel
theorem dX13_letPair_18 : decode cX13_letPair 18 = .ok (.iload_n 3, 1) := by decide +kernel
theorem dX13_letPair_19 : decode cX13_letPair 19 = .ok (.iconst (-1), 1) := by decide +kernel
theorem dX13_letPair_20 : decode cX13_letPair 20 = .ok (.if_icmp .eq 21, 3) := by decide +kernel
theorem dX13_letPair_23 : decode cX13_letPair 23 = .ok (.aload_n 0, 1) := by decide +kernel
theorem dX13_letPair_24 : decode cX13_letPair 24 = .ok (.iconst 5, 1) := by decide +kernel
theorem dX13_letPair_25 : decode cX13_letPair 25 = .ok (.iload_n 3, 1) := by decide +kernel
theorem dX13_letPair_26 : decode cX13_letPair 26 = .ok (.iload_n 2, 1) := by decide +kernel
theorem dX13_letPair_27 : decode cX13_letPair 27 = .ok (.invokevirtual 512, 3) := by decide +kernel
theorem dX13_letPair_30 : decode cX13_letPair 30 = .ok (.aload_n 0, 1) := by decide +kernel
theorem dX13_letPair_31 : decode cX13_letPair 31 = .ok (.aload_n 0, 1) := by decide +kernel
theorem dX13_letPair_32 : decode cX13_letPair 32 = .ok (.iload_n 3, 1) := by decide +kernel
theorem dX13_letPair_33 : decode cX13_letPair 33 = .ok (.iconst 1, 1) := by decide +kernel
theorem dX13_letPair_34 : decode cX13_letPair 34 = .ok (.invokevirtual 545, 3) := by decide +kernel
theorem dX13_letPair_37 : decode cX13_letPair 37 = .ok (.invokevirtual 551, 3) := by decide +kernel
theorem dX13_letPair_40 : decode cX13_letPair 40 = .ok (.return_, 1) := by decide +kernel
theorem dX13_letPair_41 : decode cX13_letPair 41 = .ok (.iconst 0, 1) := by decide +kernel
theorem dX13_letPair_42 : decode cX13_letPair 42 = .ok (.istore 4, 2) := by decide +kernel
theorem dX13_letPair_44 : decode cX13_letPair 44 = .ok (.aload_n 0, 1) := by decide +kernel
theorem dX13_letPair_45 : decode cX13_letPair 45 = .ok (.getfield 43, 3) := by decide +kernel
theorem dX13_letPair_48 : decode cX13_letPair 48 = .ok (.getfield 243, 3) := by decide +kernel
theorem dX13_letPair_51 : decode cX13_letPair 51 = .ok (.aload_n 0, 1) := by decide +kernel
theorem dX13_letPair_52 : decode cX13_letPair 52 = .ok (.iload_n 2, 1) := by decide +kernel
theorem dX13_letPair_53 : decode cX13_letPair 53 = .ok (.iconst 1, 1) := by decide +kernel
theorem dX13_letPair_54 : decode cX13_letPair 54 = .ok (.invokevirtual 545, 3) := by decide +kernel
theorem dX13_letPair_57 : decode cX13_letPair 57 = .ok (.iaload, 1) := by decide +kernel
theorem dX13_letPair_58 : decode cX13_letPair 58 = .ok (.istore 5, 2) := by decide +kernel
theorem dX13_letPair_60 : decode cX13_letPair 60 = .ok (.iload 5, 2) := by decide +kernel
theorem dX13_letPair_62 : decode cX13_letPair 62 = .ok (.iconst (-1), 1) := by decide +kernel
theorem dX13_letPair_63 : decode cX13_letPair 63 = .ok (.if_icmp .eq 21, 3) := by decide +kernel
theorem dX13_letPair_66 : decode cX13_letPair 66 = .ok (.iinc 4 1, 3) := by decide +kernel
theorem dX13_letPair_69 : decode cX13_letPair 69 = .ok (.aload_n 0, 1) := by decide +kernel
theorem dX13_letPair_70 : decode cX13_letPair 70 = .ok (.getfield 43, 3) := by decide +kernel
theorem dX13_letPair_73 : decode cX13_letPair 73 = .ok (.getfield 246, 3) := by decide +kernel
theorem dX13_letPair_76 : decode cX13_letPair 76 = .ok (.iload 5, 2) := by decide +kernel
theorem dX13_letPair_78 : decode cX13_letPair 78 = .ok (.iaload, 1) := by decide +kernel
theorem dX13_letPair_79 : decode cX13_letPair 79 = .ok (.istore 5, 2) := by decide +kernel
theorem dX13_letPair_81 : decode cX13_letPair 81 = .ok (.goto (-21), 3) := by decide +kernel
theorem dX13_letPair_84 : decode cX13_letPair 84 = .ok (.iconst 0, 1) := by decide +kernel
theorem dX13_letPair_85 : decode cX13_letPair 85 = .ok (.istore 5, 2) := by decide +kernel
theorem dX13_letPair_87 : decode cX13_letPair 87 = .ok (.iload 5, 2) := by decide +kernel
theorem dX13_letPair_89 : decode cX13_letPair 89 = .ok (.iload 4, 2) := by decide +kernel
theorem dX13_letPair_91 : decode cX13_letPair 91 = .ok (.if_icmp .ge 50, 3) := by decide +kernel
theorem dX13_letPair_94 : decode cX13_letPair 94 = .ok (.aload_n 0, 1) := by decide +kernel
theorem dX13_letPair_95 : decode cX13_letPair 95 = .ok (.getfield 98, 3) := by decide +kernel
theorem dX13_letPair_98 : decode cX13_letPair 98 = .ok (.aload_n 0, 1) := by decide +kernel
theorem dX13_letPair_99 : decode cX13_letPair 99 = .ok (.getfield 474, 3) := by decide +kernel
theorem dX13_letPair_102 : decode cX13_letPair 102 = .ok (.aload_n 0, 1) := by decide +kernel
theorem dX13_letPair_103 : decode cX13_letPair 103 = .ok (.getfield 43, 3) := by decide +kernel
theorem dX13_letPair_106 : decode cX13_letPair 106 = .ok (.getfield 252, 3) := by decide +kernel
theorem dX13_letPair_109 : decode cX13_letPair 109 = .ok (.iload_n 2, 1) := by decide +kernel
theorem dX13_letPair_110 : decode cX13_letPair 110 = .ok (.iaload, 1) := by decide +kernel
theorem dX13_letPair_111 : decode cX13_letPair 111 = .ok (.iadd, 1) := by decide +kernel
theorem dX13_letPair_112 : decode cX13_letPair 112 = .ok (.iload 5, 2) := by decide +kernel
theorem dX13_letPair_114 : decode cX13_letPair 114 = .ok (.iadd, 1) := by decide +kernel
theorem dX13_letPair_115 : decode cX13_letPair 115 = .ok (.aload_n 0, 1) := by decide +kernel
theorem dX13_letPair_116 : decode cX13_letPair 116 = .ok (.aload_n 0, 1) := by decide +kernel
theorem dX13_letPair_117 : decode cX13_letPair 117 = .ok (.getfield 110, 3) := by decide +kernel
theorem dX13_letPair_120 : decode cX13_letPair 120 = .ok (.aload_n 0, 1) := by decide +kernel
theorem dX13_letPair_121 : decode cX13_letPair 121 = .ok (.getfield 459, 3) := by decide +kernel
theorem dX13_letPair_124 : decode cX13_letPair 124 = .ok (.iload 4, 2) := by decide +kernel
theorem dX13_letPair_126 : decode cX13_letPair 126 = .ok (.isub, 1) := by decide +kernel
theorem dX13_letPair_127 : decode cX13_letPair 127 = .ok (.iload 5, 2) := by decide +kernel
theorem dX13_letPair_129 : decode cX13_letPair 129 = .ok (.iadd, 1) := by decide +kernel
theorem dX13_letPair_130 : decode cX13_letPair 130 = .ok (.laload, 1) := by decide +kernel
theorem dX13_letPair_131 : decode cX13_letPair 131 = .ok (.invokevirtual 565, 3) := by decide +kernel
theorem dX13_letPair_134 : decode cX13_letPair 134 = .ok (.iastore, 1) := by decide +kernel
theorem dX13_letPair_135 : decode cX13_letPair 135 = .ok (.iinc 5 1, 3) := by decide +kernel
theorem dX13_letPair_138 : decode cX13_letPair 138 = .ok (.goto (-51), 3) := by decide +kernel
theorem dX13_letPair_141 : decode cX13_letPair 141 = .ok (.aload_n 0, 1) := by decide +kernel
theorem dX13_letPair_142 : decode cX13_letPair 142 = .ok (.dup, 1) := by decide +kernel
theorem dX13_letPair_143 : decode cX13_letPair 143 = .ok (.getfield 459, 3) := by decide +kernel
theorem dX13_letPair_146 : decode cX13_letPair 146 = .ok (.iload 4, 2) := by decide +kernel
theorem dX13_letPair_148 : decode cX13_letPair 148 = .ok (.isub, 1) := by decide +kernel
theorem dX13_letPair_149 : decode cX13_letPair 149 = .ok (.putfield 459, 3) := by decide +kernel
theorem dX13_letPair_152 : decode cX13_letPair 152 = .ok (.aload_n 0, 1) := by decide +kernel
theorem dX13_letPair_153 : decode cX13_letPair 153 = .ok (.aload_n 0, 1) := by decide +kernel
theorem dX13_letPair_154 : decode cX13_letPair 154 = .ok (.iload_n 2, 1) := by decide +kernel
theorem dX13_letPair_155 : decode cX13_letPair 155 = .ok (.iconst 2, 1) := by decide +kernel
theorem dX13_letPair_156 : decode cX13_letPair 156 = .ok (.invokevirtual 545, 3) := by decide +kernel
theorem dX13_letPair_159 : decode cX13_letPair 159 = .ok (.invokevirtual 559, 3) := by decide +kernel
theorem dX13_letPair_162 : decode cX13_letPair 162 = .ok (.return_, 1) := by decide +kernel
theorem dX13_letrecPair_0 : decode cX13_letrecPair 0 = .ok (.aload_n 0, 1) := by decide +kernel
theorem dX13_letrecPair_1 : decode cX13_letrecPair 1 = .ok (.getfield 43, 3) := by decide +kernel
theorem dX13_letrecPair_4 : decode cX13_letrecPair 4 = .ok (.getfield 252, 3) := by decide +kernel
theorem dX13_letrecPair_7 : decode cX13_letrecPair 7 = .ok (.iload_n 2, 1) := by decide +kernel
theorem dX13_letrecPair_8 : decode cX13_letrecPair 8 = .ok (.iaload, 1) := by decide +kernel
theorem dX13_letrecPair_9 : decode cX13_letrecPair 9 = .ok (.istore_n 3, 1) := by decide +kernel
theorem dX13_letrecPair_10 : decode cX13_letrecPair 10 = .ok (.aload_n 0, 1) := by decide +kernel
theorem dX13_letrecPair_11 : decode cX13_letrecPair 11 = .ok (.getfield 43, 3) := by decide +kernel
theorem dX13_letrecPair_14 : decode cX13_letrecPair 14 = .ok (.getfield 243, 3) := by decide +kernel
theorem dX13_letrecPair_17 : decode cX13_letrecPair 17 = .ok (.aload_n 0, 1) := by decide +kernel
theorem dX13_letrecPair_18 : decode cX13_letrecPair 18 = .ok (.iload_n 2, 1) := by decide +kernel
theorem dX13_letrecPair_19 : decode cX13_letrecPair 19 = .ok (.iconst 1, 1) := by decide +kernel
theorem dX13_letrecPair_20 : decode cX13_letrecPair 20 = .ok (.invokevirtual 545, 3) := by decide +kernel
theorem dX13_letrecPair_23 : decode cX13_letrecPair 23 = .ok (.iaload, 1) := by decide +kernel
theorem dX13_letrecPair_24 : decode cX13_letrecPair 24 = .ok (.istore 4, 2) := by decide +kernel
theorem dX13_letrecPair_26 : decode cX13_letrecPair 26 = .ok (.iload 4, 2) := by decide +kernel
theorem dX13_letrecPair_28 : decode cX13_letrecPair 28 = .ok (.iload_n 1, 1) := by decide +kernel
theorem dX13_letrecPair_29 : decode cX13_letrecPair 29 = .ok (.if_icmp .eq 21, 3) := by decide +kernel
theorem dX13_letrecPair_32 : decode cX13_letrecPair 32 = .ok (.iinc 3 1, 3) := by decide +kernel
theorem dX13_letrecPair_35 : decode cX13_letrecPair 35 = .ok (.aload_n 0, 1) := by decide +kernel
theorem dX13_letrecPair_36 : decode cX13_letrecPair 36 = .ok (.getfield 43, 3) := by decide +kernel
theorem dX13_letrecPair_39 : decode cX13_letrecPair 39 = .ok (.getfield 246, 3) := by decide +kernel
theorem dX13_letrecPair_42 : decode cX13_letrecPair 42 = .ok (.iload 4, 2) := by decide +kernel
theorem dX13_letrecPair_44 : decode cX13_letrecPair 44 = .ok (.iaload, 1) := by decide +kernel
theorem dX13_letrecPair_45 : decode cX13_letrecPair 45 = .ok (.istore 4, 2) := by decide +kernel
theorem dX13_letrecPair_47 : decode cX13_letrecPair 47 = .ok (.goto (-21), 3) := by decide +kernel
theorem dX13_letrecPair_50 : decode cX13_letrecPair 50 = .ok (.aload_n 0, 1) := by decide +kernel
theorem dX13_letrecPair_51 : decode cX13_letrecPair 51 = .ok (.getfield 92, 3) := by decide +kernel
theorem dX13_letrecPair_54 : decode cX13_letrecPair 54 = .ok (.aload_n 0, 1) := by decide +kernel
theorem dX13_letrecPair_55 : decode cX13_letrecPair 55 = .ok (.getfield 98, 3) := by decide +kernel
theorem dX13_letrecPair_58 : decode cX13_letrecPair 58 = .ok (.aload_n 0, 1) := by decide +kernel
theorem dX13_letrecPair_59 : decode cX13_letrecPair 59 = .ok (.getfield 474, 3) := by decide +kernel
theorem dX13_letrecPair_62 : decode cX13_letrecPair 62 = .ok (.iload_n 3, 1) := by decide +kernel
theorem dX13_letrecPair_63 : decode cX13_letrecPair 63 = .ok (.iadd, 1) := by decide +kernel
theorem dX13_letrecPair_64 : decode cX13_letrecPair 64 = .ok (.iaload, 1) := by decide +kernel
theorem dX13_letrecPair_65 : decode cX13_letrecPair 65 = .ok (.aload_n 0, 1) := by decide +kernel
theorem dX13_letrecPair_66 : decode cX13_letrecPair 66 = .ok (.getfield 517, 3) := by decide +kernel
theorem dX13_letrecPair_69 : decode cX13_letrecPair 69 = .ok (.lastore, 1) := by decide +kernel
theorem dX13_letrecPair_70 : decode cX13_letrecPair 70 = .ok (.aload_n 0, 1) := by decide +kernel
theorem dX13_letrecPair_71 : decode cX13_letrecPair 71 = .ok (.getfield 43, 3) := by decide +kernel
theorem dX13_letrecPair_74 : decode cX13_letrecPair 74 = .ok (.getfield 246, 3) := by decide +kernel
theorem dX13_letrecPair_77 : decode cX13_letrecPair 77 = .ok (.iload_n 1, 1) := by decide +kernel
theorem dX13_letrecPair_78 : decode cX13_letrecPair 78 = .ok (.iaload, 1) := by decide +kernel
theorem dX13_letrecPair_79 : decode cX13_letrecPair 79 = .ok (.istore 4, 2) := by decide +kernel
theorem dX13_letrecPair_81 : decode cX13_letrecPair 81 = .ok (.iload 4, 2) := by decide +kernel
theorem dX13_letrecPair_83 : decode cX13_letrecPair 83 = .ok (.iconst (-1), 1) := by decide +kernel
theorem dX13_letrecPair_84 : decode cX13_letrecPair 84 = .ok (.if_icmp .ne 14, 3) := by decide +kernel
theorem dX13_letrecPair_87 : decode cX13_letrecPair 87 = .ok (.aload_n 0, 1) := by decide +kernel
theorem dX13_letrecPair_88 : decode cX13_letrecPair 88 = .ok (.aload_n 0, 1) := by decide +kernel
theorem dX13_letrecPair_89 : decode cX13_letrecPair 89 = .ok (.iload_n 2, 1) := by decide +kernel
theorem dX13_letrecPair_90 : decode cX13_letrecPair 90 = .ok (.iconst 2, 1) := by decide +kernel
theorem dX13_letrecPair_91 : decode cX13_letrecPair 91 = .ok (.invokevirtual 545, 3) := by decide +kernel
theorem dX13_letrecPair_94 : decode cX13_letrecPair 94 = .ok (.invokevirtual 559, 3) := by decide +kernel
theorem dX13_letrecPair_97 : decode cX13_letrecPair 97 = .ok (.return_, 1) := by decide +kernel
theorem dX13_letrecPair_98 : decode cX13_letrecPair 98 = .ok (.aload_n 0, 1) := by decide +kernel
theorem dX13_letrecPair_99 : decode cX13_letrecPair 99 = .ok (.bipush 6, 2) := by decide +kernel
theorem dX13_letrecPair_101 : decode cX13_letrecPair 101 = .ok (.iload 4, 2) := by decide +kernel
theorem dX13_letrecPair_103 : decode cX13_letrecPair 103 = .ok (.iload_n 2, 1) := by decide +kernel
theorem dX13_letrecPair_104 : decode cX13_letrecPair 104 = .ok (.invokevirtual 512, 3) := by decide +kernel
theorem dX13_letrecPair_107 : decode cX13_letrecPair 107 = .ok (.aload_n 0, 1) := by decide +kernel
theorem dX13_letrecPair_108 : decode cX13_letrecPair 108 = .ok (.aload_n 0, 1) := by decide +kernel
theorem dX13_letrecPair_109 : decode cX13_letrecPair 109 = .ok (.iload 4, 2) := by decide +kernel
theorem dX13_letrecPair_111 : decode cX13_letrecPair 111 = .ok (.iconst 1, 1) := by decide +kernel
theorem dX13_letrecPair_112 : decode cX13_letrecPair 112 = .ok (.invokevirtual 545, 3) := by decide +kernel
theorem dX13_letrecPair_115 : decode cX13_letrecPair 115 = .ok (.invokevirtual 551, 3) := by decide +kernel
theorem dX13_letrecPair_118 : decode cX13_letrecPair 118 = .ok (.return_, 1) := by decide +kernel
theorem dX13_applies_0 : decode cX13_applies 0 = .ok (.iconst 0, 1) := by decide +kernel
theorem dX13_applies_1 : decode cX13_applies 1 = .ok (.istore_n 2, 1) := by decide +kernel
theorem dX13_applies_2 : decode cX13_applies 2 = .ok (.aload_n 0, 1) := by decide +kernel
theorem dX13_applies_3 : decode cX13_applies 3 = .ok (.getfield 43, 3) := by decide +kernel
theorem dX13_applies_6 : decode cX13_applies 6 = .ok (.getfield 246, 3) := by decide +kernel
theorem dX13_applies_9 : decode cX13_applies 9 = .ok (.aload_n 0, 1) := by decide +kernel
theorem dX13_applies_10 : decode cX13_applies 10 = .ok (.getfield 43, 3) := by decide +kernel
theorem dX13_applies_13 : decode cX13_applies 13 = .ok (.getfield 243, 3) := by decide +kernel
theorem dX13_applies_16 : decode cX13_applies 16 = .ok (.iload_n 1, 1) := by decide +kernel
theorem dX13_applies_17 : decode cX13_applies 17 = .ok (.iaload, 1) := by decide +kernel
theorem dX13_applies_18 : decode cX13_applies 18 = .ok (.iaload, 1) := by decide +kernel
theorem dX13_applies_19 : decode cX13_applies 19 = .ok (.istore_n 3, 1) := by decide +kernel
theorem dX13_applies_20 : decode cX13_applies 20 = .ok (.iload_n 3, 1) := by decide +kernel
theorem dX13_applies_21 : decode cX13_applies 21 = .ok (.iconst (-1), 1) := by decide +kernel
theorem dX13_applies_22 : decode cX13_applies 22 = .ok (.if_icmp .eq 19, 3) := by decide +kernel
theorem dX13_applies_25 : decode cX13_applies 25 = .ok (.iinc 2 1, 3) := by decide +kernel
theorem dX13_applies_28 : decode cX13_applies 28 = .ok (.aload_n 0, 1) := by decide +kernel
theorem dX13_applies_29 : decode cX13_applies 29 = .ok (.getfield 43, 3) := by decide +kernel
theorem dX13_applies_32 : decode cX13_applies 32 = .ok (.getfield 246, 3) := by decide +kernel
theorem dX13_applies_35 : decode cX13_applies 35 = .ok (.iload_n 3, 1) := by decide +kernel
theorem dX13_applies_36 : decode cX13_applies 36 = .ok (.iaload, 1) := by decide +kernel
theorem dX13_applies_37 : decode cX13_applies 37 = .ok (.istore_n 3, 1) := by decide +kernel
theorem dX13_applies_38 : decode cX13_applies 38 = .ok (.goto (-18), 3) := by decide +kernel
theorem dX13_applies_41 : decode cX13_applies 41 = .ok (.aload_n 0, 1) := by decide +kernel
theorem dX13_applies_42 : decode cX13_applies 42 = .ok (.getfield 110, 3) := by decide +kernel
theorem dX13_applies_45 : decode cX13_applies 45 = .ok (.aload_n 0, 1) := by decide +kernel
theorem dX13_applies_46 : decode cX13_applies 46 = .ok (.getfield 459, 3) := by decide +kernel
theorem dX13_applies_49 : decode cX13_applies 49 = .ok (.iconst 1, 1) := by decide +kernel
theorem dX13_applies_50 : decode cX13_applies 50 = .ok (.isub, 1) := by decide +kernel
theorem dX13_applies_51 : decode cX13_applies 51 = .ok (.iload_n 2, 1) := by decide +kernel
theorem dX13_applies_52 : decode cX13_applies 52 = .ok (.isub, 1) := by decide +kernel
theorem dX13_applies_53 : decode cX13_applies 53 = .ok (.laload, 1) := by decide +kernel
theorem dX13_applies_54 : decode cX13_applies 54 = .ok (.lstore_n 3, 1) := by decide +kernel
theorem dX13_applies_55 : decode cX13_applies 55 = .ok (.lload_n 3, 1) := by decide +kernel
theorem dX13_applies_56 : decode cX13_applies 56 = .ok (.invokestatic 589, 3) := by decide +kernel
theorem dX13_applies_59 : decode cX13_applies 59 = .ok (.bipush 7, 2) := by decide +kernel
theorem dX13_applies_61 : decode cX13_applies 61 = .ok (.if_icmp .ne 16, 3) := by decide +kernel
theorem dX13_applies_64 : decode cX13_applies 64 = .ok (.aload_n 0, 1) := by decide +kernel
theorem dX13_applies_65 : decode cX13_applies 65 = .ok (.iload_n 1, 1) := by decide +kernel
theorem dX13_applies_66 : decode cX13_applies 66 = .ok (.lload_n 3, 1) := by decide +kernel
theorem dX13_applies_67 : decode cX13_applies 67 = .ok (.invokestatic 592, 3) := by decide +kernel
theorem dX13_applies_70 : decode cX13_applies 70 = .ok (.iload_n 2, 1) := by decide +kernel
theorem dX13_applies_71 : decode cX13_applies 71 = .ok (.invokevirtual 595, 3) := by decide +kernel
theorem dX13_applies_74 : decode cX13_applies 74 = .ok (.goto 48, 3) := by decide +kernel
theorem dX13_applies_77 : decode cX13_applies 77 = .ok (.lload_n 3, 1) := by decide +kernel
theorem dX13_applies_78 : decode cX13_applies 78 = .ok (.invokestatic 589, 3) := by decide +kernel
theorem dX13_applies_81 : decode cX13_applies 81 = .ok (.bipush 8, 2) := by decide +kernel
theorem dX13_applies_83 : decode cX13_applies 83 = .ok (.if_icmp .ne 34, 3) := by decide +kernel
theorem dX13_applies_86 : decode cX13_applies 86 = .ok (.lload_n 3, 1) := by decide +kernel
theorem dX13_applies_87 : decode cX13_applies 87 = .ok (.invokestatic 592, 3) := by decide +kernel
theorem dX13_applies_90 : decode cX13_applies 90 = .ok (.invokestatic 598, 3) := by decide +kernel
theorem dX13_applies_93 : decode cX13_applies 93 = .ok (.iload_n 2, 1) := by decide +kernel
theorem dX13_applies_94 : decode cX13_applies 94 = .ok (.if_icmp .eq 11, 3) := by decide +kernel
theorem dX13_applies_97 : decode cX13_applies 97 = .ok (.aload_n 0, 1) := by decide +kernel
theorem dX13_applies_98 : decode cX13_applies 98 = .ok (.iconst 2, 1) := by decide +kernel
theorem dX13_applies_99 : decode cX13_applies 99 = .ok (.putfield 536, 3) := by decide +kernel
theorem dX13_applies_102 : decode cX13_applies 102 = .ok (.goto 20, 3) := by decide +kernel
theorem dX13_applies_105 : decode cX13_applies 105 = .ok (.aload_n 0, 1) := by decide +kernel
theorem dX13_applies_106 : decode cX13_applies 106 = .ok (.iload_n 1, 1) := by decide +kernel
theorem dX13_applies_107 : decode cX13_applies 107 = .ok (.lload_n 3, 1) := by decide +kernel
theorem dX13_applies_108 : decode cX13_applies 108 = .ok (.invokestatic 592, 3) := by decide +kernel
theorem dX13_applies_111 : decode cX13_applies 111 = .ok (.invokevirtual 601, 3) := by decide +kernel
theorem dX13_applies_114 : decode cX13_applies 114 = .ok (.goto 8, 3) := by decide +kernel
theorem dX13_applies_117 : decode cX13_applies 117 = .ok (.aload_n 0, 1) := by decide +kernel
theorem dX13_applies_118 : decode cX13_applies 118 = .ok (.iconst 1, 1) := by decide +kernel
theorem dX13_applies_119 : decode cX13_applies 119 = .ok (.putfield 536, 3) := by decide +kernel
theorem dX13_applies_122 : decode cX13_applies 122 = .ok (.return_, 1) := by decide +kernel
theorem dX13_calls_0 : decode cX13_calls 0 = .ok (.aload_n 0, 1) := by decide +kernel
theorem dX13_calls_1 : decode cX13_calls 1 = .ok (.getfield 83, 3) := by decide +kernel
theorem dX13_calls_4 : decode cX13_calls 4 = .ok (.iload_n 2, 1) := by decide +kernel
theorem dX13_calls_5 : decode cX13_calls 5 = .ok (.iaload, 1) := by decide +kernel
theorem dX13_calls_6 : decode cX13_calls 6 = .ok (.istore 4, 2) := by decide +kernel
theorem dX13_calls_8 : decode cX13_calls 8 = .ok (.aload_n 0, 1) := by decide +kernel
theorem dX13_calls_9 : decode cX13_calls 9 = .ok (.getfield 101, 3) := by decide +kernel
theorem dX13_calls_12 : decode cX13_calls 12 = .ok (.aload_n 0, 1) := by decide +kernel
theorem dX13_calls_13 : decode cX13_calls 13 = .ok (.getfield 452, 3) := by decide +kernel
theorem dX13_calls_16 : decode cX13_calls 16 = .ok (.iconst 1, 1) := by decide +kernel
theorem dX13_calls_17 : decode cX13_calls 17 = .ok (.isub, 1) := by decide +kernel
theorem dX13_calls_18 : decode cX13_calls 18 = .ok (.iaload, 1) := by decide +kernel
theorem dX13_calls_19 : decode cX13_calls 19 = .ok (.bipush 8, 2) := by decide +kernel
theorem dX13_calls_21 : decode cX13_calls 21 = .ok (.if_icmp .ne 7, 3) := by decide +kernel
theorem dX13_calls_24 : decode cX13_calls 24 = .ok (.iconst 1, 1) := by decide +kernel
theorem dX13_calls_25 : decode cX13_calls 25 = .ok (.goto 4, 3) := by decide +kernel
theorem dX13_calls_28 : decode cX13_calls 28 = .ok (.iconst 0, 1) := by decide +kernel
theorem dX13_calls_29 : decode cX13_calls 29 = .ok (.istore 5, 2) := by decide +kernel
theorem dX13_calls_31 : decode cX13_calls 31 = .ok (.aload_n 0, 1) := by decide +kernel
theorem dX13_calls_32 : decode cX13_calls 32 = .ok (.aload_n 0, 1) := by decide +kernel
theorem dX13_calls_33 : decode cX13_calls 33 = .ok (.getfield 43, 3) := by decide +kernel
theorem dX13_calls_36 : decode cX13_calls 36 = .ok (.getfield 377, 3) := by decide +kernel
theorem dX13_calls_39 : decode cX13_calls 39 = .ok (.iload 4, 2) := by decide +kernel
theorem dX13_calls_41 : decode cX13_calls 41 = .ok (.iaload, 1) := by decide +kernel
theorem dX13_calls_42 : decode cX13_calls 42 = .ok (.iload_n 3, 1) := by decide +kernel
theorem dX13_calls_43 : decode cX13_calls 43 = .ok (.if_icmp .eq 7, 3) := by decide +kernel
theorem dX13_calls_46 : decode cX13_calls 46 = .ok (.iconst 2, 1) := by decide +kernel
theorem dX13_calls_47 : decode cX13_calls 47 = .ok (.goto 24, 3) := by decide +kernel
theorem dX13_calls_50 : decode cX13_calls 50 = .ok (.iload 5, 2) := by decide +kernel
theorem dX13_calls_52 : decode cX13_calls 52 = .ok (.ifCond .ne 18, 3) := by decide +kernel
theorem dX13_calls_55 : decode cX13_calls 55 = .ok (.aload_n 0, 1) := by decide +kernel
theorem dX13_calls_56 : decode cX13_calls 56 = .ok (.getfield 491, 3) := by decide +kernel
theorem dX13_calls_59 : decode cX13_calls 59 = .ok (.sipush 1000, 3) := by decide +kernel
theorem dX13_calls_62 : decode cX13_calls 62 = .ok (.if_icmp .ne 8, 3) := by decide +kernel
theorem dX13_calls_65 : decode cX13_calls 65 = .ok (.bipush 7, 2) := by decide +kernel
theorem dX13_calls_67 : decode cX13_calls 67 = .ok (.goto 4, 3) := by decide +kernel
theorem dX13_calls_70 : decode cX13_calls 70 = .ok (.iconst 0, 1) := by decide +kernel
theorem dX13_calls_71 : decode cX13_calls 71 = .ok (.putfield 536, 3) := by decide +kernel
theorem dX13_calls_74 : decode cX13_calls 74 = .ok (.aload_n 0, 1) := by decide +kernel
theorem dX13_calls_75 : decode cX13_calls 75 = .ok (.getfield 536, 3) := by decide +kernel
theorem dX13_calls_78 : decode cX13_calls 78 = .ok (.ifCond .le 4, 3) := by decide +kernel
theorem dX13_calls_81 : decode cX13_calls 81 = .ok (.return_, 1) := by decide +kernel
theorem dX13_calls_82 : decode cX13_calls 82 = .ok (.aload_n 0, 1) := by decide +kernel
theorem dX13_calls_83 : decode cX13_calls 83 = .ok (.getfield 604, 3) := by decide +kernel
theorem dX13_calls_86 : decode cX13_calls 86 = .ok (.ifCond .ne 10, 3) := by decide +kernel
theorem dX13_calls_89 : decode cX13_calls 89 = .ok (.aload_n 0, 1) := by decide +kernel
theorem dX13_calls_90 : decode cX13_calls 90 = .ok (.iconst 1, 1) := by decide +kernel
theorem dX13_calls_91 : decode cX13_calls 91 = .ok (.iload_n 1, 1) := by decide +kernel
theorem dX13_calls_92 : decode cX13_calls 92 = .ok (.invokevirtual 607, 3) := by decide +kernel
theorem dX13_calls_95 : decode cX13_calls 95 = .ok (.return_, 1) := by decide +kernel
theorem dX13_calls_96 : decode cX13_calls 96 = .ok (.aload_n 0, 1) := by decide +kernel
theorem dX13_calls_97 : decode cX13_calls 97 = .ok (.dup, 1) := by decide +kernel
theorem dX13_calls_98 : decode cX13_calls 98 = .ok (.getfield 604, 3) := by decide +kernel
theorem dX13_calls_101 : decode cX13_calls 101 = .ok (.iconst 1, 1) := by decide +kernel
theorem dX13_calls_102 : decode cX13_calls 102 = .ok (.isub, 1) := by decide +kernel
theorem dX13_calls_103 : decode cX13_calls 103 = .ok (.putfield 604, 3) := by decide +kernel
theorem dX13_calls_106 : decode cX13_calls 106 = .ok (.aload_n 0, 1) := by decide +kernel
theorem dX13_calls_107 : decode cX13_calls 107 = .ok (.dup, 1) := by decide +kernel
theorem dX13_calls_108 : decode cX13_calls 108 = .ok (.getfield 497, 3) := by decide +kernel
theorem dX13_calls_111 : decode cX13_calls 111 = .ok (.lconst 1, 1) := by decide +kernel
theorem dX13_calls_112 : decode cX13_calls 112 = .ok (.ladd, 1) := by decide +kernel
theorem dX13_calls_113 : decode cX13_calls 113 = .ok (.putfield 497, 3) := by decide +kernel
theorem dX13_calls_116 : decode cX13_calls 116 = .ok (.iload 5, 2) := by decide +kernel
theorem dX13_calls_118 : decode cX13_calls 118 = .ok (.ifCond .eq 14, 3) := by decide +kernel
theorem dX13_calls_121 : decode cX13_calls 121 = .ok (.aload_n 0, 1) := by decide +kernel
theorem dX13_calls_122 : decode cX13_calls 122 = .ok (.aload_n 0, 1) := by decide +kernel
theorem dX13_calls_123 : decode cX13_calls 123 = .ok (.getfield 474, 3) := by decide +kernel
theorem dX13_calls_126 : decode cX13_calls 126 = .ok (.putfield 444, 3) := by decide +kernel
theorem dX13_calls_129 : decode cX13_calls 129 = .ok (.goto 35, 3) := by decide +kernel
theorem dX13_calls_132 : decode cX13_calls 132 = .ok (.aload_n 0, 1) := by decide +kernel
theorem dX13_calls_133 : decode cX13_calls 133 = .ok (.bipush 8, 2) := by decide +kernel
theorem dX13_calls_135 : decode cX13_calls 135 = .ok (.aload_n 0, 1) := by decide +kernel
theorem dX13_calls_136 : decode cX13_calls 136 = .ok (.getfield 474, 3) := by decide +kernel
theorem dX13_calls_139 : decode cX13_calls 139 = .ok (.aload_n 0, 1) := by decide +kernel
theorem dX13_calls_140 : decode cX13_calls 140 = .ok (.getfield 477, 3) := by decide +kernel
theorem dX13_calls_143 : decode cX13_calls 143 = .ok (.invokevirtual 512, 3) := by decide +kernel
theorem dX13_calls_146 : decode cX13_calls 146 = .ok (.aload_n 0, 1) := by decide +kernel
theorem dX13_calls_147 : decode cX13_calls 147 = .ok (.aload_n 0, 1) := by decide +kernel
theorem dX13_calls_148 : decode cX13_calls 148 = .ok (.getfield 444, 3) := by decide +kernel
theorem dX13_calls_151 : decode cX13_calls 151 = .ok (.putfield 474, 3) := by decide +kernel
theorem dX13_calls_154 : decode cX13_calls 154 = .ok (.aload_n 0, 1) := by decide +kernel
theorem dX13_calls_155 : decode cX13_calls 155 = .ok (.dup, 1) := by decide +kernel
theorem dX13_calls_156 : decode cX13_calls 156 = .ok (.getfield 491, 3) := by decide +kernel
theorem dX13_calls_159 : decode cX13_calls 159 = .ok (.iconst 1, 1) := by decide +kernel
theorem dX13_calls_160 : decode cX13_calls 160 = .ok (.iadd, 1) := by decide +kernel
theorem dX13_calls_161 : decode cX13_calls 161 = .ok (.putfield 491, 3) := by decide +kernel
theorem dX13_calls_164 : decode cX13_calls 164 = .ok (.aload_n 0, 1) := by decide +kernel
theorem dX13_calls_165 : decode cX13_calls 165 = .ok (.aload_n 0, 1) := by decide +kernel
theorem dX13_calls_166 : decode cX13_calls 166 = .ok (.getfield 43, 3) := by decide +kernel
theorem dX13_calls_169 : decode cX13_calls 169 = .ok (.getfield 335, 3) := by decide +kernel
theorem dX13_calls_172 : decode cX13_calls 172 = .ok (.iload 4, 2) := by decide +kernel
theorem dX13_calls_174 : decode cX13_calls 174 = .ok (.iaload, 1) := by decide +kernel
theorem dX13_calls_175 : decode cX13_calls 175 = .ok (.invokevirtual 510, 3) := by decide +kernel
theorem dX13_calls_178 : decode cX13_calls 178 = .ok (.iconst 0, 1) := by decide +kernel
theorem dX13_calls_179 : decode cX13_calls 179 = .ok (.istore 6, 2) := by decide +kernel
theorem dX13_calls_181 : decode cX13_calls 181 = .ok (.iload 6, 2) := by decide +kernel
theorem dX13_calls_183 : decode cX13_calls 183 = .ok (.iload_n 3, 1) := by decide +kernel
theorem dX13_calls_184 : decode cX13_calls 184 = .ok (.if_icmp .ge 39, 3) := by decide +kernel
theorem dX13_calls_187 : decode cX13_calls 187 = .ok (.aload_n 0, 1) := by decide +kernel
theorem dX13_calls_188 : decode cX13_calls 188 = .ok (.getfield 98, 3) := by decide +kernel
theorem dX13_calls_191 : decode cX13_calls 191 = .ok (.aload_n 0, 1) := by decide +kernel
theorem dX13_calls_192 : decode cX13_calls 192 = .ok (.getfield 474, 3) := by decide +kernel
theorem dX13_calls_195 : decode cX13_calls 195 = .ok (.iload 6, 2) := by decide +kernel
theorem dX13_calls_197 : decode cX13_calls 197 = .ok (.iadd, 1) := by decide +kernel
theorem dX13_calls_198 : decode cX13_calls 198 = .ok (.aload_n 0, 1) := by decide +kernel
theorem dX13_calls_199 : decode cX13_calls 199 = .ok (.aload_n 0, 1) := by decide +kernel
theorem dX13_calls_200 : decode cX13_calls 200 = .ok (.getfield 110, 3) := by decide +kernel
theorem dX13_calls_203 : decode cX13_calls 203 = .ok (.aload_n 0, 1) := by decide +kernel
theorem dX13_calls_204 : decode cX13_calls 204 = .ok (.getfield 459, 3) := by decide +kernel
theorem dX13_calls_207 : decode cX13_calls 207 = .ok (.iload_n 3, 1) := by decide +kernel
theorem dX13_calls_208 : decode cX13_calls 208 = .ok (.isub, 1) := by decide +kernel
theorem dX13_calls_209 : decode cX13_calls 209 = .ok (.iload 6, 2) := by decide +kernel
theorem dX13_calls_211 : decode cX13_calls 211 = .ok (.iadd, 1) := by decide +kernel
theorem dX13_calls_212 : decode cX13_calls 212 = .ok (.laload, 1) := by decide +kernel
theorem dX13_calls_213 : decode cX13_calls 213 = .ok (.invokevirtual 565, 3) := by decide +kernel
theorem dX13_calls_216 : decode cX13_calls 216 = .ok (.iastore, 1) := by decide +kernel
theorem dX13_calls_217 : decode cX13_calls 217 = .ok (.iinc 6 1, 3) := by decide +kernel
theorem dX13_calls_220 : decode cX13_calls 220 = .ok (.goto (-39), 3) := by decide +kernel
theorem dX13_calls_223 : decode cX13_calls 223 = .ok (.aload_n 0, 1) := by decide +kernel
theorem dX13_calls_224 : decode cX13_calls 224 = .ok (.dup, 1) := by decide +kernel
theorem dX13_calls_225 : decode cX13_calls 225 = .ok (.getfield 459, 3) := by decide +kernel
theorem dX13_calls_228 : decode cX13_calls 228 = .ok (.iload_n 3, 1) := by decide +kernel
theorem dX13_calls_229 : decode cX13_calls 229 = .ok (.iconst 1, 1) := by decide +kernel
theorem dX13_calls_230 : decode cX13_calls 230 = .ok (.iadd, 1) := by decide +kernel
theorem dX13_calls_231 : decode cX13_calls 231 = .ok (.isub, 1) := by decide +kernel
theorem dX13_calls_232 : decode cX13_calls 232 = .ok (.putfield 459, 3) := by decide +kernel
theorem dX13_calls_235 : decode cX13_calls 235 = .ok (.aload_n 0, 1) := by decide +kernel
theorem dX13_calls_236 : decode cX13_calls 236 = .ok (.iload_n 2, 1) := by decide +kernel
theorem dX13_calls_237 : decode cX13_calls 237 = .ok (.putfield 477, 3) := by decide +kernel
theorem dX13_calls_240 : decode cX13_calls 240 = .ok (.aload_n 0, 1) := by decide +kernel
theorem dX13_calls_241 : decode cX13_calls 241 = .ok (.aload_n 0, 1) := by decide +kernel
theorem dX13_calls_242 : decode cX13_calls 242 = .ok (.aload_n 0, 1) := by decide +kernel
theorem dX13_calls_243 : decode cX13_calls 243 = .ok (.getfield 43, 3) := by decide +kernel
theorem dX13_calls_246 : decode cX13_calls 246 = .ok (.getfield 374, 3) := by decide +kernel
theorem dX13_calls_249 : decode cX13_calls 249 = .ok (.iload 4, 2) := by decide +kernel
theorem dX13_calls_251 : decode cX13_calls 251 = .ok (.iaload, 1) := by decide +kernel
theorem dX13_calls_252 : decode cX13_calls 252 = .ok (.iconst 2, 1) := by decide +kernel
theorem dX13_calls_253 : decode cX13_calls 253 = .ok (.invokevirtual 545, 3) := by decide +kernel
theorem dX13_calls_256 : decode cX13_calls 256 = .ok (.invokevirtual 559, 3) := by decide +kernel
theorem dX13_calls_259 : decode cX13_calls 259 = .ok (.return_, 1) := by decide +kernel
theorem dX13_areIntegers_0 : decode cX13_areIntegers 0 = .ok (.lload_n 1, 1) := by decide +kernel
theorem dX13_areIntegers_1 : decode cX13_areIntegers 1 = .ok (.invokestatic 589, 3) := by decide +kernel
theorem dX13_areIntegers_4 : decode cX13_areIntegers 4 = .ok (.iconst 1, 1) := by decide +kernel
theorem dX13_areIntegers_5 : decode cX13_areIntegers 5 = .ok (.if_icmp .ne 15, 3) := by decide +kernel
theorem dX13_areIntegers_8 : decode cX13_areIntegers 8 = .ok (.lload_n 3, 1) := by decide +kernel
theorem dX13_areIntegers_9 : decode cX13_areIntegers 9 = .ok (.invokestatic 589, 3) := by decide +kernel
theorem dX13_areIntegers_12 : decode cX13_areIntegers 12 = .ok (.iconst 1, 1) := by decide +kernel
theorem dX13_areIntegers_13 : decode cX13_areIntegers 13 = .ok (.if_icmp .ne 7, 3) := by decide +kernel
theorem dX13_areIntegers_16 : decode cX13_areIntegers 16 = .ok (.iconst 1, 1) := by decide +kernel
theorem dX13_areIntegers_17 : decode cX13_areIntegers 17 = .ok (.goto 4, 3) := by decide +kernel
theorem dX13_areIntegers_20 : decode cX13_areIntegers 20 = .ok (.iconst 0, 1) := by decide +kernel
theorem dX13_areIntegers_21 : decode cX13_areIntegers 21 = .ok (.ireturn, 1) := by decide +kernel
theorem dX13_primitive_0 : decode cX13_primitive 0 = .ok (.iload_n 2, 1) := by decide +kernel
theorem dX13_primitive_1 : decode cX13_primitive 1 = .ok (.invokestatic 598, 3) := by decide +kernel
theorem dX13_primitive_4 : decode cX13_primitive 4 = .ok (.istore_n 3, 1) := by decide +kernel
theorem dX13_primitive_5 : decode cX13_primitive 5 = .ok (.iload_n 3, 1) := by decide +kernel
theorem dX13_primitive_6 : decode cX13_primitive 6 = .ok (.ifCond .le 17, 3) := by decide +kernel
theorem dX13_primitive_9 : decode cX13_primitive 9 = .ok (.aload_n 0, 1) := by decide +kernel
theorem dX13_primitive_10 : decode cX13_primitive 10 = .ok (.getfield 110, 3) := by decide +kernel
theorem dX13_primitive_13 : decode cX13_primitive 13 = .ok (.aload_n 0, 1) := by decide +kernel
theorem dX13_primitive_14 : decode cX13_primitive 14 = .ok (.getfield 459, 3) := by decide +kernel
theorem dX13_primitive_17 : decode cX13_primitive 17 = .ok (.iload_n 3, 1) := by decide +kernel
theorem dX13_primitive_18 : decode cX13_primitive 18 = .ok (.isub, 1) := by decide +kernel
theorem dX13_primitive_19 : decode cX13_primitive 19 = .ok (.laload, 1) := by decide +kernel
theorem dX13_primitive_20 : decode cX13_primitive 20 = .ok (.goto 4, 3) := by decide +kernel
theorem dX13_primitive_23 : decode cX13_primitive 23 = .ok (.lconst 0, 1) := by decide +kernel
theorem dX13_primitive_24 : decode cX13_primitive 24 = .ok (.lstore 4, 2) := by decide +kernel
theorem dX13_primitive_26 : decode cX13_primitive 26 = .ok (.iload_n 3, 1) := by decide +kernel
theorem dX13_primitive_27 : decode cX13_primitive 27 = .ok (.iconst 1, 1) := by decide +kernel
theorem dX13_primitive_28 : decode cX13_primitive 28 = .ok (.if_icmp .le 17, 3) := by decide +kernel
theorem dX13_primitive_31 : decode cX13_primitive 31 = .ok (.aload_n 0, 1) := by decide +kernel
theorem dX13_primitive_32 : decode cX13_primitive 32 = .ok (.getfield 110, 3) := by decide +kernel
theorem dX13_primitive_35 : decode cX13_primitive 35 = .ok (.aload_n 0, 1) := by decide +kernel
theorem dX13_primitive_36 : decode cX13_primitive 36 = .ok (.getfield 459, 3) := by decide +kernel
theorem dX13_primitive_39 : decode cX13_primitive 39 = .ok (.iconst 1, 1) := by decide +kernel
theorem dX13_primitive_40 : decode cX13_primitive 40 = .ok (.isub, 1) := by decide +kernel
theorem dX13_primitive_41 : decode cX13_primitive 41 = .ok (.laload, 1) := by decide +kernel
theorem dX13_primitive_42 : decode cX13_primitive 42 = .ok (.goto 4, 3) := by decide +kernel
theorem dX13_primitive_45 : decode cX13_primitive 45 = .ok (.lconst 0, 1) := by decide +kernel
theorem dX13_primitive_46 : decode cX13_primitive 46 = .ok (.lstore 6, 2) := by decide +kernel
theorem dX13_primitive_48 : decode cX13_primitive 48 = .ok (.iload_n 2, 1) := by decide +kernel
theorem dX13_primitive_49 : decode cX13_primitive 49 = .ok (.bipush 18, 2) := by decide +kernel
theorem dX13_primitive_51 : decode cX13_primitive 51 = .ok (.if_icmp .eq 9, 3) := by decide +kernel
theorem dX13_primitive_54 : decode cX13_primitive 54 = .ok (.iload_n 2, 1) := by decide +kernel
theorem dX13_primitive_55 : decode cX13_primitive 55 = .ok (.bipush 30, 2) := by decide +kernel
theorem dX13_primitive_57 : decode cX13_primitive 57 = .ok (.if_icmp .ne 12, 3) := by decide +kernel
theorem dX13_primitive_60 : decode cX13_primitive 60 = .ok (.aload_n 0, 1) := by decide +kernel
theorem dX13_primitive_61 : decode cX13_primitive 61 = .ok (.iload_n 1, 1) := by decide +kernel
theorem dX13_primitive_62 : decode cX13_primitive 62 = .ok (.iload_n 2, 1) := by decide +kernel
theorem dX13_primitive_63 : decode cX13_primitive 63 = .ok (.lload 4, 2) := by decide +kernel
theorem dX13_primitive_65 : decode cX13_primitive 65 = .ok (.invokevirtual 610, 3) := by decide +kernel
theorem dX13_primitive_68 : decode cX13_primitive 68 = .ok (.return_, 1) := by decide +kernel
theorem dX13_primitive_69 : decode cX13_primitive 69 = .ok (.iload_n 2, 1) := by decide +kernel
theorem dX13_primitive_70 : decode cX13_primitive 70 = .ok (.bipush 23, 2) := by decide +kernel
theorem dX13_primitive_72 : decode cX13_primitive 72 = .ok (.if_icmp .lt 15, 3) := by decide +kernel
theorem dX13_primitive_75 : decode cX13_primitive 75 = .ok (.aload_n 0, 1) := by decide +kernel
theorem dX13_primitive_76 : decode cX13_primitive 76 = .ok (.iload_n 2, 1) := by decide +kernel
theorem dX13_primitive_77 : decode cX13_primitive 77 = .ok (.lload 4, 2) := by decide +kernel
theorem dX13_primitive_79 : decode cX13_primitive 79 = .ok (.lload 6, 2) := by decide +kernel
theorem dX13_primitive_81 : decode cX13_primitive 81 = .ok (.invokevirtual 614, 3) := by decide +kernel
theorem dX13_primitive_84 : decode cX13_primitive 84 = .ok (.goto 28, 3) := by decide +kernel
theorem dX13_primitive_87 : decode cX13_primitive 87 = .ok (.iload_n 2, 1) := by decide +kernel
theorem dX13_primitive_88 : decode cX13_primitive 88 = .ok (.bipush 19, 2) := by decide +kernel
theorem dX13_primitive_90 : decode cX13_primitive 90 = .ok (.if_icmp .lt 15, 3) := by decide +kernel
theorem dX13_primitive_93 : decode cX13_primitive 93 = .ok (.aload_n 0, 1) := by decide +kernel
theorem dX13_primitive_94 : decode cX13_primitive 94 = .ok (.iload_n 2, 1) := by decide +kernel
theorem dX13_primitive_95 : decode cX13_primitive 95 = .ok (.lload 4, 2) := by decide +kernel
theorem dX13_primitive_97 : decode cX13_primitive 97 = .ok (.lload 6, 2) := by decide +kernel
theorem dX13_primitive_99 : decode cX13_primitive 99 = .ok (.invokevirtual 618, 3) := by decide +kernel
theorem dX13_primitive_102 : decode cX13_primitive 102 = .ok (.goto 10, 3) := by decide +kernel
theorem dX13_primitive_105 : decode cX13_primitive 105 = .ok (.aload_n 0, 1) := by decide +kernel
theorem dX13_primitive_106 : decode cX13_primitive 106 = .ok (.iload_n 2, 1) := by decide +kernel
theorem dX13_primitive_107 : decode cX13_primitive 107 = .ok (.lload 4, 2) := by decide +kernel
theorem dX13_primitive_109 : decode cX13_primitive 109 = .ok (.invokevirtual 621, 3) := by decide +kernel
theorem dX13_primitive_112 : decode cX13_primitive 112 = .ok (.lstore 8, 2) := by decide +kernel
theorem dX13_primitive_114 : decode cX13_primitive 114 = .ok (.aload_n 0, 1) := by decide +kernel
theorem dX13_primitive_115 : decode cX13_primitive 115 = .ok (.getfield 536, 3) := by decide +kernel
theorem dX13_primitive_118 : decode cX13_primitive 118 = .ok (.ifCond .le 4, 3) := by decide +kernel
theorem dX13_primitive_121 : decode cX13_primitive 121 = .ok (.return_, 1) := by decide +kernel
theorem dX13_primitive_122 : decode cX13_primitive 122 = .ok (.aload_n 0, 1) := by decide +kernel
theorem dX13_primitive_123 : decode cX13_primitive 123 = .ok (.dup, 1) := by decide +kernel
theorem dX13_primitive_124 : decode cX13_primitive 124 = .ok (.getfield 459, 3) := by decide +kernel
theorem dX13_primitive_127 : decode cX13_primitive 127 = .ok (.iload_n 3, 1) := by decide +kernel
theorem dX13_primitive_128 : decode cX13_primitive 128 = .ok (.iconst 1, 1) := by decide +kernel
theorem dX13_primitive_129 : decode cX13_primitive 129 = .ok (.iadd, 1) := by decide +kernel
theorem dX13_primitive_130 : decode cX13_primitive 130 = .ok (.isub, 1) := by decide +kernel
theorem dX13_primitive_131 : decode cX13_primitive 131 = .ok (.putfield 459, 3) := by decide +kernel
theorem dX13_primitive_134 : decode cX13_primitive 134 = .ok (.aload_n 0, 1) := by decide +kernel
theorem dX13_primitive_135 : decode cX13_primitive 135 = .ok (.lload 8, 2) := by decide +kernel
theorem dX13_primitive_137 : decode cX13_primitive 137 = .ok (.invokevirtual 525, 3) := by decide +kernel
theorem dX13_primitive_140 : decode cX13_primitive 140 = .ok (.return_, 1) := by decide +kernel
theorem dX13_trades_0 : decode cX13_trades 0 = .ok (.iload_n 2, 1) := by decide +kernel
theorem dX13_trades_1 : decode cX13_trades 1 = .ok (.bipush 18, 2) := by decide +kernel
theorem dX13_trades_3 : decode cX13_trades 3 = .ok (.if_icmp .ne 19, 3) := by decide +kernel
theorem dX13_trades_6 : decode cX13_trades 6 = .ok (.lload_n 3, 1) := by decide +kernel
theorem dX13_trades_7 : decode cX13_trades 7 = .ok (.invokestatic 589, 3) := by decide +kernel
theorem dX13_trades_10 : decode cX13_trades 10 = .ok (.iconst 1, 1) := by decide +kernel
theorem dX13_trades_11 : decode cX13_trades 11 = .ok (.if_icmp .eq 11, 3) := by decide +kernel
theorem dX13_trades_14 : decode cX13_trades 14 = .ok (.aload_n 0, 1) := by decide +kernel
theorem dX13_trades_15 : decode cX13_trades 15 = .ok (.iconst 3, 1) := by decide +kernel
theorem dX13_trades_16 : decode cX13_trades 16 = .ok (.putfield 536, 3) := by decide +kernel
theorem dX13_trades_19 : decode cX13_trades 19 = .ok (.goto 163, 3) := by decide +kernel
theorem dX13_trades_22 : decode cX13_trades 22 = .ok (.iload_n 2, 1) := by decide +kernel
theorem dX13_trades_23 : decode cX13_trades 23 = .ok (.bipush 18, 2) := by decide +kernel
theorem dX13_trades_25 : decode cX13_trades 25 = .ok (.if_icmp .ne 22, 3) := by decide +kernel
theorem dX13_trades_28 : decode cX13_trades 28 = .ok (.aload_n 0, 1) := by decide +kernel
theorem dX13_trades_29 : decode cX13_trades 29 = .ok (.getfield 485, 3) := by decide +kernel
theorem dX13_trades_32 : decode cX13_trades 32 = .ok (.sipush 1000, 3) := by decide +kernel
theorem dX13_trades_35 : decode cX13_trades 35 = .ok (.if_icmp .ne 12, 3) := by decide +kernel
theorem dX13_trades_38 : decode cX13_trades 38 = .ok (.aload_n 0, 1) := by decide +kernel
theorem dX13_trades_39 : decode cX13_trades 39 = .ok (.iconst 3, 1) := by decide +kernel
theorem dX13_trades_40 : decode cX13_trades 40 = .ok (.iload_n 1, 1) := by decide +kernel
theorem dX13_trades_41 : decode cX13_trades 41 = .ok (.invokevirtual 607, 3) := by decide +kernel
theorem dX13_trades_44 : decode cX13_trades 44 = .ok (.goto 138, 3) := by decide +kernel
theorem dX13_trades_47 : decode cX13_trades 47 = .ok (.iload_n 2, 1) := by decide +kernel
theorem dX13_trades_48 : decode cX13_trades 48 = .ok (.bipush 18, 2) := by decide +kernel
theorem dX13_trades_50 : decode cX13_trades 50 = .ok (.if_icmp .ne 44, 3) := by decide +kernel
theorem dX13_trades_53 : decode cX13_trades 53 = .ok (.aload_n 0, 1) := by decide +kernel
theorem dX13_trades_54 : decode cX13_trades 54 = .ok (.getfield 119, 3) := by decide +kernel
theorem dX13_trades_57 : decode cX13_trades 57 = .ok (.aload_n 0, 1) := by decide +kernel
theorem dX13_trades_58 : decode cX13_trades 58 = .ok (.getfield 485, 3) := by decide +kernel
theorem dX13_trades_61 : decode cX13_trades 61 = .ok (.lload_n 3, 1) := by decide +kernel
theorem dX13_trades_62 : decode cX13_trades 62 = .ok (.invokestatic 592, 3) := by decide +kernel
theorem dX13_trades_65 : decode cX13_trades 65 = .ok (.iastore, 1) := by decide +kernel
theorem dX13_trades_66 : decode cX13_trades 66 = .ok (.aload_n 0, 1) := by decide +kernel
theorem dX13_trades_67 : decode cX13_trades 67 = .ok (.dup, 1) := by decide +kernel
theorem dX13_trades_68 : decode cX13_trades 68 = .ok (.getfield 485, 3) := by decide +kernel
theorem dX13_trades_71 : decode cX13_trades 71 = .ok (.iconst 1, 1) := by decide +kernel
theorem dX13_trades_72 : decode cX13_trades 72 = .ok (.iadd, 1) := by decide +kernel
theorem dX13_trades_73 : decode cX13_trades 73 = .ok (.putfield 485, 3) := by decide +kernel
theorem dX13_trades_76 : decode cX13_trades 76 = .ok (.aload_n 0, 1) := by decide +kernel
theorem dX13_trades_77 : decode cX13_trades 77 = .ok (.dup, 1) := by decide +kernel
theorem dX13_trades_78 : decode cX13_trades 78 = .ok (.getfield 459, 3) := by decide +kernel
theorem dX13_trades_81 : decode cX13_trades 81 = .ok (.iconst 2, 1) := by decide +kernel
theorem dX13_trades_82 : decode cX13_trades 82 = .ok (.isub, 1) := by decide +kernel
theorem dX13_trades_83 : decode cX13_trades 83 = .ok (.putfield 459, 3) := by decide +kernel
theorem dX13_trades_86 : decode cX13_trades 86 = .ok (.aload_n 0, 1) := by decide +kernel
theorem dX13_trades_87 : decode cX13_trades 87 = .ok (.lconst 0, 1) := by decide +kernel
theorem dX13_trades_88 : decode cX13_trades 88 = .ok (.invokevirtual 525, 3) := by decide +kernel
theorem dX13_trades_91 : decode cX13_trades 91 = .ok (.goto 91, 3) := by decide +kernel
theorem dX13_trades_94 : decode cX13_trades 94 = .ok (.aload_n 0, 1) := by decide +kernel
theorem dX13_trades_95 : decode cX13_trades 95 = .ok (.getfield 482, 3) := by decide +kernel
theorem dX13_trades_98 : decode cX13_trades 98 = .ok (.ifCond .ne 12, 3) := by decide +kernel
theorem dX13_trades_101 : decode cX13_trades 101 = .ok (.aload_n 0, 1) := by decide +kernel
theorem dX13_trades_102 : decode cX13_trades 102 = .ok (.iconst 2, 1) := by decide +kernel
theorem dX13_trades_103 : decode cX13_trades 103 = .ok (.iload_n 1, 1) := by decide +kernel
theorem dX13_trades_104 : decode cX13_trades 104 = .ok (.invokevirtual 607, 3) := by decide +kernel
theorem dX13_trades_107 : decode cX13_trades 107 = .ok (.goto 75, 3) := by decide +kernel
theorem dX13_trades_110 : decode cX13_trades 110 = .ok (.aload_n 0, 1) := by decide +kernel
theorem dX13_trades_111 : decode cX13_trades 111 = .ok (.getfield 116, 3) := by decide +kernel
theorem dX13_trades_114 : decode cX13_trades 114 = .ok (.iconst 0, 1) := by decide +kernel
theorem dX13_trades_115 : decode cX13_trades 115 = .ok (.iaload, 1) := by decide +kernel
theorem dX13_trades_116 : decode cX13_trades 116 = .ok (.istore 5, 2) := by decide +kernel
theorem dX13_trades_118 : decode cX13_trades 118 = .ok (.aload_n 0, 1) := by decide +kernel
theorem dX13_trades_119 : decode cX13_trades 119 = .ok (.dup, 1) := by decide +kernel
theorem dX13_trades_120 : decode cX13_trades 120 = .ok (.getfield 482, 3) := by decide +kernel
theorem dX13_trades_123 : decode cX13_trades 123 = .ok (.iconst 1, 1) := by decide +kernel
theorem dX13_trades_124 : decode cX13_trades 124 = .ok (.isub, 1) := by decide +kernel
theorem dX13_trades_125 : decode cX13_trades 125 = .ok (.putfield 482, 3) := by decide +kernel
theorem dX13_trades_128 : decode cX13_trades 128 = .ok (.iconst 0, 1) := by decide +kernel
theorem dX13_trades_129 : decode cX13_trades 129 = .ok (.istore 6, 2) := by decide +kernel
theorem dX13_trades_131 : decode cX13_trades 131 = .ok (.iload 6, 2) := by decide +kernel
theorem dX13_trades_133 : decode cX13_trades 133 = .ok (.aload_n 0, 1) := by decide +kernel
theorem dX13_trades_134 : decode cX13_trades 134 = .ok (.getfield 482, 3) := by decide +kernel
theorem dX13_trades_137 : decode cX13_trades 137 = .ok (.if_icmp .ge 25, 3) := by decide +kernel
theorem dX13_trades_140 : decode cX13_trades 140 = .ok (.aload_n 0, 1) := by decide +kernel
theorem dX13_trades_141 : decode cX13_trades 141 = .ok (.getfield 116, 3) := by decide +kernel
theorem dX13_trades_144 : decode cX13_trades 144 = .ok (.iload 6, 2) := by decide +kernel
theorem dX13_trades_146 : decode cX13_trades 146 = .ok (.aload_n 0, 1) := by decide +kernel
theorem dX13_trades_147 : decode cX13_trades 147 = .ok (.getfield 116, 3) := by decide +kernel
theorem dX13_trades_150 : decode cX13_trades 150 = .ok (.iload 6, 2) := by decide +kernel
theorem dX13_trades_152 : decode cX13_trades 152 = .ok (.iconst 1, 1) := by decide +kernel
theorem dX13_trades_153 : decode cX13_trades 153 = .ok (.iadd, 1) := by decide +kernel
theorem dX13_trades_154 : decode cX13_trades 154 = .ok (.iaload, 1) := by decide +kernel
theorem dX13_trades_155 : decode cX13_trades 155 = .ok (.iastore, 1) := by decide +kernel
theorem dX13_trades_156 : decode cX13_trades 156 = .ok (.iinc 6 1, 3) := by decide +kernel
theorem dX13_trades_159 : decode cX13_trades 159 = .ok (.goto (-28), 3) := by decide +kernel
theorem dX13_trades_162 : decode cX13_trades 162 = .ok (.aload_n 0, 1) := by decide +kernel
theorem dX13_trades_163 : decode cX13_trades 163 = .ok (.dup, 1) := by decide +kernel
theorem dX13_trades_164 : decode cX13_trades 164 = .ok (.getfield 459, 3) := by decide +kernel
theorem dX13_trades_167 : decode cX13_trades 167 = .ok (.iconst 1, 1) := by decide +kernel
theorem dX13_trades_168 : decode cX13_trades 168 = .ok (.isub, 1) := by decide +kernel
theorem dX13_trades_169 : decode cX13_trades 169 = .ok (.putfield 459, 3) := by decide +kernel
theorem dX13_trades_172 : decode cX13_trades 172 = .ok (.aload_n 0, 1) := by decide +kernel
theorem dX13_trades_173 : decode cX13_trades 173 = .ok (.iconst 1, 1) := by decide +kernel
theorem dX13_trades_174 : decode cX13_trades 174 = .ok (.iload 5, 2) := by decide +kernel
theorem dX13_trades_176 : decode cX13_trades 176 = .ok (.invokestatic 420, 3) := by decide +kernel
theorem dX13_trades_179 : decode cX13_trades 179 = .ok (.invokevirtual 525, 3) := by decide +kernel
theorem dX13_trades_182 : decode cX13_trades 182 = .ok (.return_, 1) := by decide +kernel
theorem dX13_one_0 : decode cX13_one 0 = .ok (.iload_n 1, 1) := by decide +kernel
theorem dX13_one_1 : decode cX13_one 1 = .ok (.tableswitch 131 13 17 #[35, 53, 70, 87, 114], 35) := by decide +kernel
theorem dX13_one_36 : decode cX13_one 36 = .ok (.lload_n 2, 1) := by decide +kernel
theorem dX13_one_37 : decode cX13_one 37 = .ok (.invokestatic 589, 3) := by decide +kernel
theorem dX13_one_40 : decode cX13_one 40 = .ok (.bipush 6, 2) := by decide +kernel
theorem dX13_one_42 : decode cX13_one 42 = .ok (.if_icmp .ne 7, 3) := by decide +kernel
theorem dX13_one_45 : decode cX13_one 45 = .ok (.iconst 1, 1) := by decide +kernel
theorem dX13_one_46 : decode cX13_one 46 = .ok (.goto 4, 3) := by decide +kernel
theorem dX13_one_49 : decode cX13_one 49 = .ok (.iconst 0, 1) := by decide +kernel
theorem dX13_one_50 : decode cX13_one 50 = .ok (.invokestatic 529, 3) := by decide +kernel
theorem dX13_one_53 : decode cX13_one 53 = .ok (.lreturn, 1) := by decide +kernel
theorem dX13_one_54 : decode cX13_one 54 = .ok (.lload_n 2, 1) := by decide +kernel
theorem dX13_one_55 : decode cX13_one 55 = .ok (.ldc2_w 430, 3) := by decide +kernel
theorem dX13_one_58 : decode cX13_one 58 = .ok (.lcmp, 1) := by decide +kernel
theorem dX13_one_59 : decode cX13_one 59 = .ok (.ifCond .ne 7, 3) := by decide +kernel
theorem dX13_one_62 : decode cX13_one 62 = .ok (.iconst 1, 1) := by decide +kernel
theorem dX13_one_63 : decode cX13_one 63 = .ok (.goto 4, 3) := by decide +kernel
theorem dX13_one_66 : decode cX13_one 66 = .ok (.iconst 0, 1) := by decide +kernel
theorem dX13_one_67 : decode cX13_one 67 = .ok (.invokestatic 529, 3) := by decide +kernel
theorem dX13_one_70 : decode cX13_one 70 = .ok (.lreturn, 1) := by decide +kernel
theorem dX13_one_71 : decode cX13_one 71 = .ok (.lload_n 2, 1) := by decide +kernel
theorem dX13_one_72 : decode cX13_one 72 = .ok (.invokestatic 589, 3) := by decide +kernel
theorem dX13_one_75 : decode cX13_one 75 = .ok (.iconst 1, 1) := by decide +kernel
theorem dX13_one_76 : decode cX13_one 76 = .ok (.if_icmp .ne 7, 3) := by decide +kernel
theorem dX13_one_79 : decode cX13_one 79 = .ok (.iconst 1, 1) := by decide +kernel
theorem dX13_one_80 : decode cX13_one 80 = .ok (.goto 4, 3) := by decide +kernel
theorem dX13_one_83 : decode cX13_one 83 = .ok (.iconst 0, 1) := by decide +kernel
theorem dX13_one_84 : decode cX13_one 84 = .ok (.invokestatic 529, 3) := by decide +kernel
theorem dX13_one_87 : decode cX13_one 87 = .ok (.lreturn, 1) := by decide +kernel
theorem dX13_one_88 : decode cX13_one 88 = .ok (.lload_n 2, 1) := by decide +kernel
theorem dX13_one_89 : decode cX13_one 89 = .ok (.invokestatic 589, 3) := by decide +kernel
theorem dX13_one_92 : decode cX13_one 92 = .ok (.bipush 7, 2) := by decide +kernel
theorem dX13_one_94 : decode cX13_one 94 = .ok (.if_icmp .eq 12, 3) := by decide +kernel
theorem dX13_one_97 : decode cX13_one 97 = .ok (.lload_n 2, 1) := by decide +kernel
theorem dX13_one_98 : decode cX13_one 98 = .ok (.invokestatic 589, 3) := by decide +kernel
theorem dX13_one_101 : decode cX13_one 101 = .ok (.bipush 8, 2) := by decide +kernel
theorem dX13_one_103 : decode cX13_one 103 = .ok (.if_icmp .ne 7, 3) := by decide +kernel
theorem dX13_one_106 : decode cX13_one 106 = .ok (.iconst 1, 1) := by decide +kernel
theorem dX13_one_107 : decode cX13_one 107 = .ok (.goto 4, 3) := by decide +kernel
theorem dX13_one_110 : decode cX13_one 110 = .ok (.iconst 0, 1) := by decide +kernel
theorem dX13_one_111 : decode cX13_one 111 = .ok (.invokestatic 529, 3) := by decide +kernel
theorem dX13_one_114 : decode cX13_one 114 = .ok (.lreturn, 1) := by decide +kernel
theorem dX13_one_115 : decode cX13_one 115 = .ok (.lload_n 2, 1) := by decide +kernel
theorem dX13_one_116 : decode cX13_one 116 = .ok (.ldc2_w 415, 3) := by decide +kernel
theorem dX13_one_119 : decode cX13_one 119 = .ok (.lcmp, 1) := by decide +kernel
theorem dX13_one_120 : decode cX13_one 120 = .ok (.ifCond .ne 7, 3) := by decide +kernel
theorem dX13_one_123 : decode cX13_one 123 = .ok (.iconst 1, 1) := by decide +kernel
theorem dX13_one_124 : decode cX13_one 124 = .ok (.goto 4, 3) := by decide +kernel
theorem dX13_one_127 : decode cX13_one 127 = .ok (.iconst 0, 1) := by decide +kernel
theorem dX13_one_128 : decode cX13_one 128 = .ok (.invokestatic 529, 3) := by decide +kernel
theorem dX13_one_131 : decode cX13_one 131 = .ok (.lreturn, 1) := by decide +kernel
theorem dX13_one_132 : decode cX13_one 132 = .ok (.lload_n 2, 1) := by decide +kernel
theorem dX13_one_133 : decode cX13_one 133 = .ok (.invokestatic 589, 3) := by decide +kernel
theorem dX13_one_136 : decode cX13_one 136 = .ok (.bipush 6, 2) := by decide +kernel
theorem dX13_one_138 : decode cX13_one 138 = .ok (.if_icmp .eq 10, 3) := by decide +kernel
theorem dX13_one_141 : decode cX13_one 141 = .ok (.aload_n 0, 1) := by decide +kernel
theorem dX13_one_142 : decode cX13_one 142 = .ok (.iconst 3, 1) := by decide +kernel
theorem dX13_one_143 : decode cX13_one 143 = .ok (.putfield 536, 3) := by decide +kernel
theorem dX13_one_146 : decode cX13_one 146 = .ok (.lconst 0, 1) := by decide +kernel
theorem dX13_one_147 : decode cX13_one 147 = .ok (.lreturn, 1) := by decide +kernel
theorem dX13_one_148 : decode cX13_one 148 = .ok (.iload_n 1, 1) := by decide +kernel
theorem dX13_one_149 : decode cX13_one 149 = .ok (.bipush 11, 2) := by decide +kernel
theorem dX13_one_151 : decode cX13_one 151 = .ok (.if_icmp .ne 15, 3) := by decide +kernel
theorem dX13_one_154 : decode cX13_one 154 = .ok (.aload_n 0, 1) := by decide +kernel
theorem dX13_one_155 : decode cX13_one 155 = .ok (.getfield 69, 3) := by decide +kernel
theorem dX13_one_158 : decode cX13_one 158 = .ok (.lload_n 2, 1) := by decide +kernel
theorem dX13_one_159 : decode cX13_one 159 = .ok (.invokestatic 592, 3) := by decide +kernel
theorem dX13_one_162 : decode cX13_one 162 = .ok (.laload, 1) := by decide +kernel
theorem dX13_one_163 : decode cX13_one 163 = .ok (.goto 12, 3) := by decide +kernel
theorem dX13_one_166 : decode cX13_one 166 = .ok (.aload_n 0, 1) := by decide +kernel
theorem dX13_one_167 : decode cX13_one 167 = .ok (.getfield 73, 3) := by decide +kernel
theorem dX13_one_170 : decode cX13_one 170 = .ok (.lload_n 2, 1) := by decide +kernel
theorem dX13_one_171 : decode cX13_one 171 = .ok (.invokestatic 592, 3) := by decide +kernel
theorem dX13_one_174 : decode cX13_one 174 = .ok (.laload, 1) := by decide +kernel
theorem dX13_one_175 : decode cX13_one 175 = .ok (.lreturn, 1) := by decide +kernel
theorem dX13_two_0 : decode cX13_two 0 = .ok (.iload_n 1, 1) := by decide +kernel
theorem dX13_two_1 : decode cX13_two 1 = .ok (.bipush 22, 2) := by decide +kernel
theorem dX13_two_3 : decode cX13_two 3 = .ok (.if_icmp .ne 19, 3) := by decide +kernel
theorem dX13_two_6 : decode cX13_two 6 = .ok (.lload_n 2, 1) := by decide +kernel
theorem dX13_two_7 : decode cX13_two 7 = .ok (.lload 4, 2) := by decide +kernel
theorem dX13_two_9 : decode cX13_two 9 = .ok (.lcmp, 1) := by decide +kernel
theorem dX13_two_10 : decode cX13_two 10 = .ok (.ifCond .ne 7, 3) := by decide +kernel
theorem dX13_two_13 : decode cX13_two 13 = .ok (.iconst 1, 1) := by decide +kernel
theorem dX13_two_14 : decode cX13_two 14 = .ok (.goto 4, 3) := by decide +kernel
theorem dX13_two_17 : decode cX13_two 17 = .ok (.iconst 0, 1) := by decide +kernel
theorem dX13_two_18 : decode cX13_two 18 = .ok (.invokestatic 529, 3) := by decide +kernel
theorem dX13_two_21 : decode cX13_two 21 = .ok (.lreturn, 1) := by decide +kernel
theorem dX13_two_22 : decode cX13_two 22 = .ok (.iload_n 1, 1) := by decide +kernel
theorem dX13_two_23 : decode cX13_two 23 = .ok (.bipush 19, 2) := by decide +kernel
theorem dX13_two_25 : decode cX13_two 25 = .ok (.if_icmp .ne 39, 3) := by decide +kernel
theorem dX13_two_28 : decode cX13_two 28 = .ok (.aload_n 0, 1) := by decide +kernel
theorem dX13_two_29 : decode cX13_two 29 = .ok (.getfield 468, 3) := by decide +kernel
theorem dX13_two_32 : decode cX13_two 32 = .ok (.ldc_w 564, 3) := by decide +kernel
theorem dX13_two_35 : decode cX13_two 35 = .ok (.if_icmp .ne 11, 3) := by decide +kernel
theorem dX13_two_38 : decode cX13_two 38 = .ok (.aload_n 0, 1) := by decide +kernel
theorem dX13_two_39 : decode cX13_two 39 = .ok (.bipush 6, 2) := by decide +kernel
theorem dX13_two_41 : decode cX13_two 41 = .ok (.putfield 536, 3) := by decide +kernel
theorem dX13_two_44 : decode cX13_two 44 = .ok (.lconst 0, 1) := by decide +kernel
theorem dX13_two_45 : decode cX13_two 45 = .ok (.lreturn, 1) := by decide +kernel
theorem dX13_two_46 : decode cX13_two 46 = .ok (.aload_n 0, 1) := by decide +kernel
theorem dX13_two_47 : decode cX13_two 47 = .ok (.dup, 1) := by decide +kernel
theorem dX13_two_48 : decode cX13_two 48 = .ok (.getfield 468, 3) := by decide +kernel
theorem dX13_two_51 : decode cX13_two 51 = .ok (.iconst 1, 1) := by decide +kernel
theorem dX13_two_52 : decode cX13_two 52 = .ok (.iadd, 1) := by decide +kernel
theorem dX13_two_53 : decode cX13_two 53 = .ok (.putfield 468, 3) := by decide +kernel
theorem dX13_two_56 : decode cX13_two 56 = .ok (.aload_n 0, 1) := by decide +kernel
theorem dX13_two_57 : decode cX13_two 57 = .ok (.lload_n 2, 1) := by decide +kernel
theorem dX13_two_58 : decode cX13_two 58 = .ok (.lload 4, 2) := by decide +kernel
theorem dX13_two_60 : decode cX13_two 60 = .ok (.invokevirtual 432, 3) := by decide +kernel
theorem dX13_two_63 : decode cX13_two 63 = .ok (.lreturn, 1) := by decide +kernel
theorem dX13_two_64 : decode cX13_two 64 = .ok (.lload_n 2, 1) := by decide +kernel
theorem dX13_two_65 : decode cX13_two 65 = .ok (.invokestatic 589, 3) := by decide +kernel
theorem dX13_two_68 : decode cX13_two 68 = .ok (.bipush 6, 2) := by decide +kernel
theorem dX13_two_70 : decode cX13_two 70 = .ok (.if_icmp .eq 10, 3) := by decide +kernel
theorem dX13_two_73 : decode cX13_two 73 = .ok (.aload_n 0, 1) := by decide +kernel
theorem dX13_two_74 : decode cX13_two 74 = .ok (.iconst 3, 1) := by decide +kernel
theorem dX13_two_75 : decode cX13_two 75 = .ok (.putfield 536, 3) := by decide +kernel
theorem dX13_two_78 : decode cX13_two 78 = .ok (.lconst 0, 1) := by decide +kernel
theorem dX13_two_79 : decode cX13_two 79 = .ok (.lreturn, 1) := by decide +kernel
theorem dX13_two_80 : decode cX13_two 80 = .ok (.iload_n 1, 1) := by decide +kernel
theorem dX13_two_81 : decode cX13_two 81 = .ok (.bipush 20, 2) := by decide +kernel
theorem dX13_two_83 : decode cX13_two 83 = .ok (.if_icmp .ne 17, 3) := by decide +kernel
theorem dX13_two_86 : decode cX13_two 86 = .ok (.aload_n 0, 1) := by decide +kernel
theorem dX13_two_87 : decode cX13_two 87 = .ok (.getfield 69, 3) := by decide +kernel
theorem dX13_two_90 : decode cX13_two 90 = .ok (.lload_n 2, 1) := by decide +kernel
theorem dX13_two_91 : decode cX13_two 91 = .ok (.invokestatic 592, 3) := by decide +kernel
theorem dX13_two_94 : decode cX13_two 94 = .ok (.lload 4, 2) := by decide +kernel
theorem dX13_two_96 : decode cX13_two 96 = .ok (.lastore, 1) := by decide +kernel
theorem dX13_two_97 : decode cX13_two 97 = .ok (.goto 14, 3) := by decide +kernel
theorem dX13_two_100 : decode cX13_two 100 = .ok (.aload_n 0, 1) := by decide +kernel
theorem dX13_two_101 : decode cX13_two 101 = .ok (.getfield 73, 3) := by decide +kernel
theorem dX13_two_104 : decode cX13_two 104 = .ok (.lload_n 2, 1) := by decide +kernel
theorem dX13_two_105 : decode cX13_two 105 = .ok (.invokestatic 592, 3) := by decide +kernel
theorem dX13_two_108 : decode cX13_two 108 = .ok (.lload 4, 2) := by decide +kernel
theorem dX13_two_110 : decode cX13_two 110 = .ok (.lastore, 1) := by decide +kernel
theorem dX13_two_111 : decode cX13_two 111 = .ok (.lconst 0, 1) := by decide +kernel
theorem dX13_two_112 : decode cX13_two 112 = .ok (.lreturn, 1) := by decide +kernel
theorem dX13_reckoned_0 : decode cX13_reckoned 0 = .ok (.aload_n 0, 1) := by decide +kernel
theorem dX13_reckoned_1 : decode cX13_reckoned 1 = .ok (.lload_n 2, 1) := by decide +kernel
theorem dX13_reckoned_2 : decode cX13_reckoned 2 = .ok (.lload 4, 2) := by decide +kernel
theorem dX13_reckoned_4 : decode cX13_reckoned 4 = .ok (.invokevirtual 625, 3) := by decide +kernel
theorem dX13_reckoned_7 : decode cX13_reckoned 7 = .ok (.ifCond .ne 10, 3) := by decide +kernel
theorem dX13_reckoned_10 : decode cX13_reckoned 10 = .ok (.aload_n 0, 1) := by decide +kernel
theorem dX13_reckoned_11 : decode cX13_reckoned 11 = .ok (.iconst 3, 1) := by decide +kernel
theorem dX13_reckoned_12 : decode cX13_reckoned 12 = .ok (.putfield 536, 3) := by decide +kernel
theorem dX13_reckoned_15 : decode cX13_reckoned 15 = .ok (.lconst 0, 1) := by decide +kernel
theorem dX13_reckoned_16 : decode cX13_reckoned 16 = .ok (.lreturn, 1) := by decide +kernel
theorem dX13_reckoned_17 : decode cX13_reckoned 17 = .ok (.lload_n 2, 1) := by decide +kernel
theorem dX13_reckoned_18 : decode cX13_reckoned 18 = .ok (.invokestatic 592, 3) := by decide +kernel
theorem dX13_reckoned_21 : decode cX13_reckoned 21 = .ok (.istore 6, 2) := by decide +kernel
theorem dX13_reckoned_23 : decode cX13_reckoned 23 = .ok (.lload 4, 2) := by decide +kernel
theorem dX13_reckoned_25 : decode cX13_reckoned 25 = .ok (.invokestatic 592, 3) := by decide +kernel
theorem dX13_reckoned_28 : decode cX13_reckoned 28 = .ok (.istore 7, 2) := by decide +kernel
theorem dX13_reckoned_30 : decode cX13_reckoned 30 = .ok (.iload_n 1, 1) := by decide +kernel
theorem dX13_reckoned_31 : decode cX13_reckoned 31 = .ok (.bipush 26, 2) := by decide +kernel
theorem dX13_reckoned_33 : decode cX13_reckoned 33 = .ok (.if_icmp .eq 9, 3) := by decide +kernel
theorem dX13_reckoned_36 : decode cX13_reckoned 36 = .ok (.iload_n 1, 1) := by decide +kernel
theorem dX13_reckoned_37 : decode cX13_reckoned 37 = .ok (.bipush 27, 2) := by decide +kernel
theorem dX13_reckoned_39 : decode cX13_reckoned 39 = .ok (.if_icmp .ne 15, 3) := by decide +kernel
theorem dX13_reckoned_42 : decode cX13_reckoned 42 = .ok (.iload 7, 2) := by decide +kernel
theorem dX13_reckoned_44 : decode cX13_reckoned 44 = .ok (.ifCond .ne 10, 3) := by decide +kernel
theorem dX13_reckoned_47 : decode cX13_reckoned 47 = .ok (.aload_n 0, 1) := by decide +kernel
theorem dX13_reckoned_48 : decode cX13_reckoned 48 = .ok (.iconst 4, 1) := by decide +kernel
theorem dX13_reckoned_49 : decode cX13_reckoned 49 = .ok (.putfield 536, 3) := by decide +kernel
theorem dX13_reckoned_52 : decode cX13_reckoned 52 = .ok (.lconst 0, 1) := by decide +kernel
theorem dX13_reckoned_53 : decode cX13_reckoned 53 = .ok (.lreturn, 1) := by decide +kernel
theorem dX13_reckoned_54 : decode cX13_reckoned 54 = .ok (.iload_n 1, 1) := by decide +kernel
theorem dX13_reckoned_55 : decode cX13_reckoned 55 = .ok (.tableswitch 125 23 28 #[37, 47, 57, 67, 89, 109], 37) := by decide +kernel
theorem dX13_reckoned_92 : decode cX13_reckoned 92 = .ok (.iconst 1, 1) := by decide +kernel
theorem dX13_reckoned_93 : decode cX13_reckoned 93 = .ok (.iload 6, 2) := by decide +kernel
theorem dX13_reckoned_95 : decode cX13_reckoned 95 = .ok (.iload 7, 2) := by decide +kernel
theorem dX13_reckoned_97 : decode cX13_reckoned 97 = .ok (.iadd, 1) := by decide +kernel
theorem dX13_reckoned_98 : decode cX13_reckoned 98 = .ok (.invokestatic 420, 3) := by decide +kernel
theorem dX13_reckoned_101 : decode cX13_reckoned 101 = .ok (.lreturn, 1) := by decide +kernel
theorem dX13_reckoned_102 : decode cX13_reckoned 102 = .ok (.iconst 1, 1) := by decide +kernel
theorem dX13_reckoned_103 : decode cX13_reckoned 103 = .ok (.iload 6, 2) := by decide +kernel
theorem dX13_reckoned_105 : decode cX13_reckoned 105 = .ok (.iload 7, 2) := by decide +kernel
theorem dX13_reckoned_107 : decode cX13_reckoned 107 = .ok (.isub, 1) := by decide +kernel
theorem dX13_reckoned_108 : decode cX13_reckoned 108 = .ok (.invokestatic 420, 3) := by decide +kernel
theorem dX13_reckoned_111 : decode cX13_reckoned 111 = .ok (.lreturn, 1) := by decide +kernel
theorem dX13_reckoned_112 : decode cX13_reckoned 112 = .ok (.iconst 1, 1) := by decide +kernel
theorem dX13_reckoned_113 : decode cX13_reckoned 113 = .ok (.iload 6, 2) := by decide +kernel
theorem dX13_reckoned_115 : decode cX13_reckoned 115 = .ok (.iload 7, 2) := by decide +kernel
theorem dX13_reckoned_117 : decode cX13_reckoned 117 = .ok (.imul, 1) := by decide +kernel
theorem dX13_reckoned_118 : decode cX13_reckoned 118 = .ok (.invokestatic 420, 3) := by decide +kernel
theorem dX13_reckoned_121 : decode cX13_reckoned 121 = .ok (.lreturn, 1) := by decide +kernel
theorem dX13_reckoned_122 : decode cX13_reckoned 122 = .ok (.iconst 1, 1) := by decide +kernel
theorem dX13_reckoned_123 : decode cX13_reckoned 123 = .ok (.iload 7, 2) := by decide +kernel
theorem dX13_reckoned_125 : decode cX13_reckoned 125 = .ok (.iconst (-1), 1) := by decide +kernel
theorem dX13_reckoned_126 : decode cX13_reckoned 126 = .ok (.if_icmp .ne 9, 3) := by decide +kernel
theorem dX13_reckoned_129 : decode cX13_reckoned 129 = .ok (.iload 6, 2) := by decide +kernel
theorem dX13_reckoned_131 : decode cX13_reckoned 131 = .ok (.ineg, 1) := by decide +kernel
theorem dX13_reckoned_132 : decode cX13_reckoned 132 = .ok (.goto 8, 3) := by decide +kernel
theorem dX13_reckoned_135 : decode cX13_reckoned 135 = .ok (.iload 6, 2) := by decide +kernel
theorem dX13_reckoned_137 : decode cX13_reckoned 137 = .ok (.iload 7, 2) := by decide +kernel
theorem dX13_reckoned_139 : decode cX13_reckoned 139 = .ok (.idiv, 1) := by decide +kernel
theorem dX13_reckoned_140 : decode cX13_reckoned 140 = .ok (.invokestatic 420, 3) := by decide +kernel
theorem dX13_reckoned_143 : decode cX13_reckoned 143 = .ok (.lreturn, 1) := by decide +kernel
theorem dX13_reckoned_144 : decode cX13_reckoned 144 = .ok (.iconst 1, 1) := by decide +kernel
theorem dX13_reckoned_145 : decode cX13_reckoned 145 = .ok (.iload 7, 2) := by decide +kernel
theorem dX13_reckoned_147 : decode cX13_reckoned 147 = .ok (.iconst (-1), 1) := by decide +kernel
theorem dX13_reckoned_148 : decode cX13_reckoned 148 = .ok (.if_icmp .ne 7, 3) := by decide +kernel
theorem dX13_reckoned_151 : decode cX13_reckoned 151 = .ok (.iconst 0, 1) := by decide +kernel
theorem dX13_reckoned_152 : decode cX13_reckoned 152 = .ok (.goto 8, 3) := by decide +kernel
theorem dX13_reckoned_155 : decode cX13_reckoned 155 = .ok (.iload 6, 2) := by decide +kernel
theorem dX13_reckoned_157 : decode cX13_reckoned 157 = .ok (.iload 7, 2) := by decide +kernel
theorem dX13_reckoned_159 : decode cX13_reckoned 159 = .ok (.irem, 1) := by decide +kernel
theorem dX13_reckoned_160 : decode cX13_reckoned 160 = .ok (.invokestatic 420, 3) := by decide +kernel
theorem dX13_reckoned_163 : decode cX13_reckoned 163 = .ok (.lreturn, 1) := by decide +kernel
theorem dX13_reckoned_164 : decode cX13_reckoned 164 = .ok (.iload 6, 2) := by decide +kernel
theorem dX13_reckoned_166 : decode cX13_reckoned 166 = .ok (.iload 7, 2) := by decide +kernel
theorem dX13_reckoned_168 : decode cX13_reckoned 168 = .ok (.if_icmp .ne 7, 3) := by decide +kernel
theorem dX13_reckoned_171 : decode cX13_reckoned 171 = .ok (.iconst 1, 1) := by decide +kernel
theorem dX13_reckoned_172 : decode cX13_reckoned 172 = .ok (.goto 4, 3) := by decide +kernel
theorem dX13_reckoned_175 : decode cX13_reckoned 175 = .ok (.iconst 0, 1) := by decide +kernel
theorem dX13_reckoned_176 : decode cX13_reckoned 176 = .ok (.invokestatic 529, 3) := by decide +kernel
theorem dX13_reckoned_179 : decode cX13_reckoned 179 = .ok (.lreturn, 1) := by decide +kernel
theorem dX13_reckoned_180 : decode cX13_reckoned 180 = .ok (.iload 6, 2) := by decide +kernel
theorem dX13_reckoned_182 : decode cX13_reckoned 182 = .ok (.iload 7, 2) := by decide +kernel
theorem dX13_reckoned_184 : decode cX13_reckoned 184 = .ok (.if_icmp .ge 7, 3) := by decide +kernel
theorem dX13_reckoned_187 : decode cX13_reckoned 187 = .ok (.iconst 1, 1) := by decide +kernel
theorem dX13_reckoned_188 : decode cX13_reckoned 188 = .ok (.goto 4, 3) := by decide +kernel
theorem dX13_reckoned_191 : decode cX13_reckoned 191 = .ok (.iconst 0, 1) := by decide +kernel
theorem dX13_reckoned_192 : decode cX13_reckoned 192 = .ok (.invokestatic 529, 3) := by decide +kernel
theorem dX13_reckoned_195 : decode cX13_reckoned 195 = .ok (.lreturn, 1) := by decide +kernel
theorem dX13_run_0 : decode cX13_run 0 = .ok (.aload_n 0, 1) := by decide +kernel
theorem dX13_run_1 : decode cX13_run 1 = .ok (.getfield 404, 3) := by decide +kernel
theorem dX13_run_4 : decode cX13_run 4 = .ok (.ifCond .eq 14, 3) := by decide +kernel
theorem dX13_run_7 : decode cX13_run 7 = .ok (.iload_n 1, 1) := by decide +kernel
theorem dX13_run_8 : decode cX13_run 8 = .ok (.ifCond .lt 10, 3) := by decide +kernel
theorem dX13_run_11 : decode cX13_run 11 = .ok (.iload_n 1, 1) := by decide +kernel
theorem dX13_run_12 : decode cX13_run 12 = .ok (.sipush 20000, 3) := by decide +kernel
theorem dX13_run_15 : decode cX13_run 15 = .ok (.if_icmp .le 5, 3) := by decide +kernel
theorem dX13_run_18 : decode cX13_run 18 = .ok (.iconst (-1), 1) := by decide +kernel
theorem dX13_run_19 : decode cX13_run 19 = .ok (.ireturn, 1) := by decide +kernel
theorem dX13_run_20 : decode cX13_run 20 = .ok (.aload_n 0, 1) := by decide +kernel
theorem dX13_run_21 : decode cX13_run 21 = .ok (.iload_n 1, 1) := by decide +kernel
theorem dX13_run_22 : decode cX13_run 22 = .ok (.putfield 604, 3) := by decide +kernel
theorem dX13_run_25 : decode cX13_run 25 = .ok (.aload_n 0, 1) := by decide +kernel
theorem dX13_run_26 : decode cX13_run 26 = .ok (.iconst 0, 1) := by decide +kernel
theorem dX13_run_27 : decode cX13_run 27 = .ok (.putfield 569, 3) := by decide +kernel
theorem dX13_run_30 : decode cX13_run 30 = .ok (.aload_n 0, 1) := by decide +kernel
theorem dX13_run_31 : decode cX13_run 31 = .ok (.iconst 0, 1) := by decide +kernel
theorem dX13_run_32 : decode cX13_run 32 = .ok (.putfield 536, 3) := by decide +kernel
theorem dX13_run_35 : decode cX13_run 35 = .ok (.aload_n 0, 1) := by decide +kernel
theorem dX13_run_36 : decode cX13_run 36 = .ok (.getfield 507, 3) := by decide +kernel
theorem dX13_run_39 : decode cX13_run 39 = .ok (.iconst (-1), 1) := by decide +kernel
theorem dX13_run_40 : decode cX13_run 40 = .ok (.if_icmp .ne 53, 3) := by decide +kernel
theorem dX13_run_43 : decode cX13_run 43 = .ok (.aload_n 0, 1) := by decide +kernel
theorem dX13_run_44 : decode cX13_run 44 = .ok (.getfield 569, 3) := by decide +kernel
theorem dX13_run_47 : decode cX13_run 47 = .ok (.ifCond .ne 46, 3) := by decide +kernel
theorem dX13_run_50 : decode cX13_run 50 = .ok (.aload_n 0, 1) := by decide +kernel
theorem dX13_run_51 : decode cX13_run 51 = .ok (.getfield 514, 3) := by decide +kernel
theorem dX13_run_54 : decode cX13_run 54 = .ok (.ifCond .eq 10, 3) := by decide +kernel
theorem dX13_run_57 : decode cX13_run 57 = .ok (.aload_n 0, 1) := by decide +kernel
theorem dX13_run_58 : decode cX13_run 58 = .ok (.invokevirtual 629, 3) := by decide +kernel
theorem dX13_run_61 : decode cX13_run 61 = .ok (.goto 11, 3) := by decide +kernel
theorem dX13_run_64 : decode cX13_run 64 = .ok (.aload_n 0, 1) := by decide +kernel
theorem dX13_run_65 : decode cX13_run 65 = .ok (.aload_n 0, 1) := by decide +kernel
theorem dX13_run_66 : decode cX13_run 66 = .ok (.getfield 520, 3) := by decide +kernel
theorem dX13_run_69 : decode cX13_run 69 = .ok (.invokevirtual 632, 3) := by decide +kernel
theorem dX13_run_72 : decode cX13_run 72 = .ok (.aload_n 0, 1) := by decide +kernel
theorem dX13_run_73 : decode cX13_run 73 = .ok (.getfield 536, 3) := by decide +kernel
theorem dX13_run_76 : decode cX13_run 76 = .ok (.ifCond .le (-41), 3) := by decide +kernel
theorem dX13_run_79 : decode cX13_run 79 = .ok (.aload_n 0, 1) := by decide +kernel
theorem dX13_run_80 : decode cX13_run 80 = .ok (.bipush 10, 2) := by decide +kernel
theorem dX13_run_82 : decode cX13_run 82 = .ok (.aload_n 0, 1) := by decide +kernel
theorem dX13_run_83 : decode cX13_run 83 = .ok (.getfield 536, 3) := by decide +kernel
theorem dX13_run_86 : decode cX13_run 86 = .ok (.iadd, 1) := by decide +kernel
theorem dX13_run_87 : decode cX13_run 87 = .ok (.putfield 507, 3) := by decide +kernel
theorem dX13_run_90 : decode cX13_run 90 = .ok (.goto (-55), 3) := by decide +kernel
theorem dX13_run_93 : decode cX13_run 93 = .ok (.aload_n 0, 1) := by decide +kernel
theorem dX13_run_94 : decode cX13_run 94 = .ok (.aload_n 0, 1) := by decide +kernel
theorem dX13_run_95 : decode cX13_run 95 = .ok (.getfield 504, 3) := by decide +kernel
theorem dX13_run_98 : decode cX13_run 98 = .ok (.putfield 501, 3) := by decide +kernel
theorem dX13_run_101 : decode cX13_run 101 = .ok (.aload_n 0, 1) := by decide +kernel
theorem dX13_run_102 : decode cX13_run 102 = .ok (.aload_n 0, 1) := by decide +kernel
theorem dX13_run_103 : decode cX13_run 103 = .ok (.getfield 507, 3) := by decide +kernel
theorem dX13_run_106 : decode cX13_run 106 = .ok (.iconst (-1), 1) := by decide +kernel
theorem dX13_run_107 : decode cX13_run 107 = .ok (.if_icmp .ne 10, 3) := by decide +kernel
theorem dX13_run_110 : decode cX13_run 110 = .ok (.aload_n 0, 1) := by decide +kernel
theorem dX13_run_111 : decode cX13_run 111 = .ok (.getfield 569, 3) := by decide +kernel
theorem dX13_run_114 : decode cX13_run 114 = .ok (.goto 7, 3) := by decide +kernel
theorem dX13_run_117 : decode cX13_run 117 = .ok (.aload_n 0, 1) := by decide +kernel
theorem dX13_run_118 : decode cX13_run 118 = .ok (.getfield 507, 3) := by decide +kernel
theorem dX13_run_121 : decode cX13_run 121 = .ok (.putfield 494, 3) := by decide +kernel
theorem dX13_run_124 : decode cX13_run 124 = .ok (.aload_n 0, 1) := by decide +kernel
theorem dX13_run_125 : decode cX13_run 125 = .ok (.getfield 494, 3) := by decide +kernel
theorem dX13_run_128 : decode cX13_run 128 = .ok (.ireturn, 1) := by decide +kernel
theorem dX13_output_0 : decode cX13_output 0 = .ok (.iload_n 1, 1) := by decide +kernel
theorem dX13_output_1 : decode cX13_output 1 = .ok (.ifCond .lt 11, 3) := by decide +kernel
theorem dX13_output_4 : decode cX13_output 4 = .ok (.iload_n 1, 1) := by decide +kernel
theorem dX13_output_5 : decode cX13_output 5 = .ok (.aload_n 0, 1) := by decide +kernel
theorem dX13_output_6 : decode cX13_output 6 = .ok (.getfield 485, 3) := by decide +kernel
theorem dX13_output_9 : decode cX13_output 9 = .ok (.if_icmp .lt 7, 3) := by decide +kernel
theorem dX13_output_12 : decode cX13_output 12 = .ok (.iconst 0, 1) := by decide +kernel
theorem dX13_output_13 : decode cX13_output 13 = .ok (.goto 9, 3) := by decide +kernel
theorem dX13_output_16 : decode cX13_output 16 = .ok (.aload_n 0, 1) := by decide +kernel
theorem dX13_output_17 : decode cX13_output 17 = .ok (.getfield 119, 3) := by decide +kernel
theorem dX13_output_20 : decode cX13_output 20 = .ok (.iload_n 1, 1) := by decide +kernel
theorem dX13_output_21 : decode cX13_output 21 = .ok (.iaload, 1) := by decide +kernel
theorem dX13_output_22 : decode cX13_output 22 = .ok (.ireturn, 1) := by decide +kernel
theorem dX13_clear_0 : decode cX13_clear 0 = .ok (.aload_n 0, 1) := by decide +kernel
theorem dX13_clear_1 : decode cX13_clear 1 = .ok (.getfield 485, 3) := by decide +kernel
theorem dX13_clear_4 : decode cX13_clear 4 = .ok (.istore_n 1, 1) := by decide +kernel
theorem dX13_clear_5 : decode cX13_clear 5 = .ok (.aload_n 0, 1) := by decide +kernel
theorem dX13_clear_6 : decode cX13_clear 6 = .ok (.iconst 0, 1) := by decide +kernel
theorem dX13_clear_7 : decode cX13_clear 7 = .ok (.putfield 485, 3) := by decide +kernel
theorem dX13_clear_10 : decode cX13_clear 10 = .ok (.iload_n 1, 1) := by decide +kernel
theorem dX13_clear_11 : decode cX13_clear 11 = .ok (.ireturn, 1) := by decide +kernel
theorem dX13_global_0 : decode cX13_global 0 = .ok (.aload_n 0, 1) := by decide +kernel
theorem dX13_global_1 : decode cX13_global 1 = .ok (.getfield 404, 3) := by decide +kernel
theorem dX13_global_4 : decode cX13_global 4 = .ok (.ifCond .eq 18, 3) := by decide +kernel
theorem dX13_global_7 : decode cX13_global 7 = .ok (.iload_n 1, 1) := by decide +kernel
theorem dX13_global_8 : decode cX13_global 8 = .ok (.ifCond .lt 14, 3) := by decide +kernel
theorem dX13_global_11 : decode cX13_global 11 = .ok (.iload_n 1, 1) := by decide +kernel
theorem dX13_global_12 : decode cX13_global 12 = .ok (.aload_n 0, 1) := by decide +kernel
theorem dX13_global_13 : decode cX13_global 13 = .ok (.getfield 43, 3) := by decide +kernel
theorem dX13_global_16 : decode cX13_global 16 = .ok (.getfield 314, 3) := by decide +kernel
theorem dX13_global_19 : decode cX13_global 19 = .ok (.if_icmp .lt 5, 3) := by decide +kernel
theorem dX13_global_22 : decode cX13_global 22 = .ok (.iconst 0, 1) := by decide +kernel
theorem dX13_global_23 : decode cX13_global 23 = .ok (.ireturn, 1) := by decide +kernel
theorem dX13_global_24 : decode cX13_global 24 = .ok (.aload_n 0, 1) := by decide +kernel
theorem dX13_global_25 : decode cX13_global 25 = .ok (.aload_n 0, 1) := by decide +kernel
theorem dX13_global_26 : decode cX13_global 26 = .ok (.getfield 113, 3) := by decide +kernel
theorem dX13_global_29 : decode cX13_global 29 = .ok (.iload_n 1, 1) := by decide +kernel
theorem dX13_global_30 : decode cX13_global 30 = .ok (.laload, 1) := by decide +kernel
theorem dX13_global_31 : decode cX13_global 31 = .ok (.ldc2_w 480, 3) := by decide +kernel
theorem dX13_global_34 : decode cX13_global 34 = .ok (.lcmp, 1) := by decide +kernel
theorem dX13_global_35 : decode cX13_global 35 = .ok (.ifCond .ne 7, 3) := by decide +kernel
theorem dX13_global_38 : decode cX13_global 38 = .ok (.lconst 0, 1) := by decide +kernel
theorem dX13_global_39 : decode cX13_global 39 = .ok (.goto 9, 3) := by decide +kernel
theorem dX13_global_42 : decode cX13_global 42 = .ok (.aload_n 0, 1) := by decide +kernel
theorem dX13_global_43 : decode cX13_global 43 = .ok (.getfield 113, 3) := by decide +kernel
theorem dX13_global_46 : decode cX13_global 46 = .ok (.iload_n 1, 1) := by decide +kernel
theorem dX13_global_47 : decode cX13_global 47 = .ok (.laload, 1) := by decide +kernel
theorem dX13_global_48 : decode cX13_global 48 = .ok (.putfield 501, 3) := by decide +kernel
theorem dX13_global_51 : decode cX13_global 51 = .ok (.iconst 1, 1) := by decide +kernel
theorem dX13_global_52 : decode cX13_global 52 = .ok (.ireturn, 1) := by decide +kernel
theorem dX13_go_0 : decode cX13_go 0 = .ok (.aload_n 0, 1) := by decide +kernel
theorem dX13_go_1 : decode cX13_go 1 = .ok (.getfield 501, 3) := by decide +kernel
theorem dX13_go_4 : decode cX13_go 4 = .ok (.invokestatic 589, 3) := by decide +kernel
theorem dX13_go_7 : decode cX13_go 7 = .ok (.bipush 6, 2) := by decide +kernel
theorem dX13_go_9 : decode cX13_go 9 = .ok (.if_icmp .ne 12, 3) := by decide +kernel
theorem dX13_go_12 : decode cX13_go 12 = .ok (.iload_n 1, 1) := by decide +kernel
theorem dX13_go_13 : decode cX13_go 13 = .ok (.ifCond .lt 8, 3) := by decide +kernel
theorem dX13_go_16 : decode cX13_go 16 = .ok (.iload_n 1, 1) := by decide +kernel
theorem dX13_go_17 : decode cX13_go 17 = .ok (.iconst 1, 1) := by decide +kernel
theorem dX13_go_18 : decode cX13_go 18 = .ok (.if_icmp .le 5, 3) := by decide +kernel
theorem dX13_go_21 : decode cX13_go 21 = .ok (.iconst 0, 1) := by decide +kernel
theorem dX13_go_22 : decode cX13_go 22 = .ok (.ireturn, 1) := by decide +kernel
theorem dX13_go_23 : decode cX13_go 23 = .ok (.aload_n 0, 1) := by decide +kernel
theorem dX13_go_24 : decode cX13_go 24 = .ok (.iload_n 1, 1) := by decide +kernel
theorem dX13_go_25 : decode cX13_go 25 = .ok (.ifCond .ne 18, 3) := by decide +kernel
theorem dX13_go_28 : decode cX13_go 28 = .ok (.aload_n 0, 1) := by decide +kernel
theorem dX13_go_29 : decode cX13_go 29 = .ok (.getfield 69, 3) := by decide +kernel
theorem dX13_go_32 : decode cX13_go 32 = .ok (.aload_n 0, 1) := by decide +kernel
theorem dX13_go_33 : decode cX13_go 33 = .ok (.getfield 501, 3) := by decide +kernel
theorem dX13_go_36 : decode cX13_go 36 = .ok (.invokestatic 592, 3) := by decide +kernel
theorem dX13_go_39 : decode cX13_go 39 = .ok (.laload, 1) := by decide +kernel
theorem dX13_go_40 : decode cX13_go 40 = .ok (.goto 15, 3) := by decide +kernel
theorem dX13_go_43 : decode cX13_go 43 = .ok (.aload_n 0, 1) := by decide +kernel
theorem dX13_go_44 : decode cX13_go 44 = .ok (.getfield 73, 3) := by decide +kernel
theorem dX13_go_47 : decode cX13_go 47 = .ok (.aload_n 0, 1) := by decide +kernel
theorem dX13_go_48 : decode cX13_go 48 = .ok (.getfield 501, 3) := by decide +kernel
theorem dX13_go_51 : decode cX13_go 51 = .ok (.invokestatic 592, 3) := by decide +kernel
theorem dX13_go_54 : decode cX13_go 54 = .ok (.laload, 1) := by decide +kernel
theorem dX13_go_55 : decode cX13_go 55 = .ok (.putfield 501, 3) := by decide +kernel
theorem dX13_go_58 : decode cX13_go 58 = .ok (.iconst 1, 1) := by decide +kernel
theorem dX13_go_59 : decode cX13_go 59 = .ok (.ireturn, 1) := by decide +kernel
theorem dX13_mark_0 : decode cX13_mark 0 = .ok (.iload_n 1, 1) := by decide +kernel
theorem dX13_mark_1 : decode cX13_mark 1 = .ok (.ifCond .lt 8, 3) := by decide +kernel
theorem dX13_mark_4 : decode cX13_mark 4 = .ok (.iload_n 1, 1) := by decide +kernel
theorem dX13_mark_5 : decode cX13_mark 5 = .ok (.iconst 4, 1) := by decide +kernel
theorem dX13_mark_6 : decode cX13_mark 6 = .ok (.if_icmp .lt 5, 3) := by decide +kernel
theorem dX13_mark_9 : decode cX13_mark 9 = .ok (.iconst 0, 1) := by decide +kernel
theorem dX13_mark_10 : decode cX13_mark 10 = .ok (.ireturn, 1) := by decide +kernel
theorem dX13_mark_11 : decode cX13_mark 11 = .ok (.aload_n 0, 1) := by decide +kernel
theorem dX13_mark_12 : decode cX13_mark 12 = .ok (.getfield 122, 3) := by decide +kernel
theorem dX13_mark_15 : decode cX13_mark 15 = .ok (.iload_n 1, 1) := by decide +kernel
theorem dX13_mark_16 : decode cX13_mark 16 = .ok (.aload_n 0, 1) := by decide +kernel
theorem dX13_mark_17 : decode cX13_mark 17 = .ok (.getfield 501, 3) := by decide +kernel
theorem dX13_mark_20 : decode cX13_mark 20 = .ok (.lastore, 1) := by decide +kernel
theorem dX13_mark_21 : decode cX13_mark 21 = .ok (.iconst 1, 1) := by decide +kernel
theorem dX13_mark_22 : decode cX13_mark 22 = .ok (.ireturn, 1) := by decide +kernel
theorem dX13_same_0 : decode cX13_same 0 = .ok (.iload_n 1, 1) := by decide +kernel
theorem dX13_same_1 : decode cX13_same 1 = .ok (.ifCond .lt 26, 3) := by decide +kernel
theorem dX13_same_4 : decode cX13_same 4 = .ok (.iload_n 1, 1) := by decide +kernel
theorem dX13_same_5 : decode cX13_same 5 = .ok (.iconst 4, 1) := by decide +kernel
theorem dX13_same_6 : decode cX13_same 6 = .ok (.if_icmp .ge 21, 3) := by decide +kernel
theorem dX13_same_9 : decode cX13_same 9 = .ok (.aload_n 0, 1) := by decide +kernel
theorem dX13_same_10 : decode cX13_same 10 = .ok (.getfield 122, 3) := by decide +kernel
theorem dX13_same_13 : decode cX13_same 13 = .ok (.iload_n 1, 1) := by decide +kernel
theorem dX13_same_14 : decode cX13_same 14 = .ok (.laload, 1) := by decide +kernel
theorem dX13_same_15 : decode cX13_same 15 = .ok (.aload_n 0, 1) := by decide +kernel
theorem dX13_same_16 : decode cX13_same 16 = .ok (.getfield 501, 3) := by decide +kernel
theorem dX13_same_19 : decode cX13_same 19 = .ok (.lcmp, 1) := by decide +kernel
theorem dX13_same_20 : decode cX13_same 20 = .ok (.ifCond .ne 7, 3) := by decide +kernel
theorem dX13_same_23 : decode cX13_same 23 = .ok (.iconst 1, 1) := by decide +kernel
theorem dX13_same_24 : decode cX13_same 24 = .ok (.goto 4, 3) := by decide +kernel
theorem dX13_same_27 : decode cX13_same 27 = .ok (.iconst 0, 1) := by decide +kernel
theorem dX13_same_28 : decode cX13_same 28 = .ok (.ireturn, 1) := by decide +kernel
theorem dX13_tells_0 : decode cX13_tells 0 = .ok (.lload_n 1, 1) := by decide +kernel
theorem dX13_tells_1 : decode cX13_tells 1 = .ok (.invokestatic 589, 3) := by decide +kernel
theorem dX13_tells_4 : decode cX13_tells 4 = .ok (.tableswitch 79 1 8 #[48, 79, 79, 79, 48, 79, 53, 71], 48) := by decide +kernel
theorem dX13_tells_52 : decode cX13_tells 52 = .ok (.lload_n 1, 1) := by decide +kernel
theorem dX13_tells_53 : decode cX13_tells 53 = .ok (.invokestatic 592, 3) := by decide +kernel
theorem dX13_tells_56 : decode cX13_tells 56 = .ok (.ireturn, 1) := by decide +kernel
theorem dX13_tells_57 : decode cX13_tells 57 = .ok (.aload_n 0, 1) := by decide +kernel
theorem dX13_tells_58 : decode cX13_tells 58 = .ok (.getfield 43, 3) := by decide +kernel
theorem dX13_tells_61 : decode cX13_tells 61 = .ok (.getfield 377, 3) := by decide +kernel
theorem dX13_tells_64 : decode cX13_tells 64 = .ok (.aload_n 0, 1) := by decide +kernel
theorem dX13_tells_65 : decode cX13_tells 65 = .ok (.getfield 83, 3) := by decide +kernel
theorem dX13_tells_68 : decode cX13_tells 68 = .ok (.lload_n 1, 1) := by decide +kernel
theorem dX13_tells_69 : decode cX13_tells 69 = .ok (.invokestatic 592, 3) := by decide +kernel
theorem dX13_tells_72 : decode cX13_tells 72 = .ok (.iaload, 1) := by decide +kernel
theorem dX13_tells_73 : decode cX13_tells 73 = .ok (.iaload, 1) := by decide +kernel
theorem dX13_tells_74 : decode cX13_tells 74 = .ok (.ireturn, 1) := by decide +kernel
theorem dX13_tells_75 : decode cX13_tells 75 = .ok (.lload_n 1, 1) := by decide +kernel
theorem dX13_tells_76 : decode cX13_tells 76 = .ok (.invokestatic 592, 3) := by decide +kernel
theorem dX13_tells_79 : decode cX13_tells 79 = .ok (.invokestatic 598, 3) := by decide +kernel
theorem dX13_tells_82 : decode cX13_tells 82 = .ok (.ireturn, 1) := by decide +kernel
theorem dX13_tells_83 : decode cX13_tells 83 = .ok (.iconst 0, 1) := by decide +kernel
theorem dX13_tells_84 : decode cX13_tells 84 = .ok (.ireturn, 1) := by decide +kernel
theorem dX13_at_0 : decode cX13_at 0 = .ok (.iload_n 1, 1) := by decide +kernel
theorem dX13_at_1 : decode cX13_at 1 = .ok (.ifCond .ne 13, 3) := by decide +kernel
theorem dX13_at_4 : decode cX13_at 4 = .ok (.aload_n 0, 1) := by decide +kernel
theorem dX13_at_5 : decode cX13_at 5 = .ok (.getfield 501, 3) := by decide +kernel
theorem dX13_at_8 : decode cX13_at 8 = .ok (.invokestatic 589, 3) := by decide +kernel
theorem dX13_at_11 : decode cX13_at 11 = .ok (.goto 20, 3) := by decide +kernel
theorem dX13_at_14 : decode cX13_at 14 = .ok (.iload_n 1, 1) := by decide +kernel
theorem dX13_at_15 : decode cX13_at 15 = .ok (.iconst 1, 1) := by decide +kernel
theorem dX13_at_16 : decode cX13_at 16 = .ok (.if_icmp .ne 14, 3) := by decide +kernel
theorem dX13_at_19 : decode cX13_at 19 = .ok (.aload_n 0, 1) := by decide +kernel
theorem dX13_at_20 : decode cX13_at 20 = .ok (.aload_n 0, 1) := by decide +kernel
theorem dX13_at_21 : decode cX13_at 21 = .ok (.getfield 501, 3) := by decide +kernel
theorem dX13_at_24 : decode cX13_at 24 = .ok (.invokevirtual 634, 3) := by decide +kernel
theorem dX13_at_27 : decode cX13_at 27 = .ok (.goto 4, 3) := by decide +kernel
theorem dX13_at_30 : decode cX13_at 30 = .ok (.iconst (-1), 1) := by decide +kernel
theorem dX13_at_31 : decode cX13_at 31 = .ok (.ireturn, 1) := by decide +kernel
theorem dX13_count_0 : decode cX13_count 0 = .ok (.iload_n 1, 1) := by decide +kernel
theorem dX13_count_1 : decode cX13_count 1 = .ok (.tableswitch 196 0 11 #[63, 68, 81, 100, 116, 135, 154, 159, 164, 169, 174, 180], 63) := by decide +kernel
theorem dX13_count_64 : decode cX13_count 64 = .ok (.aload_n 0, 1) := by decide +kernel
theorem dX13_count_65 : decode cX13_count 65 = .ok (.getfield 125, 3) := by decide +kernel
theorem dX13_count_68 : decode cX13_count 68 = .ok (.ireturn, 1) := by decide +kernel
theorem dX13_count_69 : decode cX13_count 69 = .ok (.aload_n 0, 1) := by decide +kernel
theorem dX13_count_70 : decode cX13_count 70 = .ok (.getfield 404, 3) := by decide +kernel
theorem dX13_count_73 : decode cX13_count 73 = .ok (.ifCond .eq 7, 3) := by decide +kernel
theorem dX13_count_76 : decode cX13_count 76 = .ok (.iconst 1, 1) := by decide +kernel
theorem dX13_count_77 : decode cX13_count 77 = .ok (.goto 4, 3) := by decide +kernel
theorem dX13_count_80 : decode cX13_count 80 = .ok (.iconst 0, 1) := by decide +kernel
theorem dX13_count_81 : decode cX13_count 81 = .ok (.ireturn, 1) := by decide +kernel
theorem dX13_count_82 : decode cX13_count 82 = .ok (.aload_n 0, 1) := by decide +kernel
theorem dX13_count_83 : decode cX13_count 83 = .ok (.getfield 404, 3) := by decide +kernel
theorem dX13_count_86 : decode cX13_count 86 = .ok (.ifCond .eq 13, 3) := by decide +kernel
theorem dX13_count_89 : decode cX13_count 89 = .ok (.aload_n 0, 1) := by decide +kernel
theorem dX13_count_90 : decode cX13_count 90 = .ok (.getfield 43, 3) := by decide +kernel
theorem dX13_count_93 : decode cX13_count 93 = .ok (.getfield 280, 3) := by decide +kernel
theorem dX13_count_96 : decode cX13_count 96 = .ok (.goto 4, 3) := by decide +kernel
theorem dX13_count_99 : decode cX13_count 99 = .ok (.iconst 0, 1) := by decide +kernel
theorem dX13_count_100 : decode cX13_count 100 = .ok (.ireturn, 1) := by decide +kernel
theorem dX13_count_101 : decode cX13_count 101 = .ok (.aload_n 0, 1) := by decide +kernel
theorem dX13_count_102 : decode cX13_count 102 = .ok (.getfield 404, 3) := by decide +kernel
theorem dX13_count_105 : decode cX13_count 105 = .ok (.ifCond .eq 10, 3) := by decide +kernel
theorem dX13_count_108 : decode cX13_count 108 = .ok (.aload_n 0, 1) := by decide +kernel
theorem dX13_count_109 : decode cX13_count 109 = .ok (.getfield 488, 3) := by decide +kernel
theorem dX13_count_112 : decode cX13_count 112 = .ok (.goto 4, 3) := by decide +kernel
theorem dX13_count_115 : decode cX13_count 115 = .ok (.iconst 0, 1) := by decide +kernel
theorem dX13_count_116 : decode cX13_count 116 = .ok (.ireturn, 1) := by decide +kernel
theorem dX13_count_117 : decode cX13_count 117 = .ok (.aload_n 0, 1) := by decide +kernel
theorem dX13_count_118 : decode cX13_count 118 = .ok (.getfield 404, 3) := by decide +kernel
theorem dX13_count_121 : decode cX13_count 121 = .ok (.ifCond .eq 13, 3) := by decide +kernel
theorem dX13_count_124 : decode cX13_count 124 = .ok (.aload_n 0, 1) := by decide +kernel
theorem dX13_count_125 : decode cX13_count 125 = .ok (.getfield 43, 3) := by decide +kernel
theorem dX13_count_128 : decode cX13_count 128 = .ok (.getfield 314, 3) := by decide +kernel
theorem dX13_count_131 : decode cX13_count 131 = .ok (.goto 4, 3) := by decide +kernel
theorem dX13_count_134 : decode cX13_count 134 = .ok (.iconst 0, 1) := by decide +kernel
theorem dX13_count_135 : decode cX13_count 135 = .ok (.ireturn, 1) := by decide +kernel
theorem dX13_count_136 : decode cX13_count 136 = .ok (.aload_n 0, 1) := by decide +kernel
theorem dX13_count_137 : decode cX13_count 137 = .ok (.getfield 404, 3) := by decide +kernel
theorem dX13_count_140 : decode cX13_count 140 = .ok (.ifCond .eq 13, 3) := by decide +kernel
theorem dX13_count_143 : decode cX13_count 143 = .ok (.aload_n 0, 1) := by decide +kernel
theorem dX13_count_144 : decode cX13_count 144 = .ok (.getfield 43, 3) := by decide +kernel
theorem dX13_count_147 : decode cX13_count 147 = .ok (.getfield 371, 3) := by decide +kernel
theorem dX13_count_150 : decode cX13_count 150 = .ok (.goto 4, 3) := by decide +kernel
theorem dX13_count_153 : decode cX13_count 153 = .ok (.iconst 0, 1) := by decide +kernel
theorem dX13_count_154 : decode cX13_count 154 = .ok (.ireturn, 1) := by decide +kernel
theorem dX13_count_155 : decode cX13_count 155 = .ok (.aload_n 0, 1) := by decide +kernel
theorem dX13_count_156 : decode cX13_count 156 = .ok (.getfield 482, 3) := by decide +kernel
theorem dX13_count_159 : decode cX13_count 159 = .ok (.ireturn, 1) := by decide +kernel
theorem dX13_count_160 : decode cX13_count 160 = .ok (.aload_n 0, 1) := by decide +kernel
theorem dX13_count_161 : decode cX13_count 161 = .ok (.getfield 485, 3) := by decide +kernel
theorem dX13_count_164 : decode cX13_count 164 = .ok (.ireturn, 1) := by decide +kernel
theorem dX13_count_165 : decode cX13_count 165 = .ok (.aload_n 0, 1) := by decide +kernel
theorem dX13_count_166 : decode cX13_count 166 = .ok (.getfield 468, 3) := by decide +kernel
theorem dX13_count_169 : decode cX13_count 169 = .ok (.ireturn, 1) := by decide +kernel
theorem dX13_count_170 : decode cX13_count 170 = .ok (.aload_n 0, 1) := by decide +kernel
theorem dX13_count_171 : decode cX13_count 171 = .ok (.getfield 491, 3) := by decide +kernel
theorem dX13_count_174 : decode cX13_count 174 = .ok (.ireturn, 1) := by decide +kernel
theorem dX13_count_175 : decode cX13_count 175 = .ok (.aload_n 0, 1) := by decide +kernel
theorem dX13_count_176 : decode cX13_count 176 = .ok (.getfield 497, 3) := by decide +kernel
theorem dX13_count_179 : decode cX13_count 179 = .ok (.l2i, 1) := by decide +kernel
theorem dX13_count_180 : decode cX13_count 180 = .ok (.ireturn, 1) := by decide +kernel
theorem dX13_count_181 : decode cX13_count 181 = .ok (.aload_n 0, 1) := by decide +kernel
theorem dX13_count_182 : decode cX13_count 182 = .ok (.getfield 404, 3) := by decide +kernel
theorem dX13_count_185 : decode cX13_count 185 = .ok (.ifCond .eq 10, 3) := by decide +kernel
theorem dX13_count_188 : decode cX13_count 188 = .ok (.aload_n 0, 1) := by decide +kernel
theorem dX13_count_189 : decode cX13_count 189 = .ok (.getfield 494, 3) := by decide +kernel
theorem dX13_count_192 : decode cX13_count 192 = .ok (.goto 4, 3) := by decide +kernel
theorem dX13_count_195 : decode cX13_count 195 = .ok (.iconst (-1), 1) := by decide +kernel
theorem dX13_count_196 : decode cX13_count 196 = .ok (.ireturn, 1) := by decide +kernel
theorem dX13_count_197 : decode cX13_count 197 = .ok (.iconst (-1), 1) := by decide +kernel
theorem dX13_count_198 : decode cX13_count 198 = .ok (.ireturn, 1) := by decide +kernel
