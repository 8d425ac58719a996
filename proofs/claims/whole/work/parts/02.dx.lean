theorem dX0_init_0 : decode cX0_init 0 = .ok (.aload_n 0, 1) := by decide +kernel
theorem dX0_init_1 : decode cX0_init 1 = .ok (.invokespecial 3, 3) := by decide +kernel
theorem dX0_init_4 : decode cX0_init 4 = .ok (.aload_n 0, 1) := by decide +kernel
theorem dX0_init_5 : decode cX0_init 5 = .ok (.new 9, 3) := by decide +kernel
theorem dX0_init_8 : decode cX0_init 8 = .ok (.dup, 1) := by decide +kernel
theorem dX0_init_9 : decode cX0_init 9 = .ok (.invokespecial 11, 3) := by decide +kernel
theorem dX0_init_12 : decode cX0_init 12 = .ok (.putfield 12, 3) := by decide +kernel
theorem dX0_init_15 : decode cX0_init 15 = .ok (.aload_n 0, 1) := by decide +kernel
theorem dX0_init_16 : decode cX0_init 16 = .ok (.bipush 64, 2) := by decide +kernel
theorem dX0_init_18 : decode cX0_init 18 = .ok (.newarray .int, 2) := by decide +kernel
theorem dX0_init_20 : decode cX0_init 20 = .ok (.putfield 18, 3) := by decide +kernel
theorem dX0_init_23 : decode cX0_init 23 = .ok (.aload_n 0, 1) := by decide +kernel
theorem dX0_init_24 : decode cX0_init 24 = .ok (.aload_n 1, 1) := by decide +kernel
theorem dX0_init_25 : decode cX0_init 25 = .ok (.putfield 22, 3) := by decide +kernel
theorem dX0_init_28 : decode cX0_init 28 = .ok (.aload_n 0, 1) := by decide +kernel
theorem dX0_init_29 : decode cX0_init 29 = .ok (.aload_n 2, 1) := by decide +kernel
theorem dX0_init_30 : decode cX0_init 30 = .ok (.putfield 26, 3) := by decide +kernel
theorem dX0_init_33 : decode cX0_init 33 = .ok (.aload_n 0, 1) := by decide +kernel
theorem dX0_init_34 : decode cX0_init 34 = .ok (.aload_n 3, 1) := by decide +kernel
theorem dX0_init_35 : decode cX0_init 35 = .ok (.putfield 30, 3) := by decide +kernel
theorem dX0_init_38 : decode cX0_init 38 = .ok (.return_, 1) := by decide +kernel
theorem dX0_compile_0 : decode cX0_compile 0 = .ok (.aload_n 0, 1) := by decide +kernel
theorem dX0_compile_1 : decode cX0_compile 1 = .ok (.aload_n 1, 1) := by decide +kernel
theorem dX0_compile_2 : decode cX0_compile 2 = .ok (.putfield 30, 3) := by decide +kernel
theorem dX0_compile_5 : decode cX0_compile 5 = .ok (.aload_n 0, 1) := by decide +kernel
theorem dX0_compile_6 : decode cX0_compile 6 = .ok (.getfield 30, 3) := by decide +kernel
theorem dX0_compile_9 : decode cX0_compile 9 = .ok (.aload_n 0, 1) := by decide +kernel
theorem dX0_compile_10 : decode cX0_compile 10 = .ok (.getfield 22, 3) := by decide +kernel
theorem dX0_compile_13 : decode cX0_compile 13 = .ok (.invokevirtual 34, 3) := by decide +kernel
theorem dX0_compile_16 : decode cX0_compile 16 = .ok (.invokevirtual 40, 3) := by decide +kernel
theorem dX0_compile_19 : decode cX0_compile 19 = .ok (.aload_n 0, 1) := by decide +kernel
theorem dX0_compile_20 : decode cX0_compile 20 = .ok (.getfield 12, 3) := by decide +kernel
theorem dX0_compile_23 : decode cX0_compile 23 = .ok (.invokevirtual 46, 3) := by decide +kernel
theorem dX0_compile_26 : decode cX0_compile 26 = .ok (.aload_n 0, 1) := by decide +kernel
theorem dX0_compile_27 : decode cX0_compile 27 = .ok (.iconst 0, 1) := by decide +kernel
theorem dX0_compile_28 : decode cX0_compile 28 = .ok (.putfield 49, 3) := by decide +kernel
theorem dX0_compile_31 : decode cX0_compile 31 = .ok (.aload_n 0, 1) := by decide +kernel
theorem dX0_compile_32 : decode cX0_compile 32 = .ok (.iconst 0, 1) := by decide +kernel
theorem dX0_compile_33 : decode cX0_compile 33 = .ok (.putfield 53, 3) := by decide +kernel
theorem dX0_compile_36 : decode cX0_compile 36 = .ok (.aload_n 0, 1) := by decide +kernel
theorem dX0_compile_37 : decode cX0_compile 37 = .ok (.iconst 0, 1) := by decide +kernel
theorem dX0_compile_38 : decode cX0_compile 38 = .ok (.putfield 56, 3) := by decide +kernel
theorem dX0_compile_41 : decode cX0_compile 41 = .ok (.aload_n 0, 1) := by decide +kernel
theorem dX0_compile_42 : decode cX0_compile 42 = .ok (.invokevirtual 59, 3) := by decide +kernel
theorem dX0_compile_45 : decode cX0_compile 45 = .ok (.aload_n 0, 1) := by decide +kernel
theorem dX0_compile_46 : decode cX0_compile 46 = .ok (.getfield 30, 3) := by decide +kernel
theorem dX0_compile_49 : decode cX0_compile 49 = .ok (.aload_n 0, 1) := by decide +kernel
theorem dX0_compile_50 : decode cX0_compile 50 = .ok (.getfield 22, 3) := by decide +kernel
theorem dX0_compile_53 : decode cX0_compile 53 = .ok (.iconst 0, 1) := by decide +kernel
theorem dX0_compile_54 : decode cX0_compile 54 = .ok (.invokevirtual 62, 3) := by decide +kernel
theorem dX0_compile_57 : decode cX0_compile 57 = .ok (.putfield 66, 3) := by decide +kernel
theorem dX0_compile_60 : decode cX0_compile 60 = .ok (.aload_n 0, 1) := by decide +kernel
theorem dX0_compile_61 : decode cX0_compile 61 = .ok (.getfield 22, 3) := by decide +kernel
theorem dX0_compile_64 : decode cX0_compile 64 = .ok (.iconst 0, 1) := by decide +kernel
theorem dX0_compile_65 : decode cX0_compile 65 = .ok (.invokevirtual 69, 3) := by decide +kernel
theorem dX0_compile_68 : decode cX0_compile 68 = .ok (.istore_n 2, 1) := by decide +kernel
theorem dX0_compile_69 : decode cX0_compile 69 = .ok (.iconst 0, 1) := by decide +kernel
theorem dX0_compile_70 : decode cX0_compile 70 = .ok (.istore_n 3, 1) := by decide +kernel
theorem dX0_compile_71 : decode cX0_compile 71 = .ok (.iload_n 3, 1) := by decide +kernel
theorem dX0_compile_72 : decode cX0_compile 72 = .ok (.aload_n 0, 1) := by decide +kernel
theorem dX0_compile_73 : decode cX0_compile 73 = .ok (.getfield 30, 3) := by decide +kernel
theorem dX0_compile_76 : decode cX0_compile 76 = .ok (.getfield 66, 3) := by decide +kernel
theorem dX0_compile_79 : decode cX0_compile 79 = .ok (.if_icmp .ge 44, 3) := by decide +kernel
theorem dX0_compile_82 : decode cX0_compile 82 = .ok (.aload_n 0, 1) := by decide +kernel
theorem dX0_compile_83 : decode cX0_compile 83 = .ok (.getfield 26, 3) := by decide +kernel
theorem dX0_compile_86 : decode cX0_compile 86 = .ok (.invokevirtual 72, 3) := by decide +kernel
theorem dX0_compile_89 : decode cX0_compile 89 = .ok (.ifCond .eq 34, 3) := by decide +kernel
theorem dX0_compile_92 : decode cX0_compile 92 = .ok (.aload_n 0, 1) := by decide +kernel
theorem dX0_compile_93 : decode cX0_compile 93 = .ok (.iload_n 2, 1) := by decide +kernel
theorem dX0_compile_94 : decode cX0_compile 94 = .ok (.iconst 0, 1) := by decide +kernel
theorem dX0_compile_95 : decode cX0_compile 95 = .ok (.iconst 0, 1) := by decide +kernel
theorem dX0_compile_96 : decode cX0_compile 96 = .ok (.invokevirtual 78, 3) := by decide +kernel
theorem dX0_compile_99 : decode cX0_compile 99 = .ok (.aload_n 0, 1) := by decide +kernel
theorem dX0_compile_100 : decode cX0_compile 100 = .ok (.bipush 35, 2) := by decide +kernel
theorem dX0_compile_102 : decode cX0_compile 102 = .ok (.iconst 0, 1) := by decide +kernel
theorem dX0_compile_103 : decode cX0_compile 103 = .ok (.iconst (-1), 1) := by decide +kernel
theorem dX0_compile_104 : decode cX0_compile 104 = .ok (.invokevirtual 82, 3) := by decide +kernel
theorem dX0_compile_107 : decode cX0_compile 107 = .ok (.pop, 1) := by decide +kernel
theorem dX0_compile_108 : decode cX0_compile 108 = .ok (.aload_n 0, 1) := by decide +kernel
theorem dX0_compile_109 : decode cX0_compile 109 = .ok (.getfield 22, 3) := by decide +kernel
theorem dX0_compile_112 : decode cX0_compile 112 = .ok (.iload_n 2, 1) := by decide +kernel
theorem dX0_compile_113 : decode cX0_compile 113 = .ok (.invokevirtual 86, 3) := by decide +kernel
theorem dX0_compile_116 : decode cX0_compile 116 = .ok (.istore_n 2, 1) := by decide +kernel
theorem dX0_compile_117 : decode cX0_compile 117 = .ok (.iinc 3 1, 3) := by decide +kernel
theorem dX0_compile_120 : decode cX0_compile 120 = .ok (.goto (-49), 3) := by decide +kernel
theorem dX0_compile_123 : decode cX0_compile 123 = .ok (.aload_n 0, 1) := by decide +kernel
theorem dX0_compile_124 : decode cX0_compile 124 = .ok (.bipush 36, 2) := by decide +kernel
theorem dX0_compile_126 : decode cX0_compile 126 = .ok (.iconst 0, 1) := by decide +kernel
theorem dX0_compile_127 : decode cX0_compile 127 = .ok (.iconst 0, 1) := by decide +kernel
theorem dX0_compile_128 : decode cX0_compile 128 = .ok (.invokevirtual 82, 3) := by decide +kernel
theorem dX0_compile_131 : decode cX0_compile 131 = .ok (.pop, 1) := by decide +kernel
theorem dX0_compile_132 : decode cX0_compile 132 = .ok (.aload_n 0, 1) := by decide +kernel
theorem dX0_compile_133 : decode cX0_compile 133 = .ok (.getfield 30, 3) := by decide +kernel
theorem dX0_compile_136 : decode cX0_compile 136 = .ok (.aload_n 0, 1) := by decide +kernel
theorem dX0_compile_137 : decode cX0_compile 137 = .ok (.getfield 56, 3) := by decide +kernel
theorem dX0_compile_140 : decode cX0_compile 140 = .ok (.putfield 89, 3) := by decide +kernel
theorem dX0_compile_143 : decode cX0_compile 143 = .ok (.return_, 1) := by decide +kernel
theorem dX0_gatherDefined_0 : decode cX0_gatherDefined 0 = .ok (.aload_n 0, 1) := by decide +kernel
theorem dX0_gatherDefined_1 : decode cX0_gatherDefined 1 = .ok (.aload_n 0, 1) := by decide +kernel
theorem dX0_gatherDefined_2 : decode cX0_gatherDefined 2 = .ok (.getfield 18, 3) := by decide +kernel
theorem dX0_gatherDefined_5 : decode cX0_gatherDefined 5 = .ok (.aload_n 0, 1) := by decide +kernel
theorem dX0_gatherDefined_6 : decode cX0_gatherDefined 6 = .ok (.getfield 22, 3) := by decide +kernel
theorem dX0_gatherDefined_9 : decode cX0_gatherDefined 9 = .ok (.getfield 92, 3) := by decide +kernel
theorem dX0_gatherDefined_12 : decode cX0_gatherDefined 12 = .ok (.invokevirtual 96, 3) := by decide +kernel
theorem dX0_gatherDefined_15 : decode cX0_gatherDefined 15 = .ok (.invokestatic 101, 3) := by decide +kernel
theorem dX0_gatherDefined_18 : decode cX0_gatherDefined 18 = .ok (.putfield 18, 3) := by decide +kernel
theorem dX0_gatherDefined_21 : decode cX0_gatherDefined 21 = .ok (.aload_n 0, 1) := by decide +kernel
theorem dX0_gatherDefined_22 : decode cX0_gatherDefined 22 = .ok (.getfield 18, 3) := by decide +kernel
theorem dX0_gatherDefined_25 : decode cX0_gatherDefined 25 = .ok (.iconst (-1), 1) := by decide +kernel
theorem dX0_gatherDefined_26 : decode cX0_gatherDefined 26 = .ok (.invokestatic 107, 3) := by decide +kernel
theorem dX0_gatherDefined_29 : decode cX0_gatherDefined 29 = .ok (.aload_n 0, 1) := by decide +kernel
theorem dX0_gatherDefined_30 : decode cX0_gatherDefined 30 = .ok (.getfield 22, 3) := by decide +kernel
theorem dX0_gatherDefined_33 : decode cX0_gatherDefined 33 = .ok (.iconst 0, 1) := by decide +kernel
theorem dX0_gatherDefined_34 : decode cX0_gatherDefined 34 = .ok (.invokevirtual 69, 3) := by decide +kernel
theorem dX0_gatherDefined_37 : decode cX0_gatherDefined 37 = .ok (.istore_n 1, 1) := by decide +kernel
theorem dX0_gatherDefined_38 : decode cX0_gatherDefined 38 = .ok (.iconst 0, 1) := by decide +kernel
theorem dX0_gatherDefined_39 : decode cX0_gatherDefined 39 = .ok (.istore_n 2, 1) := by decide +kernel
theorem dX0_gatherDefined_40 : decode cX0_gatherDefined 40 = .ok (.iload_n 2, 1) := by decide +kernel
theorem dX0_gatherDefined_41 : decode cX0_gatherDefined 41 = .ok (.aload_n 0, 1) := by decide +kernel
theorem dX0_gatherDefined_42 : decode cX0_gatherDefined 42 = .ok (.getfield 22, 3) := by decide +kernel
theorem dX0_gatherDefined_45 : decode cX0_gatherDefined 45 = .ok (.iconst 0, 1) := by decide +kernel
theorem dX0_gatherDefined_46 : decode cX0_gatherDefined 46 = .ok (.invokevirtual 62, 3) := by decide +kernel
theorem dX0_gatherDefined_49 : decode cX0_gatherDefined 49 = .ok (.if_icmp .ge 109, 3) := by decide +kernel
theorem dX0_gatherDefined_52 : decode cX0_gatherDefined 52 = .ok (.aload_n 0, 1) := by decide +kernel
theorem dX0_gatherDefined_53 : decode cX0_gatherDefined 53 = .ok (.getfield 22, 3) := by decide +kernel
theorem dX0_gatherDefined_56 : decode cX0_gatherDefined 56 = .ok (.iload_n 1, 1) := by decide +kernel
theorem dX0_gatherDefined_57 : decode cX0_gatherDefined 57 = .ok (.invokevirtual 113, 3) := by decide +kernel
theorem dX0_gatherDefined_60 : decode cX0_gatherDefined 60 = .ok (.bipush 9, 2) := by decide +kernel
theorem dX0_gatherDefined_62 : decode cX0_gatherDefined 62 = .ok (.if_icmp .ne 81, 3) := by decide +kernel
theorem dX0_gatherDefined_65 : decode cX0_gatherDefined 65 = .ok (.aload_n 0, 1) := by decide +kernel
theorem dX0_gatherDefined_66 : decode cX0_gatherDefined 66 = .ok (.iload_n 1, 1) := by decide +kernel
theorem dX0_gatherDefined_67 : decode cX0_gatherDefined 67 = .ok (.bipush 9, 2) := by decide +kernel
theorem dX0_gatherDefined_69 : decode cX0_gatherDefined 69 = .ok (.iconst 0, 1) := by decide +kernel
theorem dX0_gatherDefined_70 : decode cX0_gatherDefined 70 = .ok (.invokevirtual 116, 3) := by decide +kernel
theorem dX0_gatherDefined_73 : decode cX0_gatherDefined 73 = .ok (.ifCond .eq 70, 3) := by decide +kernel
theorem dX0_gatherDefined_76 : decode cX0_gatherDefined 76 = .ok (.aload_n 0, 1) := by decide +kernel
theorem dX0_gatherDefined_77 : decode cX0_gatherDefined 77 = .ok (.getfield 22, 3) := by decide +kernel
theorem dX0_gatherDefined_80 : decode cX0_gatherDefined 80 = .ok (.aload_n 0, 1) := by decide +kernel
theorem dX0_gatherDefined_81 : decode cX0_gatherDefined 81 = .ok (.getfield 22, 3) := by decide +kernel
theorem dX0_gatherDefined_84 : decode cX0_gatherDefined 84 = .ok (.iload_n 1, 1) := by decide +kernel
theorem dX0_gatherDefined_85 : decode cX0_gatherDefined 85 = .ok (.invokevirtual 120, 3) := by decide +kernel
theorem dX0_gatherDefined_88 : decode cX0_gatherDefined 88 = .ok (.invokevirtual 123, 3) := by decide +kernel
theorem dX0_gatherDefined_91 : decode cX0_gatherDefined 91 = .ok (.istore_n 3, 1) := by decide +kernel
theorem dX0_gatherDefined_92 : decode cX0_gatherDefined 92 = .ok (.iload_n 3, 1) := by decide +kernel
theorem dX0_gatherDefined_93 : decode cX0_gatherDefined 93 = .ok (.bipush 30, 2) := by decide +kernel
theorem dX0_gatherDefined_95 : decode cX0_gatherDefined 95 = .ok (.if_icmp .lt 48, 3) := by decide +kernel
theorem dX0_gatherDefined_98 : decode cX0_gatherDefined 98 = .ok (.iload_n 3, 1) := by decide +kernel
theorem dX0_gatherDefined_99 : decode cX0_gatherDefined 99 = .ok (.aload_n 0, 1) := by decide +kernel
theorem dX0_gatherDefined_100 : decode cX0_gatherDefined 100 = .ok (.getfield 18, 3) := by decide +kernel
theorem dX0_gatherDefined_103 : decode cX0_gatherDefined 103 = .ok (.arraylength, 1) := by decide +kernel
theorem dX0_gatherDefined_104 : decode cX0_gatherDefined 104 = .ok (.if_icmp .ge 39, 3) := by decide +kernel
theorem dX0_gatherDefined_107 : decode cX0_gatherDefined 107 = .ok (.aload_n 0, 1) := by decide +kernel
theorem dX0_gatherDefined_108 : decode cX0_gatherDefined 108 = .ok (.getfield 18, 3) := by decide +kernel
theorem dX0_gatherDefined_111 : decode cX0_gatherDefined 111 = .ok (.iload_n 3, 1) := by decide +kernel
theorem dX0_gatherDefined_112 : decode cX0_gatherDefined 112 = .ok (.iaload, 1) := by decide +kernel
theorem dX0_gatherDefined_113 : decode cX0_gatherDefined 113 = .ok (.iconst (-1), 1) := by decide +kernel
theorem dX0_gatherDefined_114 : decode cX0_gatherDefined 114 = .ok (.if_icmp .ne 29, 3) := by decide +kernel
theorem dX0_gatherDefined_117 : decode cX0_gatherDefined 117 = .ok (.aload_n 0, 1) := by decide +kernel
theorem dX0_gatherDefined_118 : decode cX0_gatherDefined 118 = .ok (.getfield 18, 3) := by decide +kernel
theorem dX0_gatherDefined_121 : decode cX0_gatherDefined 121 = .ok (.iload_n 3, 1) := by decide +kernel
theorem dX0_gatherDefined_122 : decode cX0_gatherDefined 122 = .ok (.aload_n 0, 1) := by decide +kernel
theorem dX0_gatherDefined_123 : decode cX0_gatherDefined 123 = .ok (.getfield 30, 3) := by decide +kernel
theorem dX0_gatherDefined_126 : decode cX0_gatherDefined 126 = .ok (.getfield 126, 3) := by decide +kernel
theorem dX0_gatherDefined_129 : decode cX0_gatherDefined 129 = .ok (.iastore, 1) := by decide +kernel
theorem dX0_gatherDefined_130 : decode cX0_gatherDefined 130 = .ok (.aload_n 0, 1) := by decide +kernel
theorem dX0_gatherDefined_131 : decode cX0_gatherDefined 131 = .ok (.getfield 30, 3) := by decide +kernel
theorem dX0_gatherDefined_134 : decode cX0_gatherDefined 134 = .ok (.dup, 1) := by decide +kernel
theorem dX0_gatherDefined_135 : decode cX0_gatherDefined 135 = .ok (.getfield 126, 3) := by decide +kernel
theorem dX0_gatherDefined_138 : decode cX0_gatherDefined 138 = .ok (.iconst 1, 1) := by decide +kernel
theorem dX0_gatherDefined_139 : decode cX0_gatherDefined 139 = .ok (.iadd, 1) := by decide +kernel
theorem dX0_gatherDefined_140 : decode cX0_gatherDefined 140 = .ok (.putfield 126, 3) := by decide +kernel
theorem dX0_gatherDefined_143 : decode cX0_gatherDefined 143 = .ok (.aload_n 0, 1) := by decide +kernel
theorem dX0_gatherDefined_144 : decode cX0_gatherDefined 144 = .ok (.getfield 22, 3) := by decide +kernel
theorem dX0_gatherDefined_147 : decode cX0_gatherDefined 147 = .ok (.iload_n 1, 1) := by decide +kernel
theorem dX0_gatherDefined_148 : decode cX0_gatherDefined 148 = .ok (.invokevirtual 86, 3) := by decide +kernel
theorem dX0_gatherDefined_151 : decode cX0_gatherDefined 151 = .ok (.istore_n 1, 1) := by decide +kernel
theorem dX0_gatherDefined_152 : decode cX0_gatherDefined 152 = .ok (.iinc 2 1, 3) := by decide +kernel
theorem dX0_gatherDefined_155 : decode cX0_gatherDefined 155 = .ok (.goto (-115), 3) := by decide +kernel
theorem dX0_gatherDefined_158 : decode cX0_gatherDefined 158 = .ok (.return_, 1) := by decide +kernel
theorem dX0_emit_0 : decode cX0_emit 0 = .ok (.aload_n 0, 1) := by decide +kernel
theorem dX0_emit_1 : decode cX0_emit 1 = .ok (.dup, 1) := by decide +kernel
theorem dX0_emit_2 : decode cX0_emit 2 = .ok (.getfield 53, 3) := by decide +kernel
theorem dX0_emit_5 : decode cX0_emit 5 = .ok (.iload_n 3, 1) := by decide +kernel
theorem dX0_emit_6 : decode cX0_emit 6 = .ok (.iadd, 1) := by decide +kernel
theorem dX0_emit_7 : decode cX0_emit 7 = .ok (.putfield 53, 3) := by decide +kernel
theorem dX0_emit_10 : decode cX0_emit 10 = .ok (.aload_n 0, 1) := by decide +kernel
theorem dX0_emit_11 : decode cX0_emit 11 = .ok (.aload_n 0, 1) := by decide +kernel
theorem dX0_emit_12 : decode cX0_emit 12 = .ok (.getfield 56, 3) := by decide +kernel
theorem dX0_emit_15 : decode cX0_emit 15 = .ok (.aload_n 0, 1) := by decide +kernel
theorem dX0_emit_16 : decode cX0_emit 16 = .ok (.getfield 53, 3) := by decide +kernel
theorem dX0_emit_19 : decode cX0_emit 19 = .ok (.invokestatic 129, 3) := by decide +kernel
theorem dX0_emit_22 : decode cX0_emit 22 = .ok (.putfield 56, 3) := by decide +kernel
theorem dX0_emit_25 : decode cX0_emit 25 = .ok (.aload_n 0, 1) := by decide +kernel
theorem dX0_emit_26 : decode cX0_emit 26 = .ok (.getfield 30, 3) := by decide +kernel
theorem dX0_emit_29 : decode cX0_emit 29 = .ok (.iload_n 1, 1) := by decide +kernel
theorem dX0_emit_30 : decode cX0_emit 30 = .ok (.iload_n 2, 1) := by decide +kernel
theorem dX0_emit_31 : decode cX0_emit 31 = .ok (.invokevirtual 135, 3) := by decide +kernel
theorem dX0_emit_34 : decode cX0_emit 34 = .ok (.ireturn, 1) := by decide +kernel
theorem dX0_tell_0 : decode cX0_tell 0 = .ok (.aload_n 0, 1) := by decide +kernel
theorem dX0_tell_1 : decode cX0_tell 1 = .ok (.getfield 26, 3) := by decide +kernel
theorem dX0_tell_4 : decode cX0_tell 4 = .ok (.iload_n 1, 1) := by decide +kernel
theorem dX0_tell_5 : decode cX0_tell 5 = .ok (.aload_n 0, 1) := by decide +kernel
theorem dX0_tell_6 : decode cX0_tell 6 = .ok (.getfield 22, 3) := by decide +kernel
theorem dX0_tell_9 : decode cX0_tell 9 = .ok (.iload_n 2, 1) := by decide +kernel
theorem dX0_tell_10 : decode cX0_tell 10 = .ok (.invokevirtual 138, 3) := by decide +kernel
theorem dX0_tell_13 : decode cX0_tell 13 = .ok (.invokevirtual 141, 3) := by decide +kernel
theorem dX0_tell_16 : decode cX0_tell 16 = .ok (.return_, 1) := by decide +kernel
theorem dX0_countForm_0 : decode cX0_countForm 0 = .ok (.aload_n 0, 1) := by decide +kernel
theorem dX0_countForm_1 : decode cX0_countForm 1 = .ok (.dup, 1) := by decide +kernel
theorem dX0_countForm_2 : decode cX0_countForm 2 = .ok (.getfield 49, 3) := by decide +kernel
theorem dX0_countForm_5 : decode cX0_countForm 5 = .ok (.iconst 1, 1) := by decide +kernel
theorem dX0_countForm_6 : decode cX0_countForm 6 = .ok (.iadd, 1) := by decide +kernel
theorem dX0_countForm_7 : decode cX0_countForm 7 = .ok (.putfield 49, 3) := by decide +kernel
theorem dX0_countForm_10 : decode cX0_countForm 10 = .ok (.aload_n 0, 1) := by decide +kernel
theorem dX0_countForm_11 : decode cX0_countForm 11 = .ok (.getfield 49, 3) := by decide +kernel
theorem dX0_countForm_14 : decode cX0_countForm 14 = .ok (.sipush 1500, 3) := by decide +kernel
theorem dX0_countForm_17 : decode cX0_countForm 17 = .ok (.if_icmp .le 10, 3) := by decide +kernel
theorem dX0_countForm_20 : decode cX0_countForm 20 = .ok (.aload_n 0, 1) := by decide +kernel
theorem dX0_countForm_21 : decode cX0_countForm 21 = .ok (.bipush 6, 2) := by decide +kernel
theorem dX0_countForm_23 : decode cX0_countForm 23 = .ok (.iload_n 1, 1) := by decide +kernel
theorem dX0_countForm_24 : decode cX0_countForm 24 = .ok (.invokevirtual 145, 3) := by decide +kernel
theorem dX0_countForm_27 : decode cX0_countForm 27 = .ok (.return_, 1) := by decide +kernel
theorem dX0_form_0 : decode cX0_form 0 = .ok (.aload_n 0, 1) := by decide +kernel
theorem dX0_form_1 : decode cX0_form 1 = .ok (.getfield 26, 3) := by decide +kernel
theorem dX0_form_4 : decode cX0_form 4 = .ok (.invokevirtual 72, 3) := by decide +kernel
theorem dX0_form_7 : decode cX0_form 7 = .ok (.ifCond .eq 9, 3) := by decide +kernel
theorem dX0_form_10 : decode cX0_form 10 = .ok (.iload_n 3, 1) := by decide +kernel
theorem dX0_form_11 : decode cX0_form 11 = .ok (.bipush 32, 2) := by decide +kernel
theorem dX0_form_13 : decode cX0_form 13 = .ok (.if_icmp .le 4, 3) := by decide +kernel
theorem dX0_form_16 : decode cX0_form 16 = .ok (.return_, 1) := by decide +kernel
theorem dX0_form_17 : decode cX0_form 17 = .ok (.aload_n 0, 1) := by decide +kernel
theorem dX0_form_18 : decode cX0_form 18 = .ok (.getfield 22, 3) := by decide +kernel
theorem dX0_form_21 : decode cX0_form 21 = .ok (.iload_n 1, 1) := by decide +kernel
theorem dX0_form_22 : decode cX0_form 22 = .ok (.invokevirtual 146, 3) := by decide +kernel
theorem dX0_form_25 : decode cX0_form 25 = .ok (.ifCond .eq 11, 3) := by decide +kernel
theorem dX0_form_28 : decode cX0_form 28 = .ok (.aload_n 0, 1) := by decide +kernel
theorem dX0_form_29 : decode cX0_form 29 = .ok (.iload_n 1, 1) := by decide +kernel
theorem dX0_form_30 : decode cX0_form 30 = .ok (.iload_n 2, 1) := by decide +kernel
theorem dX0_form_31 : decode cX0_form 31 = .ok (.iload_n 3, 1) := by decide +kernel
theorem dX0_form_32 : decode cX0_form 32 = .ok (.invokevirtual 150, 3) := by decide +kernel
theorem dX0_form_35 : decode cX0_form 35 = .ok (.return_, 1) := by decide +kernel
theorem dX0_form_36 : decode cX0_form 36 = .ok (.aload_n 0, 1) := by decide +kernel
theorem dX0_form_37 : decode cX0_form 37 = .ok (.getfield 22, 3) := by decide +kernel
theorem dX0_form_40 : decode cX0_form 40 = .ok (.iload_n 1, 1) := by decide +kernel
theorem dX0_form_41 : decode cX0_form 41 = .ok (.invokevirtual 153, 3) := by decide +kernel
theorem dX0_form_44 : decode cX0_form 44 = .ok (.ifCond .eq 11, 3) := by decide +kernel
theorem dX0_form_47 : decode cX0_form 47 = .ok (.aload_n 0, 1) := by decide +kernel
theorem dX0_form_48 : decode cX0_form 48 = .ok (.iload_n 1, 1) := by decide +kernel
theorem dX0_form_49 : decode cX0_form 49 = .ok (.invokevirtual 156, 3) := by decide +kernel
theorem dX0_form_52 : decode cX0_form 52 = .ok (.goto 25, 3) := by decide +kernel
theorem dX0_form_55 : decode cX0_form 55 = .ok (.aload_n 0, 1) := by decide +kernel
theorem dX0_form_56 : decode cX0_form 56 = .ok (.aload_n 0, 1) := by decide +kernel
theorem dX0_form_57 : decode cX0_form 57 = .ok (.getfield 22, 3) := by decide +kernel
theorem dX0_form_60 : decode cX0_form 60 = .ok (.iload_n 1, 1) := by decide +kernel
theorem dX0_form_61 : decode cX0_form 61 = .ok (.invokevirtual 159, 3) := by decide +kernel
theorem dX0_form_64 : decode cX0_form 64 = .ok (.aload_n 0, 1) := by decide +kernel
theorem dX0_form_65 : decode cX0_form 65 = .ok (.getfield 22, 3) := by decide +kernel
theorem dX0_form_68 : decode cX0_form 68 = .ok (.iload_n 1, 1) := by decide +kernel
theorem dX0_form_69 : decode cX0_form 69 = .ok (.invokevirtual 123, 3) := by decide +kernel
theorem dX0_form_72 : decode cX0_form 72 = .ok (.iconst 1, 1) := by decide +kernel
theorem dX0_form_73 : decode cX0_form 73 = .ok (.invokevirtual 82, 3) := by decide +kernel
theorem dX0_form_76 : decode cX0_form 76 = .ok (.pop, 1) := by decide +kernel
theorem dX0_form_77 : decode cX0_form 77 = .ok (.aload_n 0, 1) := by decide +kernel
theorem dX0_form_78 : decode cX0_form 78 = .ok (.iload_n 1, 1) := by decide +kernel
theorem dX0_form_79 : decode cX0_form 79 = .ok (.invokevirtual 162, 3) := by decide +kernel
theorem dX0_form_82 : decode cX0_form 82 = .ok (.aload_n 0, 1) := by decide +kernel
theorem dX0_form_83 : decode cX0_form 83 = .ok (.iload_n 2, 1) := by decide +kernel
theorem dX0_form_84 : decode cX0_form 84 = .ok (.invokevirtual 165, 3) := by decide +kernel
theorem dX0_form_87 : decode cX0_form 87 = .ok (.return_, 1) := by decide +kernel
theorem dX0_giveBackIf_0 : decode cX0_giveBackIf 0 = .ok (.iload_n 1, 1) := by decide +kernel
theorem dX0_giveBackIf_1 : decode cX0_giveBackIf 1 = .ok (.ifCond .eq 12, 3) := by decide +kernel
theorem dX0_giveBackIf_4 : decode cX0_giveBackIf 4 = .ok (.aload_n 0, 1) := by decide +kernel
theorem dX0_giveBackIf_5 : decode cX0_giveBackIf 5 = .ok (.bipush 34, 2) := by decide +kernel
theorem dX0_giveBackIf_7 : decode cX0_giveBackIf 7 = .ok (.iconst 0, 1) := by decide +kernel
theorem dX0_giveBackIf_8 : decode cX0_giveBackIf 8 = .ok (.iconst 0, 1) := by decide +kernel
theorem dX0_giveBackIf_9 : decode cX0_giveBackIf 9 = .ok (.invokevirtual 82, 3) := by decide +kernel
theorem dX0_giveBackIf_12 : decode cX0_giveBackIf 12 = .ok (.pop, 1) := by decide +kernel
theorem dX0_giveBackIf_13 : decode cX0_giveBackIf 13 = .ok (.return_, 1) := by decide +kernel
theorem dX0_nameForm_0 : decode cX0_nameForm 0 = .ok (.aload_n 0, 1) := by decide +kernel
theorem dX0_nameForm_1 : decode cX0_nameForm 1 = .ok (.getfield 22, 3) := by decide +kernel
theorem dX0_nameForm_4 : decode cX0_nameForm 4 = .ok (.iload_n 1, 1) := by decide +kernel
theorem dX0_nameForm_5 : decode cX0_nameForm 5 = .ok (.invokevirtual 123, 3) := by decide +kernel
theorem dX0_nameForm_8 : decode cX0_nameForm 8 = .ok (.istore_n 2, 1) := by decide +kernel
theorem dX0_nameForm_9 : decode cX0_nameForm 9 = .ok (.iload_n 2, 1) := by decide +kernel
theorem dX0_nameForm_10 : decode cX0_nameForm 10 = .ok (.bipush 10, 2) := by decide +kernel
theorem dX0_nameForm_12 : decode cX0_nameForm 12 = .ok (.if_icmp .ge 12, 3) := by decide +kernel
theorem dX0_nameForm_15 : decode cX0_nameForm 15 = .ok (.aload_n 0, 1) := by decide +kernel
theorem dX0_nameForm_16 : decode cX0_nameForm 16 = .ok (.iconst 3, 1) := by decide +kernel
theorem dX0_nameForm_17 : decode cX0_nameForm 17 = .ok (.iload_n 1, 1) := by decide +kernel
theorem dX0_nameForm_18 : decode cX0_nameForm 18 = .ok (.invokevirtual 145, 3) := by decide +kernel
theorem dX0_nameForm_21 : decode cX0_nameForm 21 = .ok (.goto 49, 3) := by decide +kernel
theorem dX0_nameForm_24 : decode cX0_nameForm 24 = .ok (.iload_n 2, 1) := by decide +kernel
theorem dX0_nameForm_25 : decode cX0_nameForm 25 = .ok (.bipush 30, 2) := by decide +kernel
theorem dX0_nameForm_27 : decode cX0_nameForm 27 = .ok (.if_icmp .ge 18, 3) := by decide +kernel
theorem dX0_nameForm_30 : decode cX0_nameForm 30 = .ok (.aload_n 0, 1) := by decide +kernel
theorem dX0_nameForm_31 : decode cX0_nameForm 31 = .ok (.bipush 8, 2) := by decide +kernel
theorem dX0_nameForm_33 : decode cX0_nameForm 33 = .ok (.iload_n 2, 1) := by decide +kernel
theorem dX0_nameForm_34 : decode cX0_nameForm 34 = .ok (.bipush 10, 2) := by decide +kernel
theorem dX0_nameForm_36 : decode cX0_nameForm 36 = .ok (.isub, 1) := by decide +kernel
theorem dX0_nameForm_37 : decode cX0_nameForm 37 = .ok (.iconst 1, 1) := by decide +kernel
theorem dX0_nameForm_38 : decode cX0_nameForm 38 = .ok (.invokevirtual 82, 3) := by decide +kernel
theorem dX0_nameForm_41 : decode cX0_nameForm 41 = .ok (.pop, 1) := by decide +kernel
theorem dX0_nameForm_42 : decode cX0_nameForm 42 = .ok (.goto 28, 3) := by decide +kernel
theorem dX0_nameForm_45 : decode cX0_nameForm 45 = .ok (.aload_n 0, 1) := by decide +kernel
theorem dX0_nameForm_46 : decode cX0_nameForm 46 = .ok (.iload_n 2, 1) := by decide +kernel
theorem dX0_nameForm_47 : decode cX0_nameForm 47 = .ok (.invokevirtual 169, 3) := by decide +kernel
theorem dX0_nameForm_50 : decode cX0_nameForm 50 = .ok (.ifCond .eq 14, 3) := by decide +kernel
theorem dX0_nameForm_53 : decode cX0_nameForm 53 = .ok (.aload_n 0, 1) := by decide +kernel
theorem dX0_nameForm_54 : decode cX0_nameForm 54 = .ok (.iload_n 2, 1) := by decide +kernel
theorem dX0_nameForm_55 : decode cX0_nameForm 55 = .ok (.bipush 16, 2) := by decide +kernel
theorem dX0_nameForm_57 : decode cX0_nameForm 57 = .ok (.iconst 1, 1) := by decide +kernel
theorem dX0_nameForm_58 : decode cX0_nameForm 58 = .ok (.invokevirtual 172, 3) := by decide +kernel
theorem dX0_nameForm_61 : decode cX0_nameForm 61 = .ok (.goto 9, 3) := by decide +kernel
theorem dX0_nameForm_64 : decode cX0_nameForm 64 = .ok (.aload_n 0, 1) := by decide +kernel
theorem dX0_nameForm_65 : decode cX0_nameForm 65 = .ok (.iconst 4, 1) := by decide +kernel
theorem dX0_nameForm_66 : decode cX0_nameForm 66 = .ok (.iload_n 1, 1) := by decide +kernel
theorem dX0_nameForm_67 : decode cX0_nameForm 67 = .ok (.invokevirtual 145, 3) := by decide +kernel
theorem dX0_nameForm_70 : decode cX0_nameForm 70 = .ok (.return_, 1) := by decide +kernel
theorem dX0_hasMeaning_0 : decode cX0_hasMeaning 0 = .ok (.aload_n 0, 1) := by decide +kernel
theorem dX0_hasMeaning_1 : decode cX0_hasMeaning 1 = .ok (.getfield 12, 3) := by decide +kernel
theorem dX0_hasMeaning_4 : decode cX0_hasMeaning 4 = .ok (.iload_n 1, 1) := by decide +kernel
theorem dX0_hasMeaning_5 : decode cX0_hasMeaning 5 = .ok (.invokevirtual 176, 3) := by decide +kernel
theorem dX0_hasMeaning_8 : decode cX0_hasMeaning 8 = .ok (.iconst (-1), 1) := by decide +kernel
theorem dX0_hasMeaning_9 : decode cX0_hasMeaning 9 = .ok (.if_icmp .ne 12, 3) := by decide +kernel
theorem dX0_hasMeaning_12 : decode cX0_hasMeaning 12 = .ok (.aload_n 0, 1) := by decide +kernel
theorem dX0_hasMeaning_13 : decode cX0_hasMeaning 13 = .ok (.iload_n 1, 1) := by decide +kernel
theorem dX0_hasMeaning_14 : decode cX0_hasMeaning 14 = .ok (.invokevirtual 179, 3) := by decide +kernel
theorem dX0_hasMeaning_17 : decode cX0_hasMeaning 17 = .ok (.iconst (-1), 1) := by decide +kernel
theorem dX0_hasMeaning_18 : decode cX0_hasMeaning 18 = .ok (.if_icmp .eq 7, 3) := by decide +kernel
theorem dX0_hasMeaning_21 : decode cX0_hasMeaning 21 = .ok (.iconst 1, 1) := by decide +kernel
theorem dX0_hasMeaning_22 : decode cX0_hasMeaning 22 = .ok (.goto 4, 3) := by decide +kernel
theorem dX0_hasMeaning_25 : decode cX0_hasMeaning 25 = .ok (.iconst 0, 1) := by decide +kernel
theorem dX0_hasMeaning_26 : decode cX0_hasMeaning 26 = .ok (.ireturn, 1) := by decide +kernel
theorem dX0_variable_0 : decode cX0_variable 0 = .ok (.aload_n 0, 1) := by decide +kernel
theorem dX0_variable_1 : decode cX0_variable 1 = .ok (.getfield 12, 3) := by decide +kernel
theorem dX0_variable_4 : decode cX0_variable 4 = .ok (.iload_n 1, 1) := by decide +kernel
theorem dX0_variable_5 : decode cX0_variable 5 = .ok (.invokevirtual 176, 3) := by decide +kernel
theorem dX0_variable_8 : decode cX0_variable 8 = .ok (.istore 4, 2) := by decide +kernel
theorem dX0_variable_10 : decode cX0_variable 10 = .ok (.iload 4, 2) := by decide +kernel
theorem dX0_variable_12 : decode cX0_variable 12 = .ok (.iconst (-1), 1) := by decide +kernel
theorem dX0_variable_13 : decode cX0_variable 13 = .ok (.if_icmp .ne 20, 3) := by decide +kernel
theorem dX0_variable_16 : decode cX0_variable 16 = .ok (.aload_n 0, 1) := by decide +kernel
theorem dX0_variable_17 : decode cX0_variable 17 = .ok (.iload_n 2, 1) := by decide +kernel
theorem dX0_variable_18 : decode cX0_variable 18 = .ok (.iconst 2, 1) := by decide +kernel
theorem dX0_variable_19 : decode cX0_variable 19 = .ok (.iadd, 1) := by decide +kernel
theorem dX0_variable_20 : decode cX0_variable 20 = .ok (.aload_n 0, 1) := by decide +kernel
theorem dX0_variable_21 : decode cX0_variable 21 = .ok (.iload_n 1, 1) := by decide +kernel
theorem dX0_variable_22 : decode cX0_variable 22 = .ok (.invokevirtual 179, 3) := by decide +kernel
theorem dX0_variable_25 : decode cX0_variable 25 = .ok (.iload_n 3, 1) := by decide +kernel
theorem dX0_variable_26 : decode cX0_variable 26 = .ok (.invokevirtual 82, 3) := by decide +kernel
theorem dX0_variable_29 : decode cX0_variable 29 = .ok (.pop, 1) := by decide +kernel
theorem dX0_variable_30 : decode cX0_variable 30 = .ok (.goto 52, 3) := by decide +kernel
theorem dX0_variable_33 : decode cX0_variable 33 = .ok (.aload_n 0, 1) := by decide +kernel
theorem dX0_variable_34 : decode cX0_variable 34 = .ok (.getfield 12, 3) := by decide +kernel
theorem dX0_variable_37 : decode cX0_variable 37 = .ok (.iload 4, 2) := by decide +kernel
theorem dX0_variable_39 : decode cX0_variable 39 = .ok (.invokevirtual 182, 3) := by decide +kernel
theorem dX0_variable_42 : decode cX0_variable 42 = .ok (.ifCond .eq 22, 3) := by decide +kernel
theorem dX0_variable_45 : decode cX0_variable 45 = .ok (.aload_n 0, 1) := by decide +kernel
theorem dX0_variable_46 : decode cX0_variable 46 = .ok (.iload_n 2, 1) := by decide +kernel
theorem dX0_variable_47 : decode cX0_variable 47 = .ok (.aload_n 0, 1) := by decide +kernel
theorem dX0_variable_48 : decode cX0_variable 48 = .ok (.getfield 12, 3) := by decide +kernel
theorem dX0_variable_51 : decode cX0_variable 51 = .ok (.iload 4, 2) := by decide +kernel
theorem dX0_variable_53 : decode cX0_variable 53 = .ok (.invokevirtual 185, 3) := by decide +kernel
theorem dX0_variable_56 : decode cX0_variable 56 = .ok (.iload_n 3, 1) := by decide +kernel
theorem dX0_variable_57 : decode cX0_variable 57 = .ok (.invokevirtual 82, 3) := by decide +kernel
theorem dX0_variable_60 : decode cX0_variable 60 = .ok (.pop, 1) := by decide +kernel
theorem dX0_variable_61 : decode cX0_variable 61 = .ok (.goto 21, 3) := by decide +kernel
theorem dX0_variable_64 : decode cX0_variable 64 = .ok (.aload_n 0, 1) := by decide +kernel
theorem dX0_variable_65 : decode cX0_variable 65 = .ok (.iload_n 2, 1) := by decide +kernel
theorem dX0_variable_66 : decode cX0_variable 66 = .ok (.iconst 1, 1) := by decide +kernel
theorem dX0_variable_67 : decode cX0_variable 67 = .ok (.iadd, 1) := by decide +kernel
theorem dX0_variable_68 : decode cX0_variable 68 = .ok (.aload_n 0, 1) := by decide +kernel
theorem dX0_variable_69 : decode cX0_variable 69 = .ok (.getfield 12, 3) := by decide +kernel
theorem dX0_variable_72 : decode cX0_variable 72 = .ok (.iload 4, 2) := by decide +kernel
theorem dX0_variable_74 : decode cX0_variable 74 = .ok (.invokevirtual 188, 3) := by decide +kernel
theorem dX0_variable_77 : decode cX0_variable 77 = .ok (.iload_n 3, 1) := by decide +kernel
theorem dX0_variable_78 : decode cX0_variable 78 = .ok (.invokevirtual 82, 3) := by decide +kernel
theorem dX0_variable_81 : decode cX0_variable 81 = .ok (.pop, 1) := by decide +kernel
theorem dX0_variable_82 : decode cX0_variable 82 = .ok (.return_, 1) := by decide +kernel
theorem dX0_listForm_0 : decode cX0_listForm 0 = .ok (.aload_n 0, 1) := by decide +kernel
theorem dX0_listForm_1 : decode cX0_listForm 1 = .ok (.getfield 22, 3) := by decide +kernel
theorem dX0_listForm_4 : decode cX0_listForm 4 = .ok (.iload_n 1, 1) := by decide +kernel
theorem dX0_listForm_5 : decode cX0_listForm 5 = .ok (.invokevirtual 113, 3) := by decide +kernel
theorem dX0_listForm_8 : decode cX0_listForm 8 = .ok (.istore 4, 2) := by decide +kernel
theorem dX0_listForm_10 : decode cX0_listForm 10 = .ok (.aload_n 0, 1) := by decide +kernel
theorem dX0_listForm_11 : decode cX0_listForm 11 = .ok (.iload_n 1, 1) := by decide +kernel
theorem dX0_listForm_12 : decode cX0_listForm 12 = .ok (.iload 4, 2) := by decide +kernel
theorem dX0_listForm_14 : decode cX0_listForm 14 = .ok (.iload_n 3, 1) := by decide +kernel
theorem dX0_listForm_15 : decode cX0_listForm 15 = .ok (.invokevirtual 116, 3) := by decide +kernel
theorem dX0_listForm_18 : decode cX0_listForm 18 = .ok (.ifCond .ne 10, 3) := by decide +kernel
theorem dX0_listForm_21 : decode cX0_listForm 21 = .ok (.aload_n 0, 1) := by decide +kernel
theorem dX0_listForm_22 : decode cX0_listForm 22 = .ok (.iconst 3, 1) := by decide +kernel
theorem dX0_listForm_23 : decode cX0_listForm 23 = .ok (.iload_n 1, 1) := by decide +kernel
theorem dX0_listForm_24 : decode cX0_listForm 24 = .ok (.invokevirtual 145, 3) := by decide +kernel
theorem dX0_listForm_27 : decode cX0_listForm 27 = .ok (.return_, 1) := by decide +kernel
theorem dX0_listForm_28 : decode cX0_listForm 28 = .ok (.aload_n 0, 1) := by decide +kernel
theorem dX0_listForm_29 : decode cX0_listForm 29 = .ok (.iload_n 1, 1) := by decide +kernel
theorem dX0_listForm_30 : decode cX0_listForm 30 = .ok (.invokevirtual 162, 3) := by decide +kernel
theorem dX0_listForm_33 : decode cX0_listForm 33 = .ok (.iload 4, 2) := by decide +kernel
theorem dX0_listForm_35 : decode cX0_listForm 35 = .ok (.tableswitch 194 (-1) 8 #[146, 170, 158, 53, 65, 77, 182, 89, 118, 132], 53) := by decide +kernel
theorem dX0_listForm_88 : decode cX0_listForm 88 = .ok (.aload_n 0, 1) := by decide +kernel
theorem dX0_listForm_89 : decode cX0_listForm 89 = .ok (.iload_n 1, 1) := by decide +kernel
theorem dX0_listForm_90 : decode cX0_listForm 90 = .ok (.iload_n 2, 1) := by decide +kernel
theorem dX0_listForm_91 : decode cX0_listForm 91 = .ok (.iload_n 3, 1) := by decide +kernel
theorem dX0_listForm_92 : decode cX0_listForm 92 = .ok (.iconst 1, 1) := by decide +kernel
theorem dX0_listForm_93 : decode cX0_listForm 93 = .ok (.iadd, 1) := by decide +kernel
theorem dX0_listForm_94 : decode cX0_listForm 94 = .ok (.invokevirtual 191, 3) := by decide +kernel
theorem dX0_listForm_97 : decode cX0_listForm 97 = .ok (.goto 140, 3) := by decide +kernel
theorem dX0_listForm_100 : decode cX0_listForm 100 = .ok (.aload_n 0, 1) := by decide +kernel
theorem dX0_listForm_101 : decode cX0_listForm 101 = .ok (.iload_n 1, 1) := by decide +kernel
theorem dX0_listForm_102 : decode cX0_listForm 102 = .ok (.iload_n 2, 1) := by decide +kernel
theorem dX0_listForm_103 : decode cX0_listForm 103 = .ok (.iload_n 3, 1) := by decide +kernel
theorem dX0_listForm_104 : decode cX0_listForm 104 = .ok (.iconst 1, 1) := by decide +kernel
theorem dX0_listForm_105 : decode cX0_listForm 105 = .ok (.iadd, 1) := by decide +kernel
theorem dX0_listForm_106 : decode cX0_listForm 106 = .ok (.invokevirtual 194, 3) := by decide +kernel
theorem dX0_listForm_109 : decode cX0_listForm 109 = .ok (.goto 128, 3) := by decide +kernel
theorem dX0_listForm_112 : decode cX0_listForm 112 = .ok (.aload_n 0, 1) := by decide +kernel
theorem dX0_listForm_113 : decode cX0_listForm 113 = .ok (.iload_n 1, 1) := by decide +kernel
theorem dX0_listForm_114 : decode cX0_listForm 114 = .ok (.iload_n 2, 1) := by decide +kernel
theorem dX0_listForm_115 : decode cX0_listForm 115 = .ok (.iload_n 3, 1) := by decide +kernel
theorem dX0_listForm_116 : decode cX0_listForm 116 = .ok (.iconst 1, 1) := by decide +kernel
theorem dX0_listForm_117 : decode cX0_listForm 117 = .ok (.iadd, 1) := by decide +kernel
theorem dX0_listForm_118 : decode cX0_listForm 118 = .ok (.invokevirtual 197, 3) := by decide +kernel
theorem dX0_listForm_121 : decode cX0_listForm 121 = .ok (.goto 116, 3) := by decide +kernel
theorem dX0_listForm_124 : decode cX0_listForm 124 = .ok (.aload_n 0, 1) := by decide +kernel
theorem dX0_listForm_125 : decode cX0_listForm 125 = .ok (.aload_n 0, 1) := by decide +kernel
theorem dX0_listForm_126 : decode cX0_listForm 126 = .ok (.getfield 22, 3) := by decide +kernel
theorem dX0_listForm_129 : decode cX0_listForm 129 = .ok (.iload_n 1, 1) := by decide +kernel
theorem dX0_listForm_130 : decode cX0_listForm 130 = .ok (.invokevirtual 120, 3) := by decide +kernel
theorem dX0_listForm_133 : decode cX0_listForm 133 = .ok (.aload_n 0, 1) := by decide +kernel
theorem dX0_listForm_134 : decode cX0_listForm 134 = .ok (.getfield 22, 3) := by decide +kernel
theorem dX0_listForm_137 : decode cX0_listForm 137 = .ok (.iload_n 1, 1) := by decide +kernel
theorem dX0_listForm_138 : decode cX0_listForm 138 = .ok (.invokevirtual 62, 3) := by decide +kernel
theorem dX0_listForm_141 : decode cX0_listForm 141 = .ok (.iconst 1, 1) := by decide +kernel
theorem dX0_listForm_142 : decode cX0_listForm 142 = .ok (.isub, 1) := by decide +kernel
theorem dX0_listForm_143 : decode cX0_listForm 143 = .ok (.iload_n 2, 1) := by decide +kernel
theorem dX0_listForm_144 : decode cX0_listForm 144 = .ok (.iload_n 3, 1) := by decide +kernel
theorem dX0_listForm_145 : decode cX0_listForm 145 = .ok (.iconst 1, 1) := by decide +kernel
theorem dX0_listForm_146 : decode cX0_listForm 146 = .ok (.iadd, 1) := by decide +kernel
theorem dX0_listForm_147 : decode cX0_listForm 147 = .ok (.invokevirtual 200, 3) := by decide +kernel
theorem dX0_listForm_150 : decode cX0_listForm 150 = .ok (.goto 87, 3) := by decide +kernel
theorem dX0_listForm_153 : decode cX0_listForm 153 = .ok (.aload_n 0, 1) := by decide +kernel
theorem dX0_listForm_154 : decode cX0_listForm 154 = .ok (.iload_n 1, 1) := by decide +kernel
theorem dX0_listForm_155 : decode cX0_listForm 155 = .ok (.bipush 28, 2) := by decide +kernel
theorem dX0_listForm_157 : decode cX0_listForm 157 = .ok (.iload_n 2, 1) := by decide +kernel
theorem dX0_listForm_158 : decode cX0_listForm 158 = .ok (.iload_n 3, 1) := by decide +kernel
theorem dX0_listForm_159 : decode cX0_listForm 159 = .ok (.iconst 1, 1) := by decide +kernel
theorem dX0_listForm_160 : decode cX0_listForm 160 = .ok (.iadd, 1) := by decide +kernel
theorem dX0_listForm_161 : decode cX0_listForm 161 = .ok (.invokevirtual 204, 3) := by decide +kernel
theorem dX0_listForm_164 : decode cX0_listForm 164 = .ok (.goto 73, 3) := by decide +kernel
theorem dX0_listForm_167 : decode cX0_listForm 167 = .ok (.aload_n 0, 1) := by decide +kernel
theorem dX0_listForm_168 : decode cX0_listForm 168 = .ok (.iload_n 1, 1) := by decide +kernel
theorem dX0_listForm_169 : decode cX0_listForm 169 = .ok (.bipush 29, 2) := by decide +kernel
theorem dX0_listForm_171 : decode cX0_listForm 171 = .ok (.iload_n 2, 1) := by decide +kernel
theorem dX0_listForm_172 : decode cX0_listForm 172 = .ok (.iload_n 3, 1) := by decide +kernel
theorem dX0_listForm_173 : decode cX0_listForm 173 = .ok (.iconst 1, 1) := by decide +kernel
theorem dX0_listForm_174 : decode cX0_listForm 174 = .ok (.iadd, 1) := by decide +kernel
theorem dX0_listForm_175 : decode cX0_listForm 175 = .ok (.invokevirtual 204, 3) := by decide +kernel
theorem dX0_listForm_178 : decode cX0_listForm 178 = .ok (.goto 59, 3) := by decide +kernel
theorem dX0_listForm_181 : decode cX0_listForm 181 = .ok (.aload_n 0, 1) := by decide +kernel
theorem dX0_listForm_182 : decode cX0_listForm 182 = .ok (.iload_n 1, 1) := by decide +kernel
theorem dX0_listForm_183 : decode cX0_listForm 183 = .ok (.iload_n 2, 1) := by decide +kernel
theorem dX0_listForm_184 : decode cX0_listForm 184 = .ok (.iload_n 3, 1) := by decide +kernel
theorem dX0_listForm_185 : decode cX0_listForm 185 = .ok (.iconst 1, 1) := by decide +kernel
theorem dX0_listForm_186 : decode cX0_listForm 186 = .ok (.iadd, 1) := by decide +kernel
theorem dX0_listForm_187 : decode cX0_listForm 187 = .ok (.invokevirtual 207, 3) := by decide +kernel
theorem dX0_listForm_190 : decode cX0_listForm 190 = .ok (.goto 47, 3) := by decide +kernel
theorem dX0_listForm_193 : decode cX0_listForm 193 = .ok (.aload_n 0, 1) := by decide +kernel
theorem dX0_listForm_194 : decode cX0_listForm 194 = .ok (.iload_n 1, 1) := by decide +kernel
theorem dX0_listForm_195 : decode cX0_listForm 195 = .ok (.iload_n 2, 1) := by decide +kernel
theorem dX0_listForm_196 : decode cX0_listForm 196 = .ok (.iload_n 3, 1) := by decide +kernel
theorem dX0_listForm_197 : decode cX0_listForm 197 = .ok (.iconst 1, 1) := by decide +kernel
theorem dX0_listForm_198 : decode cX0_listForm 198 = .ok (.iadd, 1) := by decide +kernel
theorem dX0_listForm_199 : decode cX0_listForm 199 = .ok (.invokevirtual 210, 3) := by decide +kernel
theorem dX0_listForm_202 : decode cX0_listForm 202 = .ok (.goto 35, 3) := by decide +kernel
theorem dX0_listForm_205 : decode cX0_listForm 205 = .ok (.aload_n 0, 1) := by decide +kernel
theorem dX0_listForm_206 : decode cX0_listForm 206 = .ok (.iload_n 1, 1) := by decide +kernel
theorem dX0_listForm_207 : decode cX0_listForm 207 = .ok (.iload_n 2, 1) := by decide +kernel
theorem dX0_listForm_208 : decode cX0_listForm 208 = .ok (.iload_n 3, 1) := by decide +kernel
theorem dX0_listForm_209 : decode cX0_listForm 209 = .ok (.iconst 1, 1) := by decide +kernel
theorem dX0_listForm_210 : decode cX0_listForm 210 = .ok (.iadd, 1) := by decide +kernel
theorem dX0_listForm_211 : decode cX0_listForm 211 = .ok (.invokevirtual 213, 3) := by decide +kernel
theorem dX0_listForm_214 : decode cX0_listForm 214 = .ok (.goto 23, 3) := by decide +kernel
theorem dX0_listForm_217 : decode cX0_listForm 217 = .ok (.aload_n 0, 1) := by decide +kernel
theorem dX0_listForm_218 : decode cX0_listForm 218 = .ok (.iload_n 1, 1) := by decide +kernel
theorem dX0_listForm_219 : decode cX0_listForm 219 = .ok (.iload_n 2, 1) := by decide +kernel
theorem dX0_listForm_220 : decode cX0_listForm 220 = .ok (.iload_n 3, 1) := by decide +kernel
theorem dX0_listForm_221 : decode cX0_listForm 221 = .ok (.iconst 1, 1) := by decide +kernel
theorem dX0_listForm_222 : decode cX0_listForm 222 = .ok (.iadd, 1) := by decide +kernel
theorem dX0_listForm_223 : decode cX0_listForm 223 = .ok (.invokevirtual 216, 3) := by decide +kernel
theorem dX0_listForm_226 : decode cX0_listForm 226 = .ok (.goto 11, 3) := by decide +kernel
theorem dX0_listForm_229 : decode cX0_listForm 229 = .ok (.aload_n 0, 1) := by decide +kernel
theorem dX0_listForm_230 : decode cX0_listForm 230 = .ok (.iload_n 1, 1) := by decide +kernel
theorem dX0_listForm_231 : decode cX0_listForm 231 = .ok (.iload_n 3, 1) := by decide +kernel
theorem dX0_listForm_232 : decode cX0_listForm 232 = .ok (.iconst 1, 1) := by decide +kernel
theorem dX0_listForm_233 : decode cX0_listForm 233 = .ok (.iadd, 1) := by decide +kernel
theorem dX0_listForm_234 : decode cX0_listForm 234 = .ok (.invokevirtual 219, 3) := by decide +kernel
theorem dX0_listForm_237 : decode cX0_listForm 237 = .ok (.return_, 1) := by decide +kernel
theorem dX0_isShaped_0 : decode cX0_isShaped 0 = .ok (.aload_n 0, 1) := by decide +kernel
theorem dX0_isShaped_1 : decode cX0_isShaped 1 = .ok (.getfield 22, 3) := by decide +kernel
theorem dX0_isShaped_4 : decode cX0_isShaped 4 = .ok (.iload_n 1, 1) := by decide +kernel
theorem dX0_isShaped_5 : decode cX0_isShaped 5 = .ok (.invokevirtual 62, 3) := by decide +kernel
theorem dX0_isShaped_8 : decode cX0_isShaped 8 = .ok (.istore 4, 2) := by decide +kernel
theorem dX0_isShaped_10 : decode cX0_isShaped 10 = .ok (.aload_n 0, 1) := by decide +kernel
theorem dX0_isShaped_11 : decode cX0_isShaped 11 = .ok (.getfield 22, 3) := by decide +kernel
theorem dX0_isShaped_14 : decode cX0_isShaped 14 = .ok (.iload_n 1, 1) := by decide +kernel
theorem dX0_isShaped_15 : decode cX0_isShaped 15 = .ok (.invokevirtual 120, 3) := by decide +kernel
theorem dX0_isShaped_18 : decode cX0_isShaped 18 = .ok (.istore 5, 2) := by decide +kernel
theorem dX0_isShaped_20 : decode cX0_isShaped 20 = .ok (.iload_n 2, 1) := by decide +kernel
theorem dX0_isShaped_21 : decode cX0_isShaped 21 = .ok (.tableswitch 185 0 9 #[55, 67, 88, 100, 100, 121, 145, 145, 145, 157], 55) := by decide +kernel
theorem dX0_isShaped_76 : decode cX0_isShaped 76 = .ok (.iload 4, 2) := by decide +kernel
theorem dX0_isShaped_78 : decode cX0_isShaped 78 = .ok (.iconst 2, 1) := by decide +kernel
theorem dX0_isShaped_79 : decode cX0_isShaped 79 = .ok (.if_icmp .ne 7, 3) := by decide +kernel
theorem dX0_isShaped_82 : decode cX0_isShaped 82 = .ok (.iconst 1, 1) := by decide +kernel
theorem dX0_isShaped_83 : decode cX0_isShaped 83 = .ok (.goto 4, 3) := by decide +kernel
theorem dX0_isShaped_86 : decode cX0_isShaped 86 = .ok (.iconst 0, 1) := by decide +kernel
theorem dX0_isShaped_87 : decode cX0_isShaped 87 = .ok (.ireturn, 1) := by decide +kernel
theorem dX0_isShaped_88 : decode cX0_isShaped 88 = .ok (.iload 4, 2) := by decide +kernel
theorem dX0_isShaped_90 : decode cX0_isShaped 90 = .ok (.iconst 3, 1) := by decide +kernel
theorem dX0_isShaped_91 : decode cX0_isShaped 91 = .ok (.if_icmp .lt 16, 3) := by decide +kernel
theorem dX0_isShaped_94 : decode cX0_isShaped 94 = .ok (.aload_n 0, 1) := by decide +kernel
theorem dX0_isShaped_95 : decode cX0_isShaped 95 = .ok (.iload 5, 2) := by decide +kernel
theorem dX0_isShaped_97 : decode cX0_isShaped 97 = .ok (.invokevirtual 222, 3) := by decide +kernel
theorem dX0_isShaped_100 : decode cX0_isShaped 100 = .ok (.ifCond .eq 7, 3) := by decide +kernel
theorem dX0_isShaped_103 : decode cX0_isShaped 103 = .ok (.iconst 1, 1) := by decide +kernel
theorem dX0_isShaped_104 : decode cX0_isShaped 104 = .ok (.goto 4, 3) := by decide +kernel
theorem dX0_isShaped_107 : decode cX0_isShaped 107 = .ok (.iconst 0, 1) := by decide +kernel
theorem dX0_isShaped_108 : decode cX0_isShaped 108 = .ok (.ireturn, 1) := by decide +kernel
theorem dX0_isShaped_109 : decode cX0_isShaped 109 = .ok (.iload 4, 2) := by decide +kernel
theorem dX0_isShaped_111 : decode cX0_isShaped 111 = .ok (.iconst 4, 1) := by decide +kernel
theorem dX0_isShaped_112 : decode cX0_isShaped 112 = .ok (.if_icmp .ne 7, 3) := by decide +kernel
theorem dX0_isShaped_115 : decode cX0_isShaped 115 = .ok (.iconst 1, 1) := by decide +kernel
theorem dX0_isShaped_116 : decode cX0_isShaped 116 = .ok (.goto 4, 3) := by decide +kernel
theorem dX0_isShaped_119 : decode cX0_isShaped 119 = .ok (.iconst 0, 1) := by decide +kernel
theorem dX0_isShaped_120 : decode cX0_isShaped 120 = .ok (.ireturn, 1) := by decide +kernel
theorem dX0_isShaped_121 : decode cX0_isShaped 121 = .ok (.iload 4, 2) := by decide +kernel
theorem dX0_isShaped_123 : decode cX0_isShaped 123 = .ok (.iconst 3, 1) := by decide +kernel
theorem dX0_isShaped_124 : decode cX0_isShaped 124 = .ok (.if_icmp .lt 16, 3) := by decide +kernel
theorem dX0_isShaped_127 : decode cX0_isShaped 127 = .ok (.aload_n 0, 1) := by decide +kernel
theorem dX0_isShaped_128 : decode cX0_isShaped 128 = .ok (.iload 5, 2) := by decide +kernel
theorem dX0_isShaped_130 : decode cX0_isShaped 130 = .ok (.invokevirtual 225, 3) := by decide +kernel
theorem dX0_isShaped_133 : decode cX0_isShaped 133 = .ok (.ifCond .eq 7, 3) := by decide +kernel
theorem dX0_isShaped_136 : decode cX0_isShaped 136 = .ok (.iconst 1, 1) := by decide +kernel
theorem dX0_isShaped_137 : decode cX0_isShaped 137 = .ok (.goto 4, 3) := by decide +kernel
theorem dX0_isShaped_140 : decode cX0_isShaped 140 = .ok (.iconst 0, 1) := by decide +kernel
theorem dX0_isShaped_141 : decode cX0_isShaped 141 = .ok (.ireturn, 1) := by decide +kernel
theorem dX0_isShaped_142 : decode cX0_isShaped 142 = .ok (.iload 4, 2) := by decide +kernel
theorem dX0_isShaped_144 : decode cX0_isShaped 144 = .ok (.iconst 3, 1) := by decide +kernel
theorem dX0_isShaped_145 : decode cX0_isShaped 145 = .ok (.if_icmp .ne 19, 3) := by decide +kernel
theorem dX0_isShaped_148 : decode cX0_isShaped 148 = .ok (.aload_n 0, 1) := by decide +kernel
theorem dX0_isShaped_149 : decode cX0_isShaped 149 = .ok (.getfield 22, 3) := by decide +kernel
theorem dX0_isShaped_152 : decode cX0_isShaped 152 = .ok (.iload 5, 2) := by decide +kernel
theorem dX0_isShaped_154 : decode cX0_isShaped 154 = .ok (.invokevirtual 153, 3) := by decide +kernel
theorem dX0_isShaped_157 : decode cX0_isShaped 157 = .ok (.ifCond .eq 7, 3) := by decide +kernel
theorem dX0_isShaped_160 : decode cX0_isShaped 160 = .ok (.iconst 1, 1) := by decide +kernel
theorem dX0_isShaped_161 : decode cX0_isShaped 161 = .ok (.goto 4, 3) := by decide +kernel
theorem dX0_isShaped_164 : decode cX0_isShaped 164 = .ok (.iconst 0, 1) := by decide +kernel
theorem dX0_isShaped_165 : decode cX0_isShaped 165 = .ok (.ireturn, 1) := by decide +kernel
theorem dX0_isShaped_166 : decode cX0_isShaped 166 = .ok (.iload 4, 2) := by decide +kernel
theorem dX0_isShaped_168 : decode cX0_isShaped 168 = .ok (.iconst 2, 1) := by decide +kernel
theorem dX0_isShaped_169 : decode cX0_isShaped 169 = .ok (.if_icmp .lt 7, 3) := by decide +kernel
theorem dX0_isShaped_172 : decode cX0_isShaped 172 = .ok (.iconst 1, 1) := by decide +kernel
theorem dX0_isShaped_173 : decode cX0_isShaped 173 = .ok (.goto 4, 3) := by decide +kernel
theorem dX0_isShaped_176 : decode cX0_isShaped 176 = .ok (.iconst 0, 1) := by decide +kernel
theorem dX0_isShaped_177 : decode cX0_isShaped 177 = .ok (.ireturn, 1) := by decide +kernel
theorem dX0_isShaped_178 : decode cX0_isShaped 178 = .ok (.iload_n 3, 1) := by decide +kernel
theorem dX0_isShaped_179 : decode cX0_isShaped 179 = .ok (.ifCond .ne 25, 3) := by decide +kernel
theorem dX0_isShaped_182 : decode cX0_isShaped 182 = .ok (.iload 4, 2) := by decide +kernel
theorem dX0_isShaped_184 : decode cX0_isShaped 184 = .ok (.iconst 3, 1) := by decide +kernel
theorem dX0_isShaped_185 : decode cX0_isShaped 185 = .ok (.if_icmp .ne 19, 3) := by decide +kernel
theorem dX0_isShaped_188 : decode cX0_isShaped 188 = .ok (.aload_n 0, 1) := by decide +kernel
theorem dX0_isShaped_189 : decode cX0_isShaped 189 = .ok (.getfield 22, 3) := by decide +kernel
theorem dX0_isShaped_192 : decode cX0_isShaped 192 = .ok (.iload 5, 2) := by decide +kernel
theorem dX0_isShaped_194 : decode cX0_isShaped 194 = .ok (.invokevirtual 153, 3) := by decide +kernel
theorem dX0_isShaped_197 : decode cX0_isShaped 197 = .ok (.ifCond .eq 7, 3) := by decide +kernel
theorem dX0_isShaped_200 : decode cX0_isShaped 200 = .ok (.iconst 1, 1) := by decide +kernel
theorem dX0_isShaped_201 : decode cX0_isShaped 201 = .ok (.goto 4, 3) := by decide +kernel
theorem dX0_isShaped_204 : decode cX0_isShaped 204 = .ok (.iconst 0, 1) := by decide +kernel
theorem dX0_isShaped_205 : decode cX0_isShaped 205 = .ok (.ireturn, 1) := by decide +kernel
theorem dX0_isShaped_206 : decode cX0_isShaped 206 = .ok (.iload 4, 2) := by decide +kernel
theorem dX0_isShaped_208 : decode cX0_isShaped 208 = .ok (.iconst 1, 1) := by decide +kernel
theorem dX0_isShaped_209 : decode cX0_isShaped 209 = .ok (.if_icmp .lt 14, 3) := by decide +kernel
theorem dX0_isShaped_212 : decode cX0_isShaped 212 = .ok (.iload 4, 2) := by decide +kernel
theorem dX0_isShaped_214 : decode cX0_isShaped 214 = .ok (.bipush 9, 2) := by decide +kernel
theorem dX0_isShaped_216 : decode cX0_isShaped 216 = .ok (.if_icmp .gt 7, 3) := by decide +kernel
theorem dX0_isShaped_219 : decode cX0_isShaped 219 = .ok (.iconst 1, 1) := by decide +kernel
theorem dX0_isShaped_220 : decode cX0_isShaped 220 = .ok (.goto 4, 3) := by decide +kernel
theorem dX0_isShaped_223 : decode cX0_isShaped 223 = .ok (.iconst 0, 1) := by decide +kernel
theorem dX0_isShaped_224 : decode cX0_isShaped 224 = .ok (.ireturn, 1) := by decide +kernel
theorem dX0_areNames_0 : decode cX0_areNames 0 = .ok (.aload_n 0, 1) := by decide +kernel
theorem dX0_areNames_1 : decode cX0_areNames 1 = .ok (.getfield 22, 3) := by decide +kernel
theorem dX0_areNames_4 : decode cX0_areNames 4 = .ok (.iload_n 1, 1) := by decide +kernel
theorem dX0_areNames_5 : decode cX0_areNames 5 = .ok (.invokevirtual 62, 3) := by decide +kernel
theorem dX0_areNames_8 : decode cX0_areNames 8 = .ok (.istore_n 2, 1) := by decide +kernel
theorem dX0_areNames_9 : decode cX0_areNames 9 = .ok (.aload_n 0, 1) := by decide +kernel
theorem dX0_areNames_10 : decode cX0_areNames 10 = .ok (.getfield 22, 3) := by decide +kernel
theorem dX0_areNames_13 : decode cX0_areNames 13 = .ok (.iload_n 1, 1) := by decide +kernel
theorem dX0_areNames_14 : decode cX0_areNames 14 = .ok (.invokevirtual 146, 3) := by decide +kernel
theorem dX0_areNames_17 : decode cX0_areNames 17 = .ok (.ifCond .eq 13, 3) := by decide +kernel
theorem dX0_areNames_20 : decode cX0_areNames 20 = .ok (.iload_n 2, 1) := by decide +kernel
theorem dX0_areNames_21 : decode cX0_areNames 21 = .ok (.bipush 8, 2) := by decide +kernel
theorem dX0_areNames_23 : decode cX0_areNames 23 = .ok (.if_icmp .gt 7, 3) := by decide +kernel
theorem dX0_areNames_26 : decode cX0_areNames 26 = .ok (.iconst 1, 1) := by decide +kernel
theorem dX0_areNames_27 : decode cX0_areNames 27 = .ok (.goto 4, 3) := by decide +kernel
theorem dX0_areNames_30 : decode cX0_areNames 30 = .ok (.iconst 0, 1) := by decide +kernel
theorem dX0_areNames_31 : decode cX0_areNames 31 = .ok (.istore_n 3, 1) := by decide +kernel
theorem dX0_areNames_32 : decode cX0_areNames 32 = .ok (.aload_n 0, 1) := by decide +kernel
theorem dX0_areNames_33 : decode cX0_areNames 33 = .ok (.getfield 22, 3) := by decide +kernel
theorem dX0_areNames_36 : decode cX0_areNames 36 = .ok (.iload_n 1, 1) := by decide +kernel
theorem dX0_areNames_37 : decode cX0_areNames 37 = .ok (.invokevirtual 69, 3) := by decide +kernel
theorem dX0_areNames_40 : decode cX0_areNames 40 = .ok (.istore 4, 2) := by decide +kernel
theorem dX0_areNames_42 : decode cX0_areNames 42 = .ok (.iconst 0, 1) := by decide +kernel
theorem dX0_areNames_43 : decode cX0_areNames 43 = .ok (.istore 5, 2) := by decide +kernel
theorem dX0_areNames_45 : decode cX0_areNames 45 = .ok (.iload 5, 2) := by decide +kernel
theorem dX0_areNames_47 : decode cX0_areNames 47 = .ok (.iload_n 2, 1) := by decide +kernel
theorem dX0_areNames_48 : decode cX0_areNames 48 = .ok (.if_icmp .ge 34, 3) := by decide +kernel
theorem dX0_areNames_51 : decode cX0_areNames 51 = .ok (.iload_n 3, 1) := by decide +kernel
theorem dX0_areNames_52 : decode cX0_areNames 52 = .ok (.ifCond .eq 30, 3) := by decide +kernel
theorem dX0_areNames_55 : decode cX0_areNames 55 = .ok (.aload_n 0, 1) := by decide +kernel
theorem dX0_areNames_56 : decode cX0_areNames 56 = .ok (.getfield 22, 3) := by decide +kernel
theorem dX0_areNames_59 : decode cX0_areNames 59 = .ok (.iload 4, 2) := by decide +kernel
theorem dX0_areNames_61 : decode cX0_areNames 61 = .ok (.invokevirtual 153, 3) := by decide +kernel
theorem dX0_areNames_64 : decode cX0_areNames 64 = .ok (.istore_n 3, 1) := by decide +kernel
theorem dX0_areNames_65 : decode cX0_areNames 65 = .ok (.aload_n 0, 1) := by decide +kernel
theorem dX0_areNames_66 : decode cX0_areNames 66 = .ok (.getfield 22, 3) := by decide +kernel
theorem dX0_areNames_69 : decode cX0_areNames 69 = .ok (.iload 4, 2) := by decide +kernel
theorem dX0_areNames_71 : decode cX0_areNames 71 = .ok (.invokevirtual 86, 3) := by decide +kernel
theorem dX0_areNames_74 : decode cX0_areNames 74 = .ok (.istore 4, 2) := by decide +kernel
theorem dX0_areNames_76 : decode cX0_areNames 76 = .ok (.iinc 5 1, 3) := by decide +kernel
theorem dX0_areNames_79 : decode cX0_areNames 79 = .ok (.goto (-34), 3) := by decide +kernel
theorem dX0_areNames_82 : decode cX0_areNames 82 = .ok (.iload_n 3, 1) := by decide +kernel
theorem dX0_areNames_83 : decode cX0_areNames 83 = .ok (.ireturn, 1) := by decide +kernel
theorem dX0_areBindings_0 : decode cX0_areBindings 0 = .ok (.aload_n 0, 1) := by decide +kernel
theorem dX0_areBindings_1 : decode cX0_areBindings 1 = .ok (.getfield 22, 3) := by decide +kernel
theorem dX0_areBindings_4 : decode cX0_areBindings 4 = .ok (.iload_n 1, 1) := by decide +kernel
theorem dX0_areBindings_5 : decode cX0_areBindings 5 = .ok (.invokevirtual 62, 3) := by decide +kernel
theorem dX0_areBindings_8 : decode cX0_areBindings 8 = .ok (.istore_n 2, 1) := by decide +kernel
theorem dX0_areBindings_9 : decode cX0_areBindings 9 = .ok (.aload_n 0, 1) := by decide +kernel
theorem dX0_areBindings_10 : decode cX0_areBindings 10 = .ok (.getfield 22, 3) := by decide +kernel
theorem dX0_areBindings_13 : decode cX0_areBindings 13 = .ok (.iload_n 1, 1) := by decide +kernel
theorem dX0_areBindings_14 : decode cX0_areBindings 14 = .ok (.invokevirtual 146, 3) := by decide +kernel
theorem dX0_areBindings_17 : decode cX0_areBindings 17 = .ok (.ifCond .eq 13, 3) := by decide +kernel
theorem dX0_areBindings_20 : decode cX0_areBindings 20 = .ok (.iload_n 2, 1) := by decide +kernel
theorem dX0_areBindings_21 : decode cX0_areBindings 21 = .ok (.bipush 8, 2) := by decide +kernel
theorem dX0_areBindings_23 : decode cX0_areBindings 23 = .ok (.if_icmp .gt 7, 3) := by decide +kernel
theorem dX0_areBindings_26 : decode cX0_areBindings 26 = .ok (.iconst 1, 1) := by decide +kernel
theorem dX0_areBindings_27 : decode cX0_areBindings 27 = .ok (.goto 4, 3) := by decide +kernel
theorem dX0_areBindings_30 : decode cX0_areBindings 30 = .ok (.iconst 0, 1) := by decide +kernel
theorem dX0_areBindings_31 : decode cX0_areBindings 31 = .ok (.istore_n 3, 1) := by decide +kernel
theorem dX0_areBindings_32 : decode cX0_areBindings 32 = .ok (.aload_n 0, 1) := by decide +kernel
theorem dX0_areBindings_33 : decode cX0_areBindings 33 = .ok (.getfield 22, 3) := by decide +kernel
theorem dX0_areBindings_36 : decode cX0_areBindings 36 = .ok (.iload_n 1, 1) := by decide +kernel
theorem dX0_areBindings_37 : decode cX0_areBindings 37 = .ok (.invokevirtual 69, 3) := by decide +kernel
theorem dX0_areBindings_40 : decode cX0_areBindings 40 = .ok (.istore 4, 2) := by decide +kernel
theorem dX0_areBindings_42 : decode cX0_areBindings 42 = .ok (.iconst 0, 1) := by decide +kernel
theorem dX0_areBindings_43 : decode cX0_areBindings 43 = .ok (.istore 5, 2) := by decide +kernel
theorem dX0_areBindings_45 : decode cX0_areBindings 45 = .ok (.iload 5, 2) := by decide +kernel
theorem dX0_areBindings_47 : decode cX0_areBindings 47 = .ok (.iload_n 2, 1) := by decide +kernel
theorem dX0_areBindings_48 : decode cX0_areBindings 48 = .ok (.if_icmp .ge 62, 3) := by decide +kernel
theorem dX0_areBindings_51 : decode cX0_areBindings 51 = .ok (.iload_n 3, 1) := by decide +kernel
theorem dX0_areBindings_52 : decode cX0_areBindings 52 = .ok (.ifCond .eq 58, 3) := by decide +kernel
theorem dX0_areBindings_55 : decode cX0_areBindings 55 = .ok (.aload_n 0, 1) := by decide +kernel
theorem dX0_areBindings_56 : decode cX0_areBindings 56 = .ok (.getfield 22, 3) := by decide +kernel
theorem dX0_areBindings_59 : decode cX0_areBindings 59 = .ok (.iload 4, 2) := by decide +kernel
theorem dX0_areBindings_61 : decode cX0_areBindings 61 = .ok (.invokevirtual 62, 3) := by decide +kernel
theorem dX0_areBindings_64 : decode cX0_areBindings 64 = .ok (.iconst 2, 1) := by decide +kernel
theorem dX0_areBindings_65 : decode cX0_areBindings 65 = .ok (.if_icmp .ne 26, 3) := by decide +kernel
theorem dX0_areBindings_68 : decode cX0_areBindings 68 = .ok (.aload_n 0, 1) := by decide +kernel
theorem dX0_areBindings_69 : decode cX0_areBindings 69 = .ok (.getfield 22, 3) := by decide +kernel
theorem dX0_areBindings_72 : decode cX0_areBindings 72 = .ok (.aload_n 0, 1) := by decide +kernel
theorem dX0_areBindings_73 : decode cX0_areBindings 73 = .ok (.getfield 22, 3) := by decide +kernel
theorem dX0_areBindings_76 : decode cX0_areBindings 76 = .ok (.iload 4, 2) := by decide +kernel
theorem dX0_areBindings_78 : decode cX0_areBindings 78 = .ok (.invokevirtual 69, 3) := by decide +kernel
theorem dX0_areBindings_81 : decode cX0_areBindings 81 = .ok (.invokevirtual 153, 3) := by decide +kernel
theorem dX0_areBindings_84 : decode cX0_areBindings 84 = .ok (.ifCond .eq 7, 3) := by decide +kernel
theorem dX0_areBindings_87 : decode cX0_areBindings 87 = .ok (.iconst 1, 1) := by decide +kernel
theorem dX0_areBindings_88 : decode cX0_areBindings 88 = .ok (.goto 4, 3) := by decide +kernel
theorem dX0_areBindings_91 : decode cX0_areBindings 91 = .ok (.iconst 0, 1) := by decide +kernel
theorem dX0_areBindings_92 : decode cX0_areBindings 92 = .ok (.istore_n 3, 1) := by decide +kernel
theorem dX0_areBindings_93 : decode cX0_areBindings 93 = .ok (.aload_n 0, 1) := by decide +kernel
theorem dX0_areBindings_94 : decode cX0_areBindings 94 = .ok (.getfield 22, 3) := by decide +kernel
theorem dX0_areBindings_97 : decode cX0_areBindings 97 = .ok (.iload 4, 2) := by decide +kernel
theorem dX0_areBindings_99 : decode cX0_areBindings 99 = .ok (.invokevirtual 86, 3) := by decide +kernel
theorem dX0_areBindings_102 : decode cX0_areBindings 102 = .ok (.istore 4, 2) := by decide +kernel
theorem dX0_areBindings_104 : decode cX0_areBindings 104 = .ok (.iinc 5 1, 3) := by decide +kernel
theorem dX0_areBindings_107 : decode cX0_areBindings 107 = .ok (.goto (-62), 3) := by decide +kernel
theorem dX0_areBindings_110 : decode cX0_areBindings 110 = .ok (.iload_n 3, 1) := by decide +kernel
theorem dX0_areBindings_111 : decode cX0_areBindings 111 = .ok (.ireturn, 1) := by decide +kernel
theorem dX0_body_0 : decode cX0_body 0 = .ok (.iload_n 1, 1) := by decide +kernel
theorem dX0_body_1 : decode cX0_body 1 = .ok (.istore 5, 2) := by decide +kernel
theorem dX0_body_3 : decode cX0_body 3 = .ok (.iconst 0, 1) := by decide +kernel
theorem dX0_body_4 : decode cX0_body 4 = .ok (.istore 6, 2) := by decide +kernel
theorem dX0_body_6 : decode cX0_body 6 = .ok (.iload 6, 2) := by decide +kernel
theorem dX0_body_8 : decode cX0_body 8 = .ok (.iload_n 2, 1) := by decide +kernel
theorem dX0_body_9 : decode cX0_body 9 = .ok (.if_icmp .ge 71, 3) := by decide +kernel
theorem dX0_body_12 : decode cX0_body 12 = .ok (.iload 6, 2) := by decide +kernel
theorem dX0_body_14 : decode cX0_body 14 = .ok (.iload_n 2, 1) := by decide +kernel
theorem dX0_body_15 : decode cX0_body 15 = .ok (.iconst 1, 1) := by decide +kernel
theorem dX0_body_16 : decode cX0_body 16 = .ok (.isub, 1) := by decide +kernel
theorem dX0_body_17 : decode cX0_body 17 = .ok (.if_icmp .ne 7, 3) := by decide +kernel
theorem dX0_body_20 : decode cX0_body 20 = .ok (.iconst 1, 1) := by decide +kernel
theorem dX0_body_21 : decode cX0_body 21 = .ok (.goto 4, 3) := by decide +kernel
theorem dX0_body_24 : decode cX0_body 24 = .ok (.iconst 0, 1) := by decide +kernel
theorem dX0_body_25 : decode cX0_body 25 = .ok (.istore 7, 2) := by decide +kernel
theorem dX0_body_27 : decode cX0_body 27 = .ok (.aload_n 0, 1) := by decide +kernel
theorem dX0_body_28 : decode cX0_body 28 = .ok (.iload 5, 2) := by decide +kernel
theorem dX0_body_30 : decode cX0_body 30 = .ok (.iload_n 3, 1) := by decide +kernel
theorem dX0_body_31 : decode cX0_body 31 = .ok (.ifCond .eq 12, 3) := by decide +kernel
theorem dX0_body_34 : decode cX0_body 34 = .ok (.iload 7, 2) := by decide +kernel
theorem dX0_body_36 : decode cX0_body 36 = .ok (.ifCond .eq 7, 3) := by decide +kernel
theorem dX0_body_39 : decode cX0_body 39 = .ok (.iconst 1, 1) := by decide +kernel
theorem dX0_body_40 : decode cX0_body 40 = .ok (.goto 4, 3) := by decide +kernel
theorem dX0_body_43 : decode cX0_body 43 = .ok (.iconst 0, 1) := by decide +kernel
theorem dX0_body_44 : decode cX0_body 44 = .ok (.iload 4, 2) := by decide +kernel
theorem dX0_body_46 : decode cX0_body 46 = .ok (.invokevirtual 78, 3) := by decide +kernel
theorem dX0_body_49 : decode cX0_body 49 = .ok (.iload 7, 2) := by decide +kernel
theorem dX0_body_51 : decode cX0_body 51 = .ok (.ifCond .ne 12, 3) := by decide +kernel
theorem dX0_body_54 : decode cX0_body 54 = .ok (.aload_n 0, 1) := by decide +kernel
theorem dX0_body_55 : decode cX0_body 55 = .ok (.bipush 30, 2) := by decide +kernel
theorem dX0_body_57 : decode cX0_body 57 = .ok (.iconst 0, 1) := by decide +kernel
theorem dX0_body_58 : decode cX0_body 58 = .ok (.iconst (-1), 1) := by decide +kernel
theorem dX0_body_59 : decode cX0_body 59 = .ok (.invokevirtual 82, 3) := by decide +kernel
theorem dX0_body_62 : decode cX0_body 62 = .ok (.pop, 1) := by decide +kernel
theorem dX0_body_63 : decode cX0_body 63 = .ok (.aload_n 0, 1) := by decide +kernel
theorem dX0_body_64 : decode cX0_body 64 = .ok (.getfield 22, 3) := by decide +kernel
theorem dX0_body_67 : decode cX0_body 67 = .ok (.iload 5, 2) := by decide +kernel
theorem dX0_body_69 : decode cX0_body 69 = .ok (.invokevirtual 86, 3) := by decide +kernel
theorem dX0_body_72 : decode cX0_body 72 = .ok (.istore 5, 2) := by decide +kernel
theorem dX0_body_74 : decode cX0_body 74 = .ok (.iinc 6 1, 3) := by decide +kernel
theorem dX0_body_77 : decode cX0_body 77 = .ok (.goto (-71), 3) := by decide +kernel
theorem dX0_body_80 : decode cX0_body 80 = .ok (.return_, 1) := by decide +kernel
theorem dX0_ifForm_0 : decode cX0_ifForm 0 = .ok (.aload_n 0, 1) := by decide +kernel
theorem dX0_ifForm_1 : decode cX0_ifForm 1 = .ok (.getfield 22, 3) := by decide +kernel
theorem dX0_ifForm_4 : decode cX0_ifForm 4 = .ok (.iload_n 1, 1) := by decide +kernel
theorem dX0_ifForm_5 : decode cX0_ifForm 5 = .ok (.invokevirtual 120, 3) := by decide +kernel
theorem dX0_ifForm_8 : decode cX0_ifForm 8 = .ok (.istore 4, 2) := by decide +kernel
theorem dX0_ifForm_10 : decode cX0_ifForm 10 = .ok (.aload_n 0, 1) := by decide +kernel
theorem dX0_ifForm_11 : decode cX0_ifForm 11 = .ok (.getfield 22, 3) := by decide +kernel
theorem dX0_ifForm_14 : decode cX0_ifForm 14 = .ok (.iload 4, 2) := by decide +kernel
theorem dX0_ifForm_16 : decode cX0_ifForm 16 = .ok (.invokevirtual 86, 3) := by decide +kernel
theorem dX0_ifForm_19 : decode cX0_ifForm 19 = .ok (.istore 5, 2) := by decide +kernel
theorem dX0_ifForm_21 : decode cX0_ifForm 21 = .ok (.aload_n 0, 1) := by decide +kernel
theorem dX0_ifForm_22 : decode cX0_ifForm 22 = .ok (.iload 4, 2) := by decide +kernel
theorem dX0_ifForm_24 : decode cX0_ifForm 24 = .ok (.iconst 0, 1) := by decide +kernel
theorem dX0_ifForm_25 : decode cX0_ifForm 25 = .ok (.iload_n 3, 1) := by decide +kernel
theorem dX0_ifForm_26 : decode cX0_ifForm 26 = .ok (.invokevirtual 78, 3) := by decide +kernel
theorem dX0_ifForm_29 : decode cX0_ifForm 29 = .ok (.aload_n 0, 1) := by decide +kernel
theorem dX0_ifForm_30 : decode cX0_ifForm 30 = .ok (.bipush 27, 2) := by decide +kernel
theorem dX0_ifForm_32 : decode cX0_ifForm 32 = .ok (.iconst 0, 1) := by decide +kernel
theorem dX0_ifForm_33 : decode cX0_ifForm 33 = .ok (.iconst (-1), 1) := by decide +kernel
theorem dX0_ifForm_34 : decode cX0_ifForm 34 = .ok (.invokevirtual 82, 3) := by decide +kernel
theorem dX0_ifForm_37 : decode cX0_ifForm 37 = .ok (.istore 6, 2) := by decide +kernel
theorem dX0_ifForm_39 : decode cX0_ifForm 39 = .ok (.aload_n 0, 1) := by decide +kernel
theorem dX0_ifForm_40 : decode cX0_ifForm 40 = .ok (.iload 5, 2) := by decide +kernel
theorem dX0_ifForm_42 : decode cX0_ifForm 42 = .ok (.iload_n 2, 1) := by decide +kernel
theorem dX0_ifForm_43 : decode cX0_ifForm 43 = .ok (.iload_n 3, 1) := by decide +kernel
theorem dX0_ifForm_44 : decode cX0_ifForm 44 = .ok (.invokevirtual 78, 3) := by decide +kernel
theorem dX0_ifForm_47 : decode cX0_ifForm 47 = .ok (.iload_n 2, 1) := by decide +kernel
theorem dX0_ifForm_48 : decode cX0_ifForm 48 = .ok (.ifCond .eq 7, 3) := by decide +kernel
theorem dX0_ifForm_51 : decode cX0_ifForm 51 = .ok (.iconst (-1), 1) := by decide +kernel
theorem dX0_ifForm_52 : decode cX0_ifForm 52 = .ok (.goto 11, 3) := by decide +kernel
theorem dX0_ifForm_55 : decode cX0_ifForm 55 = .ok (.aload_n 0, 1) := by decide +kernel
theorem dX0_ifForm_56 : decode cX0_ifForm 56 = .ok (.bipush 26, 2) := by decide +kernel
theorem dX0_ifForm_58 : decode cX0_ifForm 58 = .ok (.iconst 0, 1) := by decide +kernel
theorem dX0_ifForm_59 : decode cX0_ifForm 59 = .ok (.iconst 0, 1) := by decide +kernel
theorem dX0_ifForm_60 : decode cX0_ifForm 60 = .ok (.invokevirtual 82, 3) := by decide +kernel
theorem dX0_ifForm_63 : decode cX0_ifForm 63 = .ok (.istore 7, 2) := by decide +kernel
theorem dX0_ifForm_65 : decode cX0_ifForm 65 = .ok (.aload_n 0, 1) := by decide +kernel
theorem dX0_ifForm_66 : decode cX0_ifForm 66 = .ok (.dup, 1) := by decide +kernel
theorem dX0_ifForm_67 : decode cX0_ifForm 67 = .ok (.getfield 53, 3) := by decide +kernel
theorem dX0_ifForm_70 : decode cX0_ifForm 70 = .ok (.iconst 1, 1) := by decide +kernel
theorem dX0_ifForm_71 : decode cX0_ifForm 71 = .ok (.isub, 1) := by decide +kernel
theorem dX0_ifForm_72 : decode cX0_ifForm 72 = .ok (.putfield 53, 3) := by decide +kernel
theorem dX0_ifForm_75 : decode cX0_ifForm 75 = .ok (.aload_n 0, 1) := by decide +kernel
theorem dX0_ifForm_76 : decode cX0_ifForm 76 = .ok (.getfield 30, 3) := by decide +kernel
theorem dX0_ifForm_79 : decode cX0_ifForm 79 = .ok (.iload 6, 2) := by decide +kernel
theorem dX0_ifForm_81 : decode cX0_ifForm 81 = .ok (.invokevirtual 228, 3) := by decide +kernel
theorem dX0_ifForm_84 : decode cX0_ifForm 84 = .ok (.pop, 1) := by decide +kernel
theorem dX0_ifForm_85 : decode cX0_ifForm 85 = .ok (.aload_n 0, 1) := by decide +kernel
theorem dX0_ifForm_86 : decode cX0_ifForm 86 = .ok (.aload_n 0, 1) := by decide +kernel
theorem dX0_ifForm_87 : decode cX0_ifForm 87 = .ok (.getfield 22, 3) := by decide +kernel
theorem dX0_ifForm_90 : decode cX0_ifForm 90 = .ok (.iload 5, 2) := by decide +kernel
theorem dX0_ifForm_92 : decode cX0_ifForm 92 = .ok (.invokevirtual 86, 3) := by decide +kernel
theorem dX0_ifForm_95 : decode cX0_ifForm 95 = .ok (.iload_n 2, 1) := by decide +kernel
theorem dX0_ifForm_96 : decode cX0_ifForm 96 = .ok (.iload_n 3, 1) := by decide +kernel
theorem dX0_ifForm_97 : decode cX0_ifForm 97 = .ok (.invokevirtual 78, 3) := by decide +kernel
theorem dX0_ifForm_100 : decode cX0_ifForm 100 = .ok (.aload_n 0, 1) := by decide +kernel
theorem dX0_ifForm_101 : decode cX0_ifForm 101 = .ok (.getfield 30, 3) := by decide +kernel
theorem dX0_ifForm_104 : decode cX0_ifForm 104 = .ok (.iload 7, 2) := by decide +kernel
theorem dX0_ifForm_106 : decode cX0_ifForm 106 = .ok (.invokevirtual 228, 3) := by decide +kernel
theorem dX0_ifForm_109 : decode cX0_ifForm 109 = .ok (.pop, 1) := by decide +kernel
theorem dX0_ifForm_110 : decode cX0_ifForm 110 = .ok (.return_, 1) := by decide +kernel
theorem dX0_untilForm_0 : decode cX0_untilForm 0 = .ok (.aload_n 0, 1) := by decide +kernel
theorem dX0_untilForm_1 : decode cX0_untilForm 1 = .ok (.getfield 22, 3) := by decide +kernel
theorem dX0_untilForm_4 : decode cX0_untilForm 4 = .ok (.iload_n 1, 1) := by decide +kernel
theorem dX0_untilForm_5 : decode cX0_untilForm 5 = .ok (.invokevirtual 62, 3) := by decide +kernel
theorem dX0_untilForm_8 : decode cX0_untilForm 8 = .ok (.iconst 1, 1) := by decide +kernel
theorem dX0_untilForm_9 : decode cX0_untilForm 9 = .ok (.isub, 1) := by decide +kernel
theorem dX0_untilForm_10 : decode cX0_untilForm 10 = .ok (.istore 5, 2) := by decide +kernel
theorem dX0_untilForm_12 : decode cX0_untilForm 12 = .ok (.aload_n 0, 1) := by decide +kernel
theorem dX0_untilForm_13 : decode cX0_untilForm 13 = .ok (.getfield 22, 3) := by decide +kernel
theorem dX0_untilForm_16 : decode cX0_untilForm 16 = .ok (.iload_n 1, 1) := by decide +kernel
theorem dX0_untilForm_17 : decode cX0_untilForm 17 = .ok (.invokevirtual 120, 3) := by decide +kernel
theorem dX0_untilForm_20 : decode cX0_untilForm 20 = .ok (.istore 6, 2) := by decide +kernel
theorem dX0_untilForm_22 : decode cX0_untilForm 22 = .ok (.iconst (-1), 1) := by decide +kernel
theorem dX0_untilForm_23 : decode cX0_untilForm 23 = .ok (.istore 7, 2) := by decide +kernel
theorem dX0_untilForm_25 : decode cX0_untilForm 25 = .ok (.iconst 0, 1) := by decide +kernel
theorem dX0_untilForm_26 : decode cX0_untilForm 26 = .ok (.istore 8, 2) := by decide +kernel
theorem dX0_untilForm_28 : decode cX0_untilForm 28 = .ok (.iload 8, 2) := by decide +kernel
theorem dX0_untilForm_30 : decode cX0_untilForm 30 = .ok (.iload 5, 2) := by decide +kernel
theorem dX0_untilForm_32 : decode cX0_untilForm 32 = .ok (.iconst 1, 1) := by decide +kernel
theorem dX0_untilForm_33 : decode cX0_untilForm 33 = .ok (.isub, 1) := by decide +kernel
theorem dX0_untilForm_34 : decode cX0_untilForm 34 = .ok (.if_icmp .ge 39, 3) := by decide +kernel
theorem dX0_untilForm_37 : decode cX0_untilForm 37 = .ok (.aload_n 0, 1) := by decide +kernel
theorem dX0_untilForm_38 : decode cX0_untilForm 38 = .ok (.iload 6, 2) := by decide +kernel
theorem dX0_untilForm_40 : decode cX0_untilForm 40 = .ok (.iconst 0, 1) := by decide +kernel
theorem dX0_untilForm_41 : decode cX0_untilForm 41 = .ok (.iload 4, 2) := by decide +kernel
theorem dX0_untilForm_43 : decode cX0_untilForm 43 = .ok (.invokevirtual 78, 3) := by decide +kernel
theorem dX0_untilForm_46 : decode cX0_untilForm 46 = .ok (.aload_n 0, 1) := by decide +kernel
theorem dX0_untilForm_47 : decode cX0_untilForm 47 = .ok (.iload_n 2, 1) := by decide +kernel
theorem dX0_untilForm_48 : decode cX0_untilForm 48 = .ok (.iload 7, 2) := by decide +kernel
theorem dX0_untilForm_50 : decode cX0_untilForm 50 = .ok (.iconst (-1), 1) := by decide +kernel
theorem dX0_untilForm_51 : decode cX0_untilForm 51 = .ok (.invokevirtual 82, 3) := by decide +kernel
theorem dX0_untilForm_54 : decode cX0_untilForm 54 = .ok (.istore 7, 2) := by decide +kernel
theorem dX0_untilForm_56 : decode cX0_untilForm 56 = .ok (.aload_n 0, 1) := by decide +kernel
theorem dX0_untilForm_57 : decode cX0_untilForm 57 = .ok (.getfield 22, 3) := by decide +kernel
theorem dX0_untilForm_60 : decode cX0_untilForm 60 = .ok (.iload 6, 2) := by decide +kernel
theorem dX0_untilForm_62 : decode cX0_untilForm 62 = .ok (.invokevirtual 86, 3) := by decide +kernel
theorem dX0_untilForm_65 : decode cX0_untilForm 65 = .ok (.istore 6, 2) := by decide +kernel
theorem dX0_untilForm_67 : decode cX0_untilForm 67 = .ok (.iinc 8 1, 3) := by decide +kernel
theorem dX0_untilForm_70 : decode cX0_untilForm 70 = .ok (.goto (-42), 3) := by decide +kernel
theorem dX0_untilForm_73 : decode cX0_untilForm 73 = .ok (.aload_n 0, 1) := by decide +kernel
theorem dX0_untilForm_74 : decode cX0_untilForm 74 = .ok (.iload 6, 2) := by decide +kernel
theorem dX0_untilForm_76 : decode cX0_untilForm 76 = .ok (.iload_n 3, 1) := by decide +kernel
theorem dX0_untilForm_77 : decode cX0_untilForm 77 = .ok (.iload 4, 2) := by decide +kernel
theorem dX0_untilForm_79 : decode cX0_untilForm 79 = .ok (.invokevirtual 78, 3) := by decide +kernel
theorem dX0_untilForm_82 : decode cX0_untilForm 82 = .ok (.iconst 0, 1) := by decide +kernel
theorem dX0_untilForm_83 : decode cX0_untilForm 83 = .ok (.istore 8, 2) := by decide +kernel
theorem dX0_untilForm_85 : decode cX0_untilForm 85 = .ok (.iload 8, 2) := by decide +kernel
theorem dX0_untilForm_87 : decode cX0_untilForm 87 = .ok (.iload 5, 2) := by decide +kernel
theorem dX0_untilForm_89 : decode cX0_untilForm 89 = .ok (.iconst 1, 1) := by decide +kernel
theorem dX0_untilForm_90 : decode cX0_untilForm 90 = .ok (.isub, 1) := by decide +kernel
theorem dX0_untilForm_91 : decode cX0_untilForm 91 = .ok (.if_icmp .ge 20, 3) := by decide +kernel
theorem dX0_untilForm_94 : decode cX0_untilForm 94 = .ok (.aload_n 0, 1) := by decide +kernel
theorem dX0_untilForm_95 : decode cX0_untilForm 95 = .ok (.getfield 30, 3) := by decide +kernel
theorem dX0_untilForm_98 : decode cX0_untilForm 98 = .ok (.iload 7, 2) := by decide +kernel
theorem dX0_untilForm_100 : decode cX0_untilForm 100 = .ok (.invokevirtual 228, 3) := by decide +kernel
theorem dX0_untilForm_103 : decode cX0_untilForm 103 = .ok (.istore 7, 2) := by decide +kernel
theorem dX0_untilForm_105 : decode cX0_untilForm 105 = .ok (.iinc 8 1, 3) := by decide +kernel
theorem dX0_untilForm_108 : decode cX0_untilForm 108 = .ok (.goto (-23), 3) := by decide +kernel
theorem dX0_untilForm_111 : decode cX0_untilForm 111 = .ok (.aload_n 0, 1) := by decide +kernel
theorem dX0_untilForm_112 : decode cX0_untilForm 112 = .ok (.iload_n 3, 1) := by decide +kernel
theorem dX0_untilForm_113 : decode cX0_untilForm 113 = .ok (.ifCond .eq 13, 3) := by decide +kernel
theorem dX0_untilForm_116 : decode cX0_untilForm 116 = .ok (.iload 5, 2) := by decide +kernel
theorem dX0_untilForm_118 : decode cX0_untilForm 118 = .ok (.iconst 1, 1) := by decide +kernel
theorem dX0_untilForm_119 : decode cX0_untilForm 119 = .ok (.if_icmp .le 7, 3) := by decide +kernel
theorem dX0_untilForm_122 : decode cX0_untilForm 122 = .ok (.iconst 1, 1) := by decide +kernel
theorem dX0_untilForm_123 : decode cX0_untilForm 123 = .ok (.goto 4, 3) := by decide +kernel
theorem dX0_untilForm_126 : decode cX0_untilForm 126 = .ok (.iconst 0, 1) := by decide +kernel
theorem dX0_untilForm_127 : decode cX0_untilForm 127 = .ok (.invokevirtual 165, 3) := by decide +kernel
theorem dX0_untilForm_130 : decode cX0_untilForm 130 = .ok (.return_, 1) := by decide +kernel
theorem dX0_callForm_0 : decode cX0_callForm 0 = .ok (.aload_n 0, 1) := by decide +kernel
theorem dX0_callForm_1 : decode cX0_callForm 1 = .ok (.getfield 22, 3) := by decide +kernel
theorem dX0_callForm_4 : decode cX0_callForm 4 = .ok (.iload_n 1, 1) := by decide +kernel
theorem dX0_callForm_5 : decode cX0_callForm 5 = .ok (.invokevirtual 62, 3) := by decide +kernel
theorem dX0_callForm_8 : decode cX0_callForm 8 = .ok (.istore 4, 2) := by decide +kernel
theorem dX0_callForm_10 : decode cX0_callForm 10 = .ok (.aload_n 0, 1) := by decide +kernel
theorem dX0_callForm_11 : decode cX0_callForm 11 = .ok (.getfield 22, 3) := by decide +kernel
theorem dX0_callForm_14 : decode cX0_callForm 14 = .ok (.iload_n 1, 1) := by decide +kernel
theorem dX0_callForm_15 : decode cX0_callForm 15 = .ok (.invokevirtual 69, 3) := by decide +kernel
theorem dX0_callForm_18 : decode cX0_callForm 18 = .ok (.istore 5, 2) := by decide +kernel
theorem dX0_callForm_20 : decode cX0_callForm 20 = .ok (.iconst 0, 1) := by decide +kernel
theorem dX0_callForm_21 : decode cX0_callForm 21 = .ok (.istore 6, 2) := by decide +kernel
theorem dX0_callForm_23 : decode cX0_callForm 23 = .ok (.iload 6, 2) := by decide +kernel
theorem dX0_callForm_25 : decode cX0_callForm 25 = .ok (.iload 4, 2) := by decide +kernel
theorem dX0_callForm_27 : decode cX0_callForm 27 = .ok (.if_icmp .ge 28, 3) := by decide +kernel
theorem dX0_callForm_30 : decode cX0_callForm 30 = .ok (.aload_n 0, 1) := by decide +kernel
theorem dX0_callForm_31 : decode cX0_callForm 31 = .ok (.iload 5, 2) := by decide +kernel
theorem dX0_callForm_33 : decode cX0_callForm 33 = .ok (.iconst 0, 1) := by decide +kernel
theorem dX0_callForm_34 : decode cX0_callForm 34 = .ok (.iload_n 3, 1) := by decide +kernel
theorem dX0_callForm_35 : decode cX0_callForm 35 = .ok (.invokevirtual 78, 3) := by decide +kernel
theorem dX0_callForm_38 : decode cX0_callForm 38 = .ok (.aload_n 0, 1) := by decide +kernel
theorem dX0_callForm_39 : decode cX0_callForm 39 = .ok (.getfield 22, 3) := by decide +kernel
theorem dX0_callForm_42 : decode cX0_callForm 42 = .ok (.iload 5, 2) := by decide +kernel
theorem dX0_callForm_44 : decode cX0_callForm 44 = .ok (.invokevirtual 86, 3) := by decide +kernel
theorem dX0_callForm_47 : decode cX0_callForm 47 = .ok (.istore 5, 2) := by decide +kernel
theorem dX0_callForm_49 : decode cX0_callForm 49 = .ok (.iinc 6 1, 3) := by decide +kernel
theorem dX0_callForm_52 : decode cX0_callForm 52 = .ok (.goto (-29), 3) := by decide +kernel
theorem dX0_callForm_55 : decode cX0_callForm 55 = .ok (.aload_n 0, 1) := by decide +kernel
theorem dX0_callForm_56 : decode cX0_callForm 56 = .ok (.iload_n 2, 1) := by decide +kernel
theorem dX0_callForm_57 : decode cX0_callForm 57 = .ok (.ifCond .eq 8, 3) := by decide +kernel
theorem dX0_callForm_60 : decode cX0_callForm 60 = .ok (.bipush 33, 2) := by decide +kernel
theorem dX0_callForm_62 : decode cX0_callForm 62 = .ok (.goto 5, 3) := by decide +kernel
theorem dX0_callForm_65 : decode cX0_callForm 65 = .ok (.bipush 32, 2) := by decide +kernel
theorem dX0_callForm_67 : decode cX0_callForm 67 = .ok (.iload 4, 2) := by decide +kernel
theorem dX0_callForm_69 : decode cX0_callForm 69 = .ok (.iconst 1, 1) := by decide +kernel
theorem dX0_callForm_70 : decode cX0_callForm 70 = .ok (.isub, 1) := by decide +kernel
theorem dX0_callForm_71 : decode cX0_callForm 71 = .ok (.iconst 1, 1) := by decide +kernel
theorem dX0_callForm_72 : decode cX0_callForm 72 = .ok (.iload 4, 2) := by decide +kernel
theorem dX0_callForm_74 : decode cX0_callForm 74 = .ok (.isub, 1) := by decide +kernel
theorem dX0_callForm_75 : decode cX0_callForm 75 = .ok (.invokevirtual 82, 3) := by decide +kernel
theorem dX0_callForm_78 : decode cX0_callForm 78 = .ok (.pop, 1) := by decide +kernel
theorem dX0_callForm_79 : decode cX0_callForm 79 = .ok (.return_, 1) := by decide +kernel
theorem dX0_checkBound_0 : decode cX0_checkBound 0 = .ok (.aload_n 0, 1) := by decide +kernel
theorem dX0_checkBound_1 : decode cX0_checkBound 1 = .ok (.getfield 22, 3) := by decide +kernel
theorem dX0_checkBound_4 : decode cX0_checkBound 4 = .ok (.iload_n 3, 1) := by decide +kernel
theorem dX0_checkBound_5 : decode cX0_checkBound 5 = .ok (.invokevirtual 123, 3) := by decide +kernel
theorem dX0_checkBound_8 : decode cX0_checkBound 8 = .ok (.bipush 30, 2) := by decide +kernel
theorem dX0_checkBound_10 : decode cX0_checkBound 10 = .ok (.if_icmp .lt 7, 3) := by decide +kernel
theorem dX0_checkBound_13 : decode cX0_checkBound 13 = .ok (.iconst 1, 1) := by decide +kernel
theorem dX0_checkBound_14 : decode cX0_checkBound 14 = .ok (.goto 4, 3) := by decide +kernel
theorem dX0_checkBound_17 : decode cX0_checkBound 17 = .ok (.iconst 0, 1) := by decide +kernel
theorem dX0_checkBound_18 : decode cX0_checkBound 18 = .ok (.istore 4, 2) := by decide +kernel
theorem dX0_checkBound_20 : decode cX0_checkBound 20 = .ok (.aload_n 0, 1) := by decide +kernel
theorem dX0_checkBound_21 : decode cX0_checkBound 21 = .ok (.getfield 22, 3) := by decide +kernel
theorem dX0_checkBound_24 : decode cX0_checkBound 24 = .ok (.iload_n 1, 1) := by decide +kernel
theorem dX0_checkBound_25 : decode cX0_checkBound 25 = .ok (.invokevirtual 69, 3) := by decide +kernel
theorem dX0_checkBound_28 : decode cX0_checkBound 28 = .ok (.istore 5, 2) := by decide +kernel
theorem dX0_checkBound_30 : decode cX0_checkBound 30 = .ok (.iconst 0, 1) := by decide +kernel
theorem dX0_checkBound_31 : decode cX0_checkBound 31 = .ok (.istore 6, 2) := by decide +kernel
theorem dX0_checkBound_33 : decode cX0_checkBound 33 = .ok (.iload 6, 2) := by decide +kernel
theorem dX0_checkBound_35 : decode cX0_checkBound 35 = .ok (.iload_n 2, 1) := by decide +kernel
theorem dX0_checkBound_36 : decode cX0_checkBound 36 = .ok (.if_icmp .ge 80, 3) := by decide +kernel
theorem dX0_checkBound_39 : decode cX0_checkBound 39 = .ok (.iload 4, 2) := by decide +kernel
theorem dX0_checkBound_41 : decode cX0_checkBound 41 = .ok (.ifCond .eq 75, 3) := by decide +kernel
theorem dX0_checkBound_44 : decode cX0_checkBound 44 = .ok (.aload_n 0, 1) := by decide +kernel
theorem dX0_checkBound_45 : decode cX0_checkBound 45 = .ok (.getfield 22, 3) := by decide +kernel
theorem dX0_checkBound_48 : decode cX0_checkBound 48 = .ok (.iload 5, 2) := by decide +kernel
theorem dX0_checkBound_50 : decode cX0_checkBound 50 = .ok (.invokevirtual 146, 3) := by decide +kernel
theorem dX0_checkBound_53 : decode cX0_checkBound 53 = .ok (.ifCond .eq 15, 3) := by decide +kernel
theorem dX0_checkBound_56 : decode cX0_checkBound 56 = .ok (.aload_n 0, 1) := by decide +kernel
theorem dX0_checkBound_57 : decode cX0_checkBound 57 = .ok (.getfield 22, 3) := by decide +kernel
theorem dX0_checkBound_60 : decode cX0_checkBound 60 = .ok (.iload 5, 2) := by decide +kernel
theorem dX0_checkBound_62 : decode cX0_checkBound 62 = .ok (.invokevirtual 69, 3) := by decide +kernel
theorem dX0_checkBound_65 : decode cX0_checkBound 65 = .ok (.goto 5, 3) := by decide +kernel
theorem dX0_checkBound_68 : decode cX0_checkBound 68 = .ok (.iload 5, 2) := by decide +kernel
theorem dX0_checkBound_70 : decode cX0_checkBound 70 = .ok (.istore 7, 2) := by decide +kernel
theorem dX0_checkBound_72 : decode cX0_checkBound 72 = .ok (.aload_n 0, 1) := by decide +kernel
theorem dX0_checkBound_73 : decode cX0_checkBound 73 = .ok (.getfield 22, 3) := by decide +kernel
theorem dX0_checkBound_76 : decode cX0_checkBound 76 = .ok (.iload 7, 2) := by decide +kernel
theorem dX0_checkBound_78 : decode cX0_checkBound 78 = .ok (.invokevirtual 123, 3) := by decide +kernel
theorem dX0_checkBound_81 : decode cX0_checkBound 81 = .ok (.aload_n 0, 1) := by decide +kernel
theorem dX0_checkBound_82 : decode cX0_checkBound 82 = .ok (.getfield 22, 3) := by decide +kernel
theorem dX0_checkBound_85 : decode cX0_checkBound 85 = .ok (.iload_n 3, 1) := by decide +kernel
theorem dX0_checkBound_86 : decode cX0_checkBound 86 = .ok (.invokevirtual 123, 3) := by decide +kernel
theorem dX0_checkBound_89 : decode cX0_checkBound 89 = .ok (.if_icmp .eq 7, 3) := by decide +kernel
theorem dX0_checkBound_92 : decode cX0_checkBound 92 = .ok (.iconst 1, 1) := by decide +kernel
theorem dX0_checkBound_93 : decode cX0_checkBound 93 = .ok (.goto 4, 3) := by decide +kernel
theorem dX0_checkBound_96 : decode cX0_checkBound 96 = .ok (.iconst 0, 1) := by decide +kernel
theorem dX0_checkBound_97 : decode cX0_checkBound 97 = .ok (.istore 4, 2) := by decide +kernel
theorem dX0_checkBound_99 : decode cX0_checkBound 99 = .ok (.aload_n 0, 1) := by decide +kernel
theorem dX0_checkBound_100 : decode cX0_checkBound 100 = .ok (.getfield 22, 3) := by decide +kernel
theorem dX0_checkBound_103 : decode cX0_checkBound 103 = .ok (.iload 5, 2) := by decide +kernel
theorem dX0_checkBound_105 : decode cX0_checkBound 105 = .ok (.invokevirtual 86, 3) := by decide +kernel
theorem dX0_checkBound_108 : decode cX0_checkBound 108 = .ok (.istore 5, 2) := by decide +kernel
theorem dX0_checkBound_110 : decode cX0_checkBound 110 = .ok (.iinc 6 1, 3) := by decide +kernel
theorem dX0_checkBound_113 : decode cX0_checkBound 113 = .ok (.goto (-80), 3) := by decide +kernel
theorem dX0_checkBound_116 : decode cX0_checkBound 116 = .ok (.iload 4, 2) := by decide +kernel
theorem dX0_checkBound_118 : decode cX0_checkBound 118 = .ok (.ifCond .ne 19, 3) := by decide +kernel
theorem dX0_checkBound_121 : decode cX0_checkBound 121 = .ok (.aload_n 0, 1) := by decide +kernel
theorem dX0_checkBound_122 : decode cX0_checkBound 122 = .ok (.getfield 26, 3) := by decide +kernel
theorem dX0_checkBound_125 : decode cX0_checkBound 125 = .ok (.iconst 5, 1) := by decide +kernel
theorem dX0_checkBound_126 : decode cX0_checkBound 126 = .ok (.aload_n 0, 1) := by decide +kernel
theorem dX0_checkBound_127 : decode cX0_checkBound 127 = .ok (.getfield 22, 3) := by decide +kernel
theorem dX0_checkBound_130 : decode cX0_checkBound 130 = .ok (.iload_n 3, 1) := by decide +kernel
theorem dX0_checkBound_131 : decode cX0_checkBound 131 = .ok (.invokevirtual 138, 3) := by decide +kernel
theorem dX0_checkBound_134 : decode cX0_checkBound 134 = .ok (.invokevirtual 141, 3) := by decide +kernel
theorem dX0_checkBound_137 : decode cX0_checkBound 137 = .ok (.return_, 1) := by decide +kernel
theorem dX0_letForm_0 : decode cX0_letForm 0 = .ok (.aload_n 0, 1) := by decide +kernel
theorem dX0_letForm_1 : decode cX0_letForm 1 = .ok (.getfield 53, 3) := by decide +kernel
theorem dX0_letForm_4 : decode cX0_letForm 4 = .ok (.istore 4, 2) := by decide +kernel
theorem dX0_letForm_6 : decode cX0_letForm 6 = .ok (.aload_n 0, 1) := by decide +kernel
theorem dX0_letForm_7 : decode cX0_letForm 7 = .ok (.getfield 12, 3) := by decide +kernel
theorem dX0_letForm_10 : decode cX0_letForm 10 = .ok (.invokevirtual 231, 3) := by decide +kernel
theorem dX0_letForm_13 : decode cX0_letForm 13 = .ok (.istore 5, 2) := by decide +kernel
theorem dX0_letForm_15 : decode cX0_letForm 15 = .ok (.aload_n 0, 1) := by decide +kernel
theorem dX0_letForm_16 : decode cX0_letForm 16 = .ok (.getfield 22, 3) := by decide +kernel
theorem dX0_letForm_19 : decode cX0_letForm 19 = .ok (.iload_n 1, 1) := by decide +kernel
theorem dX0_letForm_20 : decode cX0_letForm 20 = .ok (.invokevirtual 120, 3) := by decide +kernel
theorem dX0_letForm_23 : decode cX0_letForm 23 = .ok (.istore 6, 2) := by decide +kernel
theorem dX0_letForm_25 : decode cX0_letForm 25 = .ok (.aload_n 0, 1) := by decide +kernel
theorem dX0_letForm_26 : decode cX0_letForm 26 = .ok (.getfield 22, 3) := by decide +kernel
theorem dX0_letForm_29 : decode cX0_letForm 29 = .ok (.iload 6, 2) := by decide +kernel
theorem dX0_letForm_31 : decode cX0_letForm 31 = .ok (.invokevirtual 62, 3) := by decide +kernel
theorem dX0_letForm_34 : decode cX0_letForm 34 = .ok (.istore 7, 2) := by decide +kernel
theorem dX0_letForm_36 : decode cX0_letForm 36 = .ok (.aload_n 0, 1) := by decide +kernel
theorem dX0_letForm_37 : decode cX0_letForm 37 = .ok (.getfield 22, 3) := by decide +kernel
theorem dX0_letForm_40 : decode cX0_letForm 40 = .ok (.iload 6, 2) := by decide +kernel
theorem dX0_letForm_42 : decode cX0_letForm 42 = .ok (.invokevirtual 69, 3) := by decide +kernel
theorem dX0_letForm_45 : decode cX0_letForm 45 = .ok (.istore 8, 2) := by decide +kernel
theorem dX0_letForm_47 : decode cX0_letForm 47 = .ok (.iconst 0, 1) := by decide +kernel
theorem dX0_letForm_48 : decode cX0_letForm 48 = .ok (.istore 9, 2) := by decide +kernel
theorem dX0_letForm_50 : decode cX0_letForm 50 = .ok (.iload 9, 2) := by decide +kernel
theorem dX0_letForm_52 : decode cX0_letForm 52 = .ok (.iload 7, 2) := by decide +kernel
theorem dX0_letForm_54 : decode cX0_letForm 54 = .ok (.if_icmp .ge 52, 3) := by decide +kernel
theorem dX0_letForm_57 : decode cX0_letForm 57 = .ok (.aload_n 0, 1) := by decide +kernel
theorem dX0_letForm_58 : decode cX0_letForm 58 = .ok (.iload 6, 2) := by decide +kernel
theorem dX0_letForm_60 : decode cX0_letForm 60 = .ok (.iload 9, 2) := by decide +kernel
theorem dX0_letForm_62 : decode cX0_letForm 62 = .ok (.aload_n 0, 1) := by decide +kernel
theorem dX0_letForm_63 : decode cX0_letForm 63 = .ok (.getfield 22, 3) := by decide +kernel
theorem dX0_letForm_66 : decode cX0_letForm 66 = .ok (.iload 8, 2) := by decide +kernel
theorem dX0_letForm_68 : decode cX0_letForm 68 = .ok (.invokevirtual 69, 3) := by decide +kernel
theorem dX0_letForm_71 : decode cX0_letForm 71 = .ok (.invokevirtual 234, 3) := by decide +kernel
theorem dX0_letForm_74 : decode cX0_letForm 74 = .ok (.aload_n 0, 1) := by decide +kernel
theorem dX0_letForm_75 : decode cX0_letForm 75 = .ok (.aload_n 0, 1) := by decide +kernel
theorem dX0_letForm_76 : decode cX0_letForm 76 = .ok (.getfield 22, 3) := by decide +kernel
theorem dX0_letForm_79 : decode cX0_letForm 79 = .ok (.iload 8, 2) := by decide +kernel
theorem dX0_letForm_81 : decode cX0_letForm 81 = .ok (.invokevirtual 120, 3) := by decide +kernel
theorem dX0_letForm_84 : decode cX0_letForm 84 = .ok (.iconst 0, 1) := by decide +kernel
theorem dX0_letForm_85 : decode cX0_letForm 85 = .ok (.iload_n 3, 1) := by decide +kernel
theorem dX0_letForm_86 : decode cX0_letForm 86 = .ok (.invokevirtual 78, 3) := by decide +kernel
theorem dX0_letForm_89 : decode cX0_letForm 89 = .ok (.aload_n 0, 1) := by decide +kernel
theorem dX0_letForm_90 : decode cX0_letForm 90 = .ok (.getfield 22, 3) := by decide +kernel
theorem dX0_letForm_93 : decode cX0_letForm 93 = .ok (.iload 8, 2) := by decide +kernel
theorem dX0_letForm_95 : decode cX0_letForm 95 = .ok (.invokevirtual 86, 3) := by decide +kernel
theorem dX0_letForm_98 : decode cX0_letForm 98 = .ok (.istore 8, 2) := by decide +kernel
theorem dX0_letForm_100 : decode cX0_letForm 100 = .ok (.iinc 9 1, 3) := by decide +kernel
theorem dX0_letForm_103 : decode cX0_letForm 103 = .ok (.goto (-53), 3) := by decide +kernel
theorem dX0_letForm_106 : decode cX0_letForm 106 = .ok (.aload_n 0, 1) := by decide +kernel
theorem dX0_letForm_107 : decode cX0_letForm 107 = .ok (.iload 6, 2) := by decide +kernel
theorem dX0_letForm_109 : decode cX0_letForm 109 = .ok (.iload 4, 2) := by decide +kernel
theorem dX0_letForm_111 : decode cX0_letForm 111 = .ok (.invokevirtual 237, 3) := by decide +kernel
theorem dX0_letForm_114 : decode cX0_letForm 114 = .ok (.aload_n 0, 1) := by decide +kernel
theorem dX0_letForm_115 : decode cX0_letForm 115 = .ok (.aload_n 0, 1) := by decide +kernel
theorem dX0_letForm_116 : decode cX0_letForm 116 = .ok (.getfield 22, 3) := by decide +kernel
theorem dX0_letForm_119 : decode cX0_letForm 119 = .ok (.iload 6, 2) := by decide +kernel
theorem dX0_letForm_121 : decode cX0_letForm 121 = .ok (.invokevirtual 86, 3) := by decide +kernel
theorem dX0_letForm_124 : decode cX0_letForm 124 = .ok (.aload_n 0, 1) := by decide +kernel
theorem dX0_letForm_125 : decode cX0_letForm 125 = .ok (.getfield 22, 3) := by decide +kernel
theorem dX0_letForm_128 : decode cX0_letForm 128 = .ok (.iload_n 1, 1) := by decide +kernel
theorem dX0_letForm_129 : decode cX0_letForm 129 = .ok (.invokevirtual 62, 3) := by decide +kernel
theorem dX0_letForm_132 : decode cX0_letForm 132 = .ok (.iconst 2, 1) := by decide +kernel
theorem dX0_letForm_133 : decode cX0_letForm 133 = .ok (.isub, 1) := by decide +kernel
theorem dX0_letForm_134 : decode cX0_letForm 134 = .ok (.iload_n 2, 1) := by decide +kernel
theorem dX0_letForm_135 : decode cX0_letForm 135 = .ok (.iload_n 3, 1) := by decide +kernel
theorem dX0_letForm_136 : decode cX0_letForm 136 = .ok (.invokevirtual 200, 3) := by decide +kernel
theorem dX0_letForm_139 : decode cX0_letForm 139 = .ok (.aload_n 0, 1) := by decide +kernel
theorem dX0_letForm_140 : decode cX0_letForm 140 = .ok (.iload 5, 2) := by decide +kernel
theorem dX0_letForm_142 : decode cX0_letForm 142 = .ok (.iload 4, 2) := by decide +kernel
theorem dX0_letForm_144 : decode cX0_letForm 144 = .ok (.iload 7, 2) := by decide +kernel
theorem dX0_letForm_146 : decode cX0_letForm 146 = .ok (.iload_n 2, 1) := by decide +kernel
theorem dX0_letForm_147 : decode cX0_letForm 147 = .ok (.invokevirtual 240, 3) := by decide +kernel
theorem dX0_letForm_150 : decode cX0_letForm 150 = .ok (.return_, 1) := by decide +kernel
theorem dX0_letrecForm_0 : decode cX0_letrecForm 0 = .ok (.aload_n 0, 1) := by decide +kernel
theorem dX0_letrecForm_1 : decode cX0_letrecForm 1 = .ok (.getfield 53, 3) := by decide +kernel
theorem dX0_letrecForm_4 : decode cX0_letrecForm 4 = .ok (.istore 4, 2) := by decide +kernel
theorem dX0_letrecForm_6 : decode cX0_letrecForm 6 = .ok (.aload_n 0, 1) := by decide +kernel
theorem dX0_letrecForm_7 : decode cX0_letrecForm 7 = .ok (.getfield 12, 3) := by decide +kernel
theorem dX0_letrecForm_10 : decode cX0_letrecForm 10 = .ok (.invokevirtual 231, 3) := by decide +kernel
theorem dX0_letrecForm_13 : decode cX0_letrecForm 13 = .ok (.istore 5, 2) := by decide +kernel
theorem dX0_letrecForm_15 : decode cX0_letrecForm 15 = .ok (.aload_n 0, 1) := by decide +kernel
theorem dX0_letrecForm_16 : decode cX0_letrecForm 16 = .ok (.getfield 22, 3) := by decide +kernel
theorem dX0_letrecForm_19 : decode cX0_letrecForm 19 = .ok (.iload_n 1, 1) := by decide +kernel
theorem dX0_letrecForm_20 : decode cX0_letrecForm 20 = .ok (.invokevirtual 120, 3) := by decide +kernel
theorem dX0_letrecForm_23 : decode cX0_letrecForm 23 = .ok (.istore 6, 2) := by decide +kernel
theorem dX0_letrecForm_25 : decode cX0_letrecForm 25 = .ok (.aload_n 0, 1) := by decide +kernel
theorem dX0_letrecForm_26 : decode cX0_letrecForm 26 = .ok (.getfield 22, 3) := by decide +kernel
theorem dX0_letrecForm_29 : decode cX0_letrecForm 29 = .ok (.iload 6, 2) := by decide +kernel
theorem dX0_letrecForm_31 : decode cX0_letrecForm 31 = .ok (.invokevirtual 62, 3) := by decide +kernel
theorem dX0_letrecForm_34 : decode cX0_letrecForm 34 = .ok (.istore 7, 2) := by decide +kernel
theorem dX0_letrecForm_36 : decode cX0_letrecForm 36 = .ok (.aload_n 0, 1) := by decide +kernel
theorem dX0_letrecForm_37 : decode cX0_letrecForm 37 = .ok (.getfield 22, 3) := by decide +kernel
theorem dX0_letrecForm_40 : decode cX0_letrecForm 40 = .ok (.iload 6, 2) := by decide +kernel
theorem dX0_letrecForm_42 : decode cX0_letrecForm 42 = .ok (.invokevirtual 69, 3) := by decide +kernel
theorem dX0_letrecForm_45 : decode cX0_letrecForm 45 = .ok (.istore 8, 2) := by decide +kernel
theorem dX0_letrecForm_47 : decode cX0_letrecForm 47 = .ok (.aload_n 0, 1) := by decide +kernel
theorem dX0_letrecForm_48 : decode cX0_letrecForm 48 = .ok (.iload 6, 2) := by decide +kernel
theorem dX0_letrecForm_50 : decode cX0_letrecForm 50 = .ok (.iload 4, 2) := by decide +kernel
theorem dX0_letrecForm_52 : decode cX0_letrecForm 52 = .ok (.invokevirtual 237, 3) := by decide +kernel
theorem dX0_letrecForm_55 : decode cX0_letrecForm 55 = .ok (.aload_n 0, 1) := by decide +kernel
theorem dX0_letrecForm_56 : decode cX0_letrecForm 56 = .ok (.bipush 22, 2) := by decide +kernel
theorem dX0_letrecForm_58 : decode cX0_letrecForm 58 = .ok (.iload 7, 2) := by decide +kernel
theorem dX0_letrecForm_60 : decode cX0_letrecForm 60 = .ok (.iload 7, 2) := by decide +kernel
theorem dX0_letrecForm_62 : decode cX0_letrecForm 62 = .ok (.invokevirtual 82, 3) := by decide +kernel
theorem dX0_letrecForm_65 : decode cX0_letrecForm 65 = .ok (.pop, 1) := by decide +kernel
theorem dX0_letrecForm_66 : decode cX0_letrecForm 66 = .ok (.iconst 0, 1) := by decide +kernel
theorem dX0_letrecForm_67 : decode cX0_letrecForm 67 = .ok (.istore 9, 2) := by decide +kernel
theorem dX0_letrecForm_69 : decode cX0_letrecForm 69 = .ok (.iload 9, 2) := by decide +kernel
theorem dX0_letrecForm_71 : decode cX0_letrecForm 71 = .ok (.iload 7, 2) := by decide +kernel
theorem dX0_letrecForm_73 : decode cX0_letrecForm 73 = .ok (.if_icmp .ge 65, 3) := by decide +kernel
theorem dX0_letrecForm_76 : decode cX0_letrecForm 76 = .ok (.aload_n 0, 1) := by decide +kernel
theorem dX0_letrecForm_77 : decode cX0_letrecForm 77 = .ok (.iload 6, 2) := by decide +kernel
theorem dX0_letrecForm_79 : decode cX0_letrecForm 79 = .ok (.iload 9, 2) := by decide +kernel
theorem dX0_letrecForm_81 : decode cX0_letrecForm 81 = .ok (.aload_n 0, 1) := by decide +kernel
theorem dX0_letrecForm_82 : decode cX0_letrecForm 82 = .ok (.getfield 22, 3) := by decide +kernel
theorem dX0_letrecForm_85 : decode cX0_letrecForm 85 = .ok (.iload 8, 2) := by decide +kernel
theorem dX0_letrecForm_87 : decode cX0_letrecForm 87 = .ok (.invokevirtual 69, 3) := by decide +kernel
theorem dX0_letrecForm_90 : decode cX0_letrecForm 90 = .ok (.invokevirtual 234, 3) := by decide +kernel
theorem dX0_letrecForm_93 : decode cX0_letrecForm 93 = .ok (.aload_n 0, 1) := by decide +kernel
theorem dX0_letrecForm_94 : decode cX0_letrecForm 94 = .ok (.aload_n 0, 1) := by decide +kernel
theorem dX0_letrecForm_95 : decode cX0_letrecForm 95 = .ok (.getfield 22, 3) := by decide +kernel
theorem dX0_letrecForm_98 : decode cX0_letrecForm 98 = .ok (.iload 8, 2) := by decide +kernel
theorem dX0_letrecForm_100 : decode cX0_letrecForm 100 = .ok (.invokevirtual 120, 3) := by decide +kernel
theorem dX0_letrecForm_103 : decode cX0_letrecForm 103 = .ok (.iconst 0, 1) := by decide +kernel
theorem dX0_letrecForm_104 : decode cX0_letrecForm 104 = .ok (.iload_n 3, 1) := by decide +kernel
theorem dX0_letrecForm_105 : decode cX0_letrecForm 105 = .ok (.invokevirtual 78, 3) := by decide +kernel
theorem dX0_letrecForm_108 : decode cX0_letrecForm 108 = .ok (.aload_n 0, 1) := by decide +kernel
theorem dX0_letrecForm_109 : decode cX0_letrecForm 109 = .ok (.bipush 23, 2) := by decide +kernel
theorem dX0_letrecForm_111 : decode cX0_letrecForm 111 = .ok (.iload 4, 2) := by decide +kernel
theorem dX0_letrecForm_113 : decode cX0_letrecForm 113 = .ok (.iload 9, 2) := by decide +kernel
theorem dX0_letrecForm_115 : decode cX0_letrecForm 115 = .ok (.iadd, 1) := by decide +kernel
theorem dX0_letrecForm_116 : decode cX0_letrecForm 116 = .ok (.iconst (-1), 1) := by decide +kernel
theorem dX0_letrecForm_117 : decode cX0_letrecForm 117 = .ok (.invokevirtual 82, 3) := by decide +kernel
theorem dX0_letrecForm_120 : decode cX0_letrecForm 120 = .ok (.pop, 1) := by decide +kernel
theorem dX0_letrecForm_121 : decode cX0_letrecForm 121 = .ok (.aload_n 0, 1) := by decide +kernel
theorem dX0_letrecForm_122 : decode cX0_letrecForm 122 = .ok (.getfield 22, 3) := by decide +kernel
theorem dX0_letrecForm_125 : decode cX0_letrecForm 125 = .ok (.iload 8, 2) := by decide +kernel
theorem dX0_letrecForm_127 : decode cX0_letrecForm 127 = .ok (.invokevirtual 86, 3) := by decide +kernel
theorem dX0_letrecForm_130 : decode cX0_letrecForm 130 = .ok (.istore 8, 2) := by decide +kernel
theorem dX0_letrecForm_132 : decode cX0_letrecForm 132 = .ok (.iinc 9 1, 3) := by decide +kernel
theorem dX0_letrecForm_135 : decode cX0_letrecForm 135 = .ok (.goto (-66), 3) := by decide +kernel
theorem dX0_letrecForm_138 : decode cX0_letrecForm 138 = .ok (.aload_n 0, 1) := by decide +kernel
theorem dX0_letrecForm_139 : decode cX0_letrecForm 139 = .ok (.aload_n 0, 1) := by decide +kernel
theorem dX0_letrecForm_140 : decode cX0_letrecForm 140 = .ok (.getfield 22, 3) := by decide +kernel
theorem dX0_letrecForm_143 : decode cX0_letrecForm 143 = .ok (.iload 6, 2) := by decide +kernel
theorem dX0_letrecForm_145 : decode cX0_letrecForm 145 = .ok (.invokevirtual 86, 3) := by decide +kernel
theorem dX0_letrecForm_148 : decode cX0_letrecForm 148 = .ok (.aload_n 0, 1) := by decide +kernel
theorem dX0_letrecForm_149 : decode cX0_letrecForm 149 = .ok (.getfield 22, 3) := by decide +kernel
theorem dX0_letrecForm_152 : decode cX0_letrecForm 152 = .ok (.iload_n 1, 1) := by decide +kernel
theorem dX0_letrecForm_153 : decode cX0_letrecForm 153 = .ok (.invokevirtual 62, 3) := by decide +kernel
theorem dX0_letrecForm_156 : decode cX0_letrecForm 156 = .ok (.iconst 2, 1) := by decide +kernel
theorem dX0_letrecForm_157 : decode cX0_letrecForm 157 = .ok (.isub, 1) := by decide +kernel
theorem dX0_letrecForm_158 : decode cX0_letrecForm 158 = .ok (.iload_n 2, 1) := by decide +kernel
theorem dX0_letrecForm_159 : decode cX0_letrecForm 159 = .ok (.iload_n 3, 1) := by decide +kernel
theorem dX0_letrecForm_160 : decode cX0_letrecForm 160 = .ok (.invokevirtual 200, 3) := by decide +kernel
theorem dX0_letrecForm_163 : decode cX0_letrecForm 163 = .ok (.aload_n 0, 1) := by decide +kernel
theorem dX0_letrecForm_164 : decode cX0_letrecForm 164 = .ok (.iload 5, 2) := by decide +kernel
theorem dX0_letrecForm_166 : decode cX0_letrecForm 166 = .ok (.iload 4, 2) := by decide +kernel
theorem dX0_letrecForm_168 : decode cX0_letrecForm 168 = .ok (.iload 7, 2) := by decide +kernel
theorem dX0_letrecForm_170 : decode cX0_letrecForm 170 = .ok (.iload_n 2, 1) := by decide +kernel
theorem dX0_letrecForm_171 : decode cX0_letrecForm 171 = .ok (.invokevirtual 240, 3) := by decide +kernel
theorem dX0_letrecForm_174 : decode cX0_letrecForm 174 = .ok (.return_, 1) := by decide +kernel
theorem dX0_bindPairs_0 : decode cX0_bindPairs 0 = .ok (.aload_n 0, 1) := by decide +kernel
theorem dX0_bindPairs_1 : decode cX0_bindPairs 1 = .ok (.getfield 22, 3) := by decide +kernel
theorem dX0_bindPairs_4 : decode cX0_bindPairs 4 = .ok (.iload_n 1, 1) := by decide +kernel
theorem dX0_bindPairs_5 : decode cX0_bindPairs 5 = .ok (.invokevirtual 69, 3) := by decide +kernel
theorem dX0_bindPairs_8 : decode cX0_bindPairs 8 = .ok (.istore_n 3, 1) := by decide +kernel
theorem dX0_bindPairs_9 : decode cX0_bindPairs 9 = .ok (.iconst 0, 1) := by decide +kernel
theorem dX0_bindPairs_10 : decode cX0_bindPairs 10 = .ok (.istore 4, 2) := by decide +kernel
theorem dX0_bindPairs_12 : decode cX0_bindPairs 12 = .ok (.iload 4, 2) := by decide +kernel
theorem dX0_bindPairs_14 : decode cX0_bindPairs 14 = .ok (.aload_n 0, 1) := by decide +kernel
theorem dX0_bindPairs_15 : decode cX0_bindPairs 15 = .ok (.getfield 22, 3) := by decide +kernel
theorem dX0_bindPairs_18 : decode cX0_bindPairs 18 = .ok (.iload_n 1, 1) := by decide +kernel
theorem dX0_bindPairs_19 : decode cX0_bindPairs 19 = .ok (.invokevirtual 62, 3) := by decide +kernel
theorem dX0_bindPairs_22 : decode cX0_bindPairs 22 = .ok (.if_icmp .ge 44, 3) := by decide +kernel
theorem dX0_bindPairs_25 : decode cX0_bindPairs 25 = .ok (.aload_n 0, 1) := by decide +kernel
theorem dX0_bindPairs_26 : decode cX0_bindPairs 26 = .ok (.getfield 12, 3) := by decide +kernel
theorem dX0_bindPairs_29 : decode cX0_bindPairs 29 = .ok (.aload_n 0, 1) := by decide +kernel
theorem dX0_bindPairs_30 : decode cX0_bindPairs 30 = .ok (.getfield 22, 3) := by decide +kernel
theorem dX0_bindPairs_33 : decode cX0_bindPairs 33 = .ok (.aload_n 0, 1) := by decide +kernel
theorem dX0_bindPairs_34 : decode cX0_bindPairs 34 = .ok (.getfield 22, 3) := by decide +kernel
theorem dX0_bindPairs_37 : decode cX0_bindPairs 37 = .ok (.iload_n 3, 1) := by decide +kernel
theorem dX0_bindPairs_38 : decode cX0_bindPairs 38 = .ok (.invokevirtual 69, 3) := by decide +kernel
theorem dX0_bindPairs_41 : decode cX0_bindPairs 41 = .ok (.invokevirtual 123, 3) := by decide +kernel
theorem dX0_bindPairs_44 : decode cX0_bindPairs 44 = .ok (.iload_n 2, 1) := by decide +kernel
theorem dX0_bindPairs_45 : decode cX0_bindPairs 45 = .ok (.iload 4, 2) := by decide +kernel
theorem dX0_bindPairs_47 : decode cX0_bindPairs 47 = .ok (.iadd, 1) := by decide +kernel
theorem dX0_bindPairs_48 : decode cX0_bindPairs 48 = .ok (.invokevirtual 244, 3) := by decide +kernel
theorem dX0_bindPairs_51 : decode cX0_bindPairs 51 = .ok (.aload_n 0, 1) := by decide +kernel
theorem dX0_bindPairs_52 : decode cX0_bindPairs 52 = .ok (.getfield 22, 3) := by decide +kernel
theorem dX0_bindPairs_55 : decode cX0_bindPairs 55 = .ok (.iload_n 3, 1) := by decide +kernel
theorem dX0_bindPairs_56 : decode cX0_bindPairs 56 = .ok (.invokevirtual 86, 3) := by decide +kernel
theorem dX0_bindPairs_59 : decode cX0_bindPairs 59 = .ok (.istore_n 3, 1) := by decide +kernel
theorem dX0_bindPairs_60 : decode cX0_bindPairs 60 = .ok (.iinc 4 1, 3) := by decide +kernel
theorem dX0_bindPairs_63 : decode cX0_bindPairs 63 = .ok (.goto (-51), 3) := by decide +kernel
theorem dX0_bindPairs_66 : decode cX0_bindPairs 66 = .ok (.return_, 1) := by decide +kernel
theorem dX0_leaveBindings_0 : decode cX0_leaveBindings 0 = .ok (.aload_n 0, 1) := by decide +kernel
theorem dX0_leaveBindings_1 : decode cX0_leaveBindings 1 = .ok (.getfield 12, 3) := by decide +kernel
theorem dX0_leaveBindings_4 : decode cX0_leaveBindings 4 = .ok (.iload_n 1, 1) := by decide +kernel
theorem dX0_leaveBindings_5 : decode cX0_leaveBindings 5 = .ok (.invokevirtual 247, 3) := by decide +kernel
theorem dX0_leaveBindings_8 : decode cX0_leaveBindings 8 = .ok (.iload 4, 2) := by decide +kernel
theorem dX0_leaveBindings_10 : decode cX0_leaveBindings 10 = .ok (.ifCond .ne 12, 3) := by decide +kernel
theorem dX0_leaveBindings_13 : decode cX0_leaveBindings 13 = .ok (.aload_n 0, 1) := by decide +kernel
theorem dX0_leaveBindings_14 : decode cX0_leaveBindings 14 = .ok (.bipush 31, 2) := by decide +kernel
theorem dX0_leaveBindings_16 : decode cX0_leaveBindings 16 = .ok (.iload_n 3, 1) := by decide +kernel
theorem dX0_leaveBindings_17 : decode cX0_leaveBindings 17 = .ok (.iconst 0, 1) := by decide +kernel
theorem dX0_leaveBindings_18 : decode cX0_leaveBindings 18 = .ok (.invokevirtual 82, 3) := by decide +kernel
theorem dX0_leaveBindings_21 : decode cX0_leaveBindings 21 = .ok (.pop, 1) := by decide +kernel
theorem dX0_leaveBindings_22 : decode cX0_leaveBindings 22 = .ok (.aload_n 0, 1) := by decide +kernel
theorem dX0_leaveBindings_23 : decode cX0_leaveBindings 23 = .ok (.iload_n 2, 1) := by decide +kernel
theorem dX0_leaveBindings_24 : decode cX0_leaveBindings 24 = .ok (.iconst 1, 1) := by decide +kernel
theorem dX0_leaveBindings_25 : decode cX0_leaveBindings 25 = .ok (.iadd, 1) := by decide +kernel
theorem dX0_leaveBindings_26 : decode cX0_leaveBindings 26 = .ok (.putfield 53, 3) := by decide +kernel
theorem dX0_leaveBindings_29 : decode cX0_leaveBindings 29 = .ok (.return_, 1) := by decide +kernel
theorem dX0_lambdaForm_0 : decode cX0_lambdaForm 0 = .ok (.aload_n 0, 1) := by decide +kernel
theorem dX0_lambdaForm_1 : decode cX0_lambdaForm 1 = .ok (.getfield 22, 3) := by decide +kernel
theorem dX0_lambdaForm_4 : decode cX0_lambdaForm 4 = .ok (.iload_n 1, 1) := by decide +kernel
theorem dX0_lambdaForm_5 : decode cX0_lambdaForm 5 = .ok (.invokevirtual 120, 3) := by decide +kernel
theorem dX0_lambdaForm_8 : decode cX0_lambdaForm 8 = .ok (.istore 4, 2) := by decide +kernel
theorem dX0_lambdaForm_10 : decode cX0_lambdaForm 10 = .ok (.aload_n 0, 1) := by decide +kernel
theorem dX0_lambdaForm_11 : decode cX0_lambdaForm 11 = .ok (.getfield 22, 3) := by decide +kernel
theorem dX0_lambdaForm_14 : decode cX0_lambdaForm 14 = .ok (.iload 4, 2) := by decide +kernel
theorem dX0_lambdaForm_16 : decode cX0_lambdaForm 16 = .ok (.invokevirtual 62, 3) := by decide +kernel
theorem dX0_lambdaForm_19 : decode cX0_lambdaForm 19 = .ok (.istore 5, 2) := by decide +kernel
theorem dX0_lambdaForm_21 : decode cX0_lambdaForm 21 = .ok (.aload_n 0, 1) := by decide +kernel
theorem dX0_lambdaForm_22 : decode cX0_lambdaForm 22 = .ok (.getfield 30, 3) := by decide +kernel
theorem dX0_lambdaForm_25 : decode cX0_lambdaForm 25 = .ok (.iload 5, 2) := by decide +kernel
theorem dX0_lambdaForm_27 : decode cX0_lambdaForm 27 = .ok (.invokevirtual 250, 3) := by decide +kernel
theorem dX0_lambdaForm_30 : decode cX0_lambdaForm 30 = .ok (.istore 6, 2) := by decide +kernel
theorem dX0_lambdaForm_32 : decode cX0_lambdaForm 32 = .ok (.iload 6, 2) := by decide +kernel
theorem dX0_lambdaForm_34 : decode cX0_lambdaForm 34 = .ok (.iconst (-1), 1) := by decide +kernel
theorem dX0_lambdaForm_35 : decode cX0_lambdaForm 35 = .ok (.if_icmp .ne 11, 3) := by decide +kernel
theorem dX0_lambdaForm_38 : decode cX0_lambdaForm 38 = .ok (.aload_n 0, 1) := by decide +kernel
theorem dX0_lambdaForm_39 : decode cX0_lambdaForm 39 = .ok (.bipush 6, 2) := by decide +kernel
theorem dX0_lambdaForm_41 : decode cX0_lambdaForm 41 = .ok (.iload_n 1, 1) := by decide +kernel
theorem dX0_lambdaForm_42 : decode cX0_lambdaForm 42 = .ok (.invokevirtual 145, 3) := by decide +kernel
theorem dX0_lambdaForm_45 : decode cX0_lambdaForm 45 = .ok (.return_, 1) := by decide +kernel
theorem dX0_lambdaForm_46 : decode cX0_lambdaForm 46 = .ok (.aload_n 0, 1) := by decide +kernel
theorem dX0_lambdaForm_47 : decode cX0_lambdaForm 47 = .ok (.bipush 25, 2) := by decide +kernel
theorem dX0_lambdaForm_49 : decode cX0_lambdaForm 49 = .ok (.iload 6, 2) := by decide +kernel
theorem dX0_lambdaForm_51 : decode cX0_lambdaForm 51 = .ok (.iconst 1, 1) := by decide +kernel
theorem dX0_lambdaForm_52 : decode cX0_lambdaForm 52 = .ok (.invokevirtual 82, 3) := by decide +kernel
theorem dX0_lambdaForm_55 : decode cX0_lambdaForm 55 = .ok (.pop, 1) := by decide +kernel
theorem dX0_lambdaForm_56 : decode cX0_lambdaForm 56 = .ok (.aload_n 0, 1) := by decide +kernel
theorem dX0_lambdaForm_57 : decode cX0_lambdaForm 57 = .ok (.bipush 26, 2) := by decide +kernel
theorem dX0_lambdaForm_59 : decode cX0_lambdaForm 59 = .ok (.iconst 0, 1) := by decide +kernel
theorem dX0_lambdaForm_60 : decode cX0_lambdaForm 60 = .ok (.iconst 0, 1) := by decide +kernel
theorem dX0_lambdaForm_61 : decode cX0_lambdaForm 61 = .ok (.invokevirtual 82, 3) := by decide +kernel
theorem dX0_lambdaForm_64 : decode cX0_lambdaForm 64 = .ok (.istore 7, 2) := by decide +kernel
theorem dX0_lambdaForm_66 : decode cX0_lambdaForm 66 = .ok (.aload_n 0, 1) := by decide +kernel
theorem dX0_lambdaForm_67 : decode cX0_lambdaForm 67 = .ok (.getfield 53, 3) := by decide +kernel
theorem dX0_lambdaForm_70 : decode cX0_lambdaForm 70 = .ok (.istore 8, 2) := by decide +kernel
theorem dX0_lambdaForm_72 : decode cX0_lambdaForm 72 = .ok (.aload_n 0, 1) := by decide +kernel
theorem dX0_lambdaForm_73 : decode cX0_lambdaForm 73 = .ok (.getfield 56, 3) := by decide +kernel
theorem dX0_lambdaForm_76 : decode cX0_lambdaForm 76 = .ok (.istore 9, 2) := by decide +kernel
theorem dX0_lambdaForm_78 : decode cX0_lambdaForm 78 = .ok (.aload_n 0, 1) := by decide +kernel
theorem dX0_lambdaForm_79 : decode cX0_lambdaForm 79 = .ok (.getfield 12, 3) := by decide +kernel
theorem dX0_lambdaForm_82 : decode cX0_lambdaForm 82 = .ok (.invokevirtual 231, 3) := by decide +kernel
theorem dX0_lambdaForm_85 : decode cX0_lambdaForm 85 = .ok (.istore 10, 2) := by decide +kernel
theorem dX0_lambdaForm_87 : decode cX0_lambdaForm 87 = .ok (.aload_n 0, 1) := by decide +kernel
theorem dX0_lambdaForm_88 : decode cX0_lambdaForm 88 = .ok (.getfield 12, 3) := by decide +kernel
theorem dX0_lambdaForm_91 : decode cX0_lambdaForm 91 = .ok (.invokevirtual 253, 3) := by decide +kernel
theorem dX0_lambdaForm_94 : decode cX0_lambdaForm 94 = .ok (.aload_n 0, 1) := by decide +kernel
theorem dX0_lambdaForm_95 : decode cX0_lambdaForm 95 = .ok (.iload 4, 2) := by decide +kernel
theorem dX0_lambdaForm_97 : decode cX0_lambdaForm 97 = .ok (.invokevirtual 256, 3) := by decide +kernel
theorem dX0_lambdaForm_100 : decode cX0_lambdaForm 100 = .ok (.aload_n 0, 1) := by decide +kernel
theorem dX0_lambdaForm_101 : decode cX0_lambdaForm 101 = .ok (.iload 5, 2) := by decide +kernel
theorem dX0_lambdaForm_103 : decode cX0_lambdaForm 103 = .ok (.putfield 53, 3) := by decide +kernel
theorem dX0_lambdaForm_106 : decode cX0_lambdaForm 106 = .ok (.aload_n 0, 1) := by decide +kernel
theorem dX0_lambdaForm_107 : decode cX0_lambdaForm 107 = .ok (.iload 5, 2) := by decide +kernel
theorem dX0_lambdaForm_109 : decode cX0_lambdaForm 109 = .ok (.putfield 56, 3) := by decide +kernel
theorem dX0_lambdaForm_112 : decode cX0_lambdaForm 112 = .ok (.aload_n 0, 1) := by decide +kernel
theorem dX0_lambdaForm_113 : decode cX0_lambdaForm 113 = .ok (.aload_n 0, 1) := by decide +kernel
theorem dX0_lambdaForm_114 : decode cX0_lambdaForm 114 = .ok (.getfield 22, 3) := by decide +kernel
theorem dX0_lambdaForm_117 : decode cX0_lambdaForm 117 = .ok (.iload 4, 2) := by decide +kernel
theorem dX0_lambdaForm_119 : decode cX0_lambdaForm 119 = .ok (.invokevirtual 86, 3) := by decide +kernel
theorem dX0_lambdaForm_122 : decode cX0_lambdaForm 122 = .ok (.aload_n 0, 1) := by decide +kernel
theorem dX0_lambdaForm_123 : decode cX0_lambdaForm 123 = .ok (.getfield 22, 3) := by decide +kernel
theorem dX0_lambdaForm_126 : decode cX0_lambdaForm 126 = .ok (.iload_n 1, 1) := by decide +kernel
theorem dX0_lambdaForm_127 : decode cX0_lambdaForm 127 = .ok (.invokevirtual 62, 3) := by decide +kernel
theorem dX0_lambdaForm_130 : decode cX0_lambdaForm 130 = .ok (.iconst 2, 1) := by decide +kernel
theorem dX0_lambdaForm_131 : decode cX0_lambdaForm 131 = .ok (.isub, 1) := by decide +kernel
theorem dX0_lambdaForm_132 : decode cX0_lambdaForm 132 = .ok (.iconst 1, 1) := by decide +kernel
theorem dX0_lambdaForm_133 : decode cX0_lambdaForm 133 = .ok (.iload_n 3, 1) := by decide +kernel
theorem dX0_lambdaForm_134 : decode cX0_lambdaForm 134 = .ok (.invokevirtual 200, 3) := by decide +kernel
theorem dX0_lambdaForm_137 : decode cX0_lambdaForm 137 = .ok (.aload_n 0, 1) := by decide +kernel
theorem dX0_lambdaForm_138 : decode cX0_lambdaForm 138 = .ok (.getfield 30, 3) := by decide +kernel
theorem dX0_lambdaForm_141 : decode cX0_lambdaForm 141 = .ok (.iload 6, 2) := by decide +kernel
theorem dX0_lambdaForm_143 : decode cX0_lambdaForm 143 = .ok (.iload 7, 2) := by decide +kernel
theorem dX0_lambdaForm_145 : decode cX0_lambdaForm 145 = .ok (.iconst 1, 1) := by decide +kernel
theorem dX0_lambdaForm_146 : decode cX0_lambdaForm 146 = .ok (.iadd, 1) := by decide +kernel
theorem dX0_lambdaForm_147 : decode cX0_lambdaForm 147 = .ok (.aload_n 0, 1) := by decide +kernel
theorem dX0_lambdaForm_148 : decode cX0_lambdaForm 148 = .ok (.getfield 56, 3) := by decide +kernel
theorem dX0_lambdaForm_151 : decode cX0_lambdaForm 151 = .ok (.aload_n 0, 1) := by decide +kernel
theorem dX0_lambdaForm_152 : decode cX0_lambdaForm 152 = .ok (.getfield 12, 3) := by decide +kernel
theorem dX0_lambdaForm_155 : decode cX0_lambdaForm 155 = .ok (.invokevirtual 259, 3) := by decide +kernel
theorem dX0_lambdaForm_158 : decode cX0_lambdaForm 158 = .ok (.aload_n 0, 1) := by decide +kernel
theorem dX0_lambdaForm_159 : decode cX0_lambdaForm 159 = .ok (.getfield 12, 3) := by decide +kernel
theorem dX0_lambdaForm_162 : decode cX0_lambdaForm 162 = .ok (.invokevirtual 263, 3) := by decide +kernel
theorem dX0_lambdaForm_165 : decode cX0_lambdaForm 165 = .ok (.aload_n 0, 1) := by decide +kernel
theorem dX0_lambdaForm_166 : decode cX0_lambdaForm 166 = .ok (.getfield 12, 3) := by decide +kernel
theorem dX0_lambdaForm_169 : decode cX0_lambdaForm 169 = .ok (.iload 10, 2) := by decide +kernel
theorem dX0_lambdaForm_171 : decode cX0_lambdaForm 171 = .ok (.invokevirtual 247, 3) := by decide +kernel
theorem dX0_lambdaForm_174 : decode cX0_lambdaForm 174 = .ok (.aload_n 0, 1) := by decide +kernel
theorem dX0_lambdaForm_175 : decode cX0_lambdaForm 175 = .ok (.iload 8, 2) := by decide +kernel
theorem dX0_lambdaForm_177 : decode cX0_lambdaForm 177 = .ok (.putfield 53, 3) := by decide +kernel
theorem dX0_lambdaForm_180 : decode cX0_lambdaForm 180 = .ok (.aload_n 0, 1) := by decide +kernel
theorem dX0_lambdaForm_181 : decode cX0_lambdaForm 181 = .ok (.iload 9, 2) := by decide +kernel
theorem dX0_lambdaForm_183 : decode cX0_lambdaForm 183 = .ok (.putfield 56, 3) := by decide +kernel
theorem dX0_lambdaForm_186 : decode cX0_lambdaForm 186 = .ok (.aload_n 0, 1) := by decide +kernel
theorem dX0_lambdaForm_187 : decode cX0_lambdaForm 187 = .ok (.getfield 30, 3) := by decide +kernel
theorem dX0_lambdaForm_190 : decode cX0_lambdaForm 190 = .ok (.iload 7, 2) := by decide +kernel
theorem dX0_lambdaForm_192 : decode cX0_lambdaForm 192 = .ok (.invokevirtual 228, 3) := by decide +kernel
theorem dX0_lambdaForm_195 : decode cX0_lambdaForm 195 = .ok (.pop, 1) := by decide +kernel
theorem dX0_lambdaForm_196 : decode cX0_lambdaForm 196 = .ok (.aload_n 0, 1) := by decide +kernel
theorem dX0_lambdaForm_197 : decode cX0_lambdaForm 197 = .ok (.iload_n 2, 1) := by decide +kernel
theorem dX0_lambdaForm_198 : decode cX0_lambdaForm 198 = .ok (.invokevirtual 165, 3) := by decide +kernel
theorem dX0_lambdaForm_201 : decode cX0_lambdaForm 201 = .ok (.return_, 1) := by decide +kernel
theorem dX0_bindNames_0 : decode cX0_bindNames 0 = .ok (.aload_n 0, 1) := by decide +kernel
theorem dX0_bindNames_1 : decode cX0_bindNames 1 = .ok (.getfield 22, 3) := by decide +kernel
theorem dX0_bindNames_4 : decode cX0_bindNames 4 = .ok (.iload_n 1, 1) := by decide +kernel
theorem dX0_bindNames_5 : decode cX0_bindNames 5 = .ok (.invokevirtual 69, 3) := by decide +kernel
theorem dX0_bindNames_8 : decode cX0_bindNames 8 = .ok (.istore_n 2, 1) := by decide +kernel
theorem dX0_bindNames_9 : decode cX0_bindNames 9 = .ok (.iconst 0, 1) := by decide +kernel
theorem dX0_bindNames_10 : decode cX0_bindNames 10 = .ok (.istore_n 3, 1) := by decide +kernel
theorem dX0_bindNames_11 : decode cX0_bindNames 11 = .ok (.iload_n 3, 1) := by decide +kernel
theorem dX0_bindNames_12 : decode cX0_bindNames 12 = .ok (.aload_n 0, 1) := by decide +kernel
theorem dX0_bindNames_13 : decode cX0_bindNames 13 = .ok (.getfield 22, 3) := by decide +kernel
theorem dX0_bindNames_16 : decode cX0_bindNames 16 = .ok (.iload_n 1, 1) := by decide +kernel
theorem dX0_bindNames_17 : decode cX0_bindNames 17 = .ok (.invokevirtual 62, 3) := by decide +kernel
theorem dX0_bindNames_20 : decode cX0_bindNames 20 = .ok (.if_icmp .ge 41, 3) := by decide +kernel
theorem dX0_bindNames_23 : decode cX0_bindNames 23 = .ok (.aload_n 0, 1) := by decide +kernel
theorem dX0_bindNames_24 : decode cX0_bindNames 24 = .ok (.iload_n 1, 1) := by decide +kernel
theorem dX0_bindNames_25 : decode cX0_bindNames 25 = .ok (.iload_n 3, 1) := by decide +kernel
theorem dX0_bindNames_26 : decode cX0_bindNames 26 = .ok (.iload_n 2, 1) := by decide +kernel
theorem dX0_bindNames_27 : decode cX0_bindNames 27 = .ok (.invokevirtual 234, 3) := by decide +kernel
theorem dX0_bindNames_30 : decode cX0_bindNames 30 = .ok (.aload_n 0, 1) := by decide +kernel
theorem dX0_bindNames_31 : decode cX0_bindNames 31 = .ok (.getfield 12, 3) := by decide +kernel
theorem dX0_bindNames_34 : decode cX0_bindNames 34 = .ok (.aload_n 0, 1) := by decide +kernel
theorem dX0_bindNames_35 : decode cX0_bindNames 35 = .ok (.getfield 22, 3) := by decide +kernel
theorem dX0_bindNames_38 : decode cX0_bindNames 38 = .ok (.iload_n 2, 1) := by decide +kernel
theorem dX0_bindNames_39 : decode cX0_bindNames 39 = .ok (.invokevirtual 123, 3) := by decide +kernel
theorem dX0_bindNames_42 : decode cX0_bindNames 42 = .ok (.iload_n 3, 1) := by decide +kernel
theorem dX0_bindNames_43 : decode cX0_bindNames 43 = .ok (.invokevirtual 244, 3) := by decide +kernel
theorem dX0_bindNames_46 : decode cX0_bindNames 46 = .ok (.aload_n 0, 1) := by decide +kernel
theorem dX0_bindNames_47 : decode cX0_bindNames 47 = .ok (.getfield 22, 3) := by decide +kernel
theorem dX0_bindNames_50 : decode cX0_bindNames 50 = .ok (.iload_n 2, 1) := by decide +kernel
theorem dX0_bindNames_51 : decode cX0_bindNames 51 = .ok (.invokevirtual 86, 3) := by decide +kernel
theorem dX0_bindNames_54 : decode cX0_bindNames 54 = .ok (.istore_n 2, 1) := by decide +kernel
theorem dX0_bindNames_55 : decode cX0_bindNames 55 = .ok (.iinc 3 1, 3) := by decide +kernel
theorem dX0_bindNames_58 : decode cX0_bindNames 58 = .ok (.goto (-47), 3) := by decide +kernel
theorem dX0_bindNames_61 : decode cX0_bindNames 61 = .ok (.return_, 1) := by decide +kernel
theorem dX0_setForm_0 : decode cX0_setForm 0 = .ok (.aload_n 0, 1) := by decide +kernel
theorem dX0_setForm_1 : decode cX0_setForm 1 = .ok (.getfield 22, 3) := by decide +kernel
theorem dX0_setForm_4 : decode cX0_setForm 4 = .ok (.iload_n 1, 1) := by decide +kernel
theorem dX0_setForm_5 : decode cX0_setForm 5 = .ok (.invokevirtual 120, 3) := by decide +kernel
theorem dX0_setForm_8 : decode cX0_setForm 8 = .ok (.istore 4, 2) := by decide +kernel
theorem dX0_setForm_10 : decode cX0_setForm 10 = .ok (.aload_n 0, 1) := by decide +kernel
theorem dX0_setForm_11 : decode cX0_setForm 11 = .ok (.getfield 22, 3) := by decide +kernel
theorem dX0_setForm_14 : decode cX0_setForm 14 = .ok (.iload 4, 2) := by decide +kernel
theorem dX0_setForm_16 : decode cX0_setForm 16 = .ok (.invokevirtual 123, 3) := by decide +kernel
theorem dX0_setForm_19 : decode cX0_setForm 19 = .ok (.istore 5, 2) := by decide +kernel
theorem dX0_setForm_21 : decode cX0_setForm 21 = .ok (.iload 5, 2) := by decide +kernel
theorem dX0_setForm_23 : decode cX0_setForm 23 = .ok (.bipush 30, 2) := by decide +kernel
theorem dX0_setForm_25 : decode cX0_setForm 25 = .ok (.if_icmp .ge 13, 3) := by decide +kernel
theorem dX0_setForm_28 : decode cX0_setForm 28 = .ok (.aload_n 0, 1) := by decide +kernel
theorem dX0_setForm_29 : decode cX0_setForm 29 = .ok (.iconst 5, 1) := by decide +kernel
theorem dX0_setForm_30 : decode cX0_setForm 30 = .ok (.iload 4, 2) := by decide +kernel
theorem dX0_setForm_32 : decode cX0_setForm 32 = .ok (.invokevirtual 145, 3) := by decide +kernel
theorem dX0_setForm_35 : decode cX0_setForm 35 = .ok (.goto 19, 3) := by decide +kernel
theorem dX0_setForm_38 : decode cX0_setForm 38 = .ok (.aload_n 0, 1) := by decide +kernel
theorem dX0_setForm_39 : decode cX0_setForm 39 = .ok (.iload 5, 2) := by decide +kernel
theorem dX0_setForm_41 : decode cX0_setForm 41 = .ok (.invokevirtual 169, 3) := by decide +kernel
theorem dX0_setForm_44 : decode cX0_setForm 44 = .ok (.ifCond .ne 10, 3) := by decide +kernel
theorem dX0_setForm_47 : decode cX0_setForm 47 = .ok (.aload_n 0, 1) := by decide +kernel
theorem dX0_setForm_48 : decode cX0_setForm 48 = .ok (.iconst 4, 1) := by decide +kernel
theorem dX0_setForm_49 : decode cX0_setForm 49 = .ok (.iload 4, 2) := by decide +kernel
theorem dX0_setForm_51 : decode cX0_setForm 51 = .ok (.invokevirtual 145, 3) := by decide +kernel
theorem dX0_setForm_54 : decode cX0_setForm 54 = .ok (.aload_n 0, 1) := by decide +kernel
theorem dX0_setForm_55 : decode cX0_setForm 55 = .ok (.aload_n 0, 1) := by decide +kernel
theorem dX0_setForm_56 : decode cX0_setForm 56 = .ok (.getfield 22, 3) := by decide +kernel
theorem dX0_setForm_59 : decode cX0_setForm 59 = .ok (.iload 4, 2) := by decide +kernel
theorem dX0_setForm_61 : decode cX0_setForm 61 = .ok (.invokevirtual 86, 3) := by decide +kernel
theorem dX0_setForm_64 : decode cX0_setForm 64 = .ok (.iconst 0, 1) := by decide +kernel
theorem dX0_setForm_65 : decode cX0_setForm 65 = .ok (.iload_n 3, 1) := by decide +kernel
theorem dX0_setForm_66 : decode cX0_setForm 66 = .ok (.invokevirtual 78, 3) := by decide +kernel
theorem dX0_setForm_69 : decode cX0_setForm 69 = .ok (.aload_n 0, 1) := by decide +kernel
theorem dX0_setForm_70 : decode cX0_setForm 70 = .ok (.getfield 26, 3) := by decide +kernel
theorem dX0_setForm_73 : decode cX0_setForm 73 = .ok (.invokevirtual 72, 3) := by decide +kernel
theorem dX0_setForm_76 : decode cX0_setForm 76 = .ok (.ifCond .eq 12, 3) := by decide +kernel
theorem dX0_setForm_79 : decode cX0_setForm 79 = .ok (.aload_n 0, 1) := by decide +kernel
theorem dX0_setForm_80 : decode cX0_setForm 80 = .ok (.iload 5, 2) := by decide +kernel
theorem dX0_setForm_82 : decode cX0_setForm 82 = .ok (.bipush 19, 2) := by decide +kernel
theorem dX0_setForm_84 : decode cX0_setForm 84 = .ok (.iconst 0, 1) := by decide +kernel
theorem dX0_setForm_85 : decode cX0_setForm 85 = .ok (.invokevirtual 172, 3) := by decide +kernel
theorem dX0_setForm_88 : decode cX0_setForm 88 = .ok (.aload_n 0, 1) := by decide +kernel
theorem dX0_setForm_89 : decode cX0_setForm 89 = .ok (.iload_n 2, 1) := by decide +kernel
theorem dX0_setForm_90 : decode cX0_setForm 90 = .ok (.invokevirtual 165, 3) := by decide +kernel
theorem dX0_setForm_93 : decode cX0_setForm 93 = .ok (.return_, 1) := by decide +kernel
theorem dX0_defineForm_0 : decode cX0_defineForm 0 = .ok (.aload_n 0, 1) := by decide +kernel
theorem dX0_defineForm_1 : decode cX0_defineForm 1 = .ok (.getfield 22, 3) := by decide +kernel
theorem dX0_defineForm_4 : decode cX0_defineForm 4 = .ok (.iload_n 1, 1) := by decide +kernel
theorem dX0_defineForm_5 : decode cX0_defineForm 5 = .ok (.invokevirtual 120, 3) := by decide +kernel
theorem dX0_defineForm_8 : decode cX0_defineForm 8 = .ok (.istore_n 3, 1) := by decide +kernel
theorem dX0_defineForm_9 : decode cX0_defineForm 9 = .ok (.aload_n 0, 1) := by decide +kernel
theorem dX0_defineForm_10 : decode cX0_defineForm 10 = .ok (.getfield 22, 3) := by decide +kernel
theorem dX0_defineForm_13 : decode cX0_defineForm 13 = .ok (.iload_n 3, 1) := by decide +kernel
theorem dX0_defineForm_14 : decode cX0_defineForm 14 = .ok (.invokevirtual 123, 3) := by decide +kernel
theorem dX0_defineForm_17 : decode cX0_defineForm 17 = .ok (.istore 4, 2) := by decide +kernel
theorem dX0_defineForm_19 : decode cX0_defineForm 19 = .ok (.iload 4, 2) := by decide +kernel
theorem dX0_defineForm_21 : decode cX0_defineForm 21 = .ok (.bipush 30, 2) := by decide +kernel
theorem dX0_defineForm_23 : decode cX0_defineForm 23 = .ok (.if_icmp .ge 12, 3) := by decide +kernel
theorem dX0_defineForm_26 : decode cX0_defineForm 26 = .ok (.aload_n 0, 1) := by decide +kernel
theorem dX0_defineForm_27 : decode cX0_defineForm 27 = .ok (.iconst 5, 1) := by decide +kernel
theorem dX0_defineForm_28 : decode cX0_defineForm 28 = .ok (.iload_n 3, 1) := by decide +kernel
theorem dX0_defineForm_29 : decode cX0_defineForm 29 = .ok (.invokevirtual 145, 3) := by decide +kernel
theorem dX0_defineForm_32 : decode cX0_defineForm 32 = .ok (.goto 21, 3) := by decide +kernel
theorem dX0_defineForm_35 : decode cX0_defineForm 35 = .ok (.aload_n 0, 1) := by decide +kernel
theorem dX0_defineForm_36 : decode cX0_defineForm 36 = .ok (.iload 4, 2) := by decide +kernel
theorem dX0_defineForm_38 : decode cX0_defineForm 38 = .ok (.invokevirtual 179, 3) := by decide +kernel
theorem dX0_defineForm_41 : decode cX0_defineForm 41 = .ok (.bipush 100, 2) := by decide +kernel
theorem dX0_defineForm_43 : decode cX0_defineForm 43 = .ok (.if_icmp .lt 10, 3) := by decide +kernel
theorem dX0_defineForm_46 : decode cX0_defineForm 46 = .ok (.aload_n 0, 1) := by decide +kernel
theorem dX0_defineForm_47 : decode cX0_defineForm 47 = .ok (.bipush 6, 2) := by decide +kernel
theorem dX0_defineForm_49 : decode cX0_defineForm 49 = .ok (.iload_n 3, 1) := by decide +kernel
theorem dX0_defineForm_50 : decode cX0_defineForm 50 = .ok (.invokevirtual 145, 3) := by decide +kernel
theorem dX0_defineForm_53 : decode cX0_defineForm 53 = .ok (.aload_n 0, 1) := by decide +kernel
theorem dX0_defineForm_54 : decode cX0_defineForm 54 = .ok (.aload_n 0, 1) := by decide +kernel
theorem dX0_defineForm_55 : decode cX0_defineForm 55 = .ok (.getfield 22, 3) := by decide +kernel
theorem dX0_defineForm_58 : decode cX0_defineForm 58 = .ok (.iload_n 3, 1) := by decide +kernel
theorem dX0_defineForm_59 : decode cX0_defineForm 59 = .ok (.invokevirtual 86, 3) := by decide +kernel
theorem dX0_defineForm_62 : decode cX0_defineForm 62 = .ok (.iconst 0, 1) := by decide +kernel
theorem dX0_defineForm_63 : decode cX0_defineForm 63 = .ok (.iload_n 2, 1) := by decide +kernel
theorem dX0_defineForm_64 : decode cX0_defineForm 64 = .ok (.invokevirtual 78, 3) := by decide +kernel
theorem dX0_defineForm_67 : decode cX0_defineForm 67 = .ok (.aload_n 0, 1) := by decide +kernel
theorem dX0_defineForm_68 : decode cX0_defineForm 68 = .ok (.bipush 24, 2) := by decide +kernel
theorem dX0_defineForm_70 : decode cX0_defineForm 70 = .ok (.aload_n 0, 1) := by decide +kernel
theorem dX0_defineForm_71 : decode cX0_defineForm 71 = .ok (.iload 4, 2) := by decide +kernel
theorem dX0_defineForm_73 : decode cX0_defineForm 73 = .ok (.invokevirtual 179, 3) := by decide +kernel
theorem dX0_defineForm_76 : decode cX0_defineForm 76 = .ok (.iconst 0, 1) := by decide +kernel
theorem dX0_defineForm_77 : decode cX0_defineForm 77 = .ok (.invokevirtual 82, 3) := by decide +kernel
theorem dX0_defineForm_80 : decode cX0_defineForm 80 = .ok (.pop, 1) := by decide +kernel
theorem dX0_defineForm_81 : decode cX0_defineForm 81 = .ok (.return_, 1) := by decide +kernel
theorem dX0_quoteForm_0 : decode cX0_quoteForm 0 = .ok (.aload_n 0, 1) := by decide +kernel
theorem dX0_quoteForm_1 : decode cX0_quoteForm 1 = .ok (.aload_n 0, 1) := by decide +kernel
theorem dX0_quoteForm_2 : decode cX0_quoteForm 2 = .ok (.getfield 22, 3) := by decide +kernel
theorem dX0_quoteForm_5 : decode cX0_quoteForm 5 = .ok (.iload_n 1, 1) := by decide +kernel
theorem dX0_quoteForm_6 : decode cX0_quoteForm 6 = .ok (.invokevirtual 120, 3) := by decide +kernel
theorem dX0_quoteForm_9 : decode cX0_quoteForm 9 = .ok (.iload_n 3, 1) := by decide +kernel
theorem dX0_quoteForm_10 : decode cX0_quoteForm 10 = .ok (.invokevirtual 266, 3) := by decide +kernel
theorem dX0_quoteForm_13 : decode cX0_quoteForm 13 = .ok (.lstore 4, 2) := by decide +kernel
theorem dX0_quoteForm_15 : decode cX0_quoteForm 15 = .ok (.aload_n 0, 1) := by decide +kernel
theorem dX0_quoteForm_16 : decode cX0_quoteForm 16 = .ok (.lload 4, 2) := by decide +kernel
theorem dX0_quoteForm_18 : decode cX0_quoteForm 18 = .ok (.invokestatic 270, 3) := by decide +kernel
theorem dX0_quoteForm_21 : decode cX0_quoteForm 21 = .ok (.lload 4, 2) := by decide +kernel
theorem dX0_quoteForm_23 : decode cX0_quoteForm 23 = .ok (.invokestatic 275, 3) := by decide +kernel
theorem dX0_quoteForm_26 : decode cX0_quoteForm 26 = .ok (.iconst 1, 1) := by decide +kernel
theorem dX0_quoteForm_27 : decode cX0_quoteForm 27 = .ok (.invokevirtual 82, 3) := by decide +kernel
theorem dX0_quoteForm_30 : decode cX0_quoteForm 30 = .ok (.pop, 1) := by decide +kernel
theorem dX0_quoteForm_31 : decode cX0_quoteForm 31 = .ok (.aload_n 0, 1) := by decide +kernel
theorem dX0_quoteForm_32 : decode cX0_quoteForm 32 = .ok (.iload_n 2, 1) := by decide +kernel
theorem dX0_quoteForm_33 : decode cX0_quoteForm 33 = .ok (.invokevirtual 165, 3) := by decide +kernel
theorem dX0_quoteForm_36 : decode cX0_quoteForm 36 = .ok (.return_, 1) := by decide +kernel
theorem dX0_datum_0 : decode cX0_datum 0 = .ok (.aload_n 0, 1) := by decide +kernel
theorem dX0_datum_1 : decode cX0_datum 1 = .ok (.getfield 22, 3) := by decide +kernel
theorem dX0_datum_4 : decode cX0_datum 4 = .ok (.iload_n 1, 1) := by decide +kernel
theorem dX0_datum_5 : decode cX0_datum 5 = .ok (.invokevirtual 159, 3) := by decide +kernel
theorem dX0_datum_8 : decode cX0_datum 8 = .ok (.istore_n 3, 1) := by decide +kernel
theorem dX0_datum_9 : decode cX0_datum 9 = .ok (.aload_n 0, 1) := by decide +kernel
theorem dX0_datum_10 : decode cX0_datum 10 = .ok (.getfield 22, 3) := by decide +kernel
theorem dX0_datum_13 : decode cX0_datum 13 = .ok (.iload_n 1, 1) := by decide +kernel
theorem dX0_datum_14 : decode cX0_datum 14 = .ok (.invokevirtual 123, 3) := by decide +kernel
theorem dX0_datum_17 : decode cX0_datum 17 = .ok (.istore 4, 2) := by decide +kernel
theorem dX0_datum_19 : decode cX0_datum 19 = .ok (.iload_n 3, 1) := by decide +kernel
theorem dX0_datum_20 : decode cX0_datum 20 = .ok (.iconst 5, 1) := by decide +kernel
theorem dX0_datum_21 : decode cX0_datum 21 = .ok (.if_icmp .ne 20, 3) := by decide +kernel
theorem dX0_datum_24 : decode cX0_datum 24 = .ok (.iconst 5, 1) := by decide +kernel
theorem dX0_datum_25 : decode cX0_datum 25 = .ok (.aload_n 0, 1) := by decide +kernel
theorem dX0_datum_26 : decode cX0_datum 26 = .ok (.getfield 22, 3) := by decide +kernel
theorem dX0_datum_29 : decode cX0_datum 29 = .ok (.getfield 92, 3) := by decide +kernel
theorem dX0_datum_32 : decode cX0_datum 32 = .ok (.iload 4, 2) := by decide +kernel
theorem dX0_datum_34 : decode cX0_datum 34 = .ok (.invokevirtual 277, 3) := by decide +kernel
theorem dX0_datum_37 : decode cX0_datum 37 = .ok (.invokestatic 280, 3) := by decide +kernel
theorem dX0_datum_40 : decode cX0_datum 40 = .ok (.lreturn, 1) := by decide +kernel
theorem dX0_datum_41 : decode cX0_datum 41 = .ok (.iload_n 3, 1) := by decide +kernel
theorem dX0_datum_42 : decode cX0_datum 42 = .ok (.bipush 6, 2) := by decide +kernel
theorem dX0_datum_44 : decode cX0_datum 44 = .ok (.if_icmp .eq 10, 3) := by decide +kernel
theorem dX0_datum_47 : decode cX0_datum 47 = .ok (.iload_n 3, 1) := by decide +kernel
theorem dX0_datum_48 : decode cX0_datum 48 = .ok (.iload 4, 2) := by decide +kernel
theorem dX0_datum_50 : decode cX0_datum 50 = .ok (.invokestatic 280, 3) := by decide +kernel
theorem dX0_datum_53 : decode cX0_datum 53 = .ok (.lreturn, 1) := by decide +kernel
theorem dX0_datum_54 : decode cX0_datum 54 = .ok (.iload 4, 2) := by decide +kernel
theorem dX0_datum_56 : decode cX0_datum 56 = .ok (.ifCond .eq 9, 3) := by decide +kernel
theorem dX0_datum_59 : decode cX0_datum 59 = .ok (.iload_n 2, 1) := by decide +kernel
theorem dX0_datum_60 : decode cX0_datum 60 = .ok (.bipush 32, 2) := by decide +kernel
theorem dX0_datum_62 : decode cX0_datum 62 = .ok (.if_icmp .le 9, 3) := by decide +kernel
theorem dX0_datum_65 : decode cX0_datum 65 = .ok (.iconst 4, 1) := by decide +kernel
theorem dX0_datum_66 : decode cX0_datum 66 = .ok (.iconst 0, 1) := by decide +kernel
theorem dX0_datum_67 : decode cX0_datum 67 = .ok (.invokestatic 280, 3) := by decide +kernel
theorem dX0_datum_70 : decode cX0_datum 70 = .ok (.lreturn, 1) := by decide +kernel
theorem dX0_datum_71 : decode cX0_datum 71 = .ok (.aload_n 0, 1) := by decide +kernel
theorem dX0_datum_72 : decode cX0_datum 72 = .ok (.getfield 30, 3) := by decide +kernel
theorem dX0_datum_75 : decode cX0_datum 75 = .ok (.iload 4, 2) := by decide +kernel
theorem dX0_datum_77 : decode cX0_datum 77 = .ok (.invokevirtual 283, 3) := by decide +kernel
theorem dX0_datum_80 : decode cX0_datum 80 = .ok (.istore 5, 2) := by decide +kernel
theorem dX0_datum_82 : decode cX0_datum 82 = .ok (.aload_n 0, 1) := by decide +kernel
theorem dX0_datum_83 : decode cX0_datum 83 = .ok (.getfield 22, 3) := by decide +kernel
theorem dX0_datum_86 : decode cX0_datum 86 = .ok (.iload_n 1, 1) := by decide +kernel
theorem dX0_datum_87 : decode cX0_datum 87 = .ok (.invokevirtual 69, 3) := by decide +kernel
theorem dX0_datum_90 : decode cX0_datum 90 = .ok (.istore 6, 2) := by decide +kernel
theorem dX0_datum_92 : decode cX0_datum 92 = .ok (.iconst 0, 1) := by decide +kernel
theorem dX0_datum_93 : decode cX0_datum 93 = .ok (.istore 7, 2) := by decide +kernel
theorem dX0_datum_95 : decode cX0_datum 95 = .ok (.iload 7, 2) := by decide +kernel
theorem dX0_datum_97 : decode cX0_datum 97 = .ok (.iload 4, 2) := by decide +kernel
theorem dX0_datum_99 : decode cX0_datum 99 = .ok (.if_icmp .ge 84, 3) := by decide +kernel
theorem dX0_datum_102 : decode cX0_datum 102 = .ok (.iload 5, 2) := by decide +kernel
theorem dX0_datum_104 : decode cX0_datum 104 = .ok (.iconst 2, 1) := by decide +kernel
theorem dX0_datum_105 : decode cX0_datum 105 = .ok (.iload 7, 2) := by decide +kernel
theorem dX0_datum_107 : decode cX0_datum 107 = .ok (.imul, 1) := by decide +kernel
theorem dX0_datum_108 : decode cX0_datum 108 = .ok (.iadd, 1) := by decide +kernel
theorem dX0_datum_109 : decode cX0_datum 109 = .ok (.istore 8, 2) := by decide +kernel
theorem dX0_datum_111 : decode cX0_datum 111 = .ok (.aload_n 0, 1) := by decide +kernel
theorem dX0_datum_112 : decode cX0_datum 112 = .ok (.getfield 30, 3) := by decide +kernel
theorem dX0_datum_115 : decode cX0_datum 115 = .ok (.iload 8, 2) := by decide +kernel
theorem dX0_datum_117 : decode cX0_datum 117 = .ok (.aload_n 0, 1) := by decide +kernel
theorem dX0_datum_118 : decode cX0_datum 118 = .ok (.iload 6, 2) := by decide +kernel
theorem dX0_datum_120 : decode cX0_datum 120 = .ok (.iload_n 2, 1) := by decide +kernel
theorem dX0_datum_121 : decode cX0_datum 121 = .ok (.iconst 1, 1) := by decide +kernel
theorem dX0_datum_122 : decode cX0_datum 122 = .ok (.iadd, 1) := by decide +kernel
theorem dX0_datum_123 : decode cX0_datum 123 = .ok (.invokevirtual 266, 3) := by decide +kernel
theorem dX0_datum_126 : decode cX0_datum 126 = .ok (.invokevirtual 286, 3) := by decide +kernel
theorem dX0_datum_129 : decode cX0_datum 129 = .ok (.aload_n 0, 1) := by decide +kernel
theorem dX0_datum_130 : decode cX0_datum 130 = .ok (.getfield 30, 3) := by decide +kernel
theorem dX0_datum_133 : decode cX0_datum 133 = .ok (.iload 8, 2) := by decide +kernel
theorem dX0_datum_135 : decode cX0_datum 135 = .ok (.iconst 1, 1) := by decide +kernel
theorem dX0_datum_136 : decode cX0_datum 136 = .ok (.iadd, 1) := by decide +kernel
theorem dX0_datum_137 : decode cX0_datum 137 = .ok (.iload 7, 2) := by decide +kernel
theorem dX0_datum_139 : decode cX0_datum 139 = .ok (.iconst 1, 1) := by decide +kernel
theorem dX0_datum_140 : decode cX0_datum 140 = .ok (.iadd, 1) := by decide +kernel
theorem dX0_datum_141 : decode cX0_datum 141 = .ok (.iload 4, 2) := by decide +kernel
theorem dX0_datum_143 : decode cX0_datum 143 = .ok (.if_icmp .ge 15, 3) := by decide +kernel
theorem dX0_datum_146 : decode cX0_datum 146 = .ok (.bipush 6, 2) := by decide +kernel
theorem dX0_datum_148 : decode cX0_datum 148 = .ok (.iload 8, 2) := by decide +kernel
theorem dX0_datum_150 : decode cX0_datum 150 = .ok (.iconst 2, 1) := by decide +kernel
theorem dX0_datum_151 : decode cX0_datum 151 = .ok (.iadd, 1) := by decide +kernel
theorem dX0_datum_152 : decode cX0_datum 152 = .ok (.invokestatic 280, 3) := by decide +kernel
theorem dX0_datum_155 : decode cX0_datum 155 = .ok (.goto 8, 3) := by decide +kernel
theorem dX0_datum_158 : decode cX0_datum 158 = .ok (.iconst 4, 1) := by decide +kernel
theorem dX0_datum_159 : decode cX0_datum 159 = .ok (.iconst 0, 1) := by decide +kernel
theorem dX0_datum_160 : decode cX0_datum 160 = .ok (.invokestatic 280, 3) := by decide +kernel
theorem dX0_datum_163 : decode cX0_datum 163 = .ok (.invokevirtual 286, 3) := by decide +kernel
theorem dX0_datum_166 : decode cX0_datum 166 = .ok (.aload_n 0, 1) := by decide +kernel
theorem dX0_datum_167 : decode cX0_datum 167 = .ok (.getfield 22, 3) := by decide +kernel
theorem dX0_datum_170 : decode cX0_datum 170 = .ok (.iload 6, 2) := by decide +kernel
theorem dX0_datum_172 : decode cX0_datum 172 = .ok (.invokevirtual 86, 3) := by decide +kernel
theorem dX0_datum_175 : decode cX0_datum 175 = .ok (.istore 6, 2) := by decide +kernel
theorem dX0_datum_177 : decode cX0_datum 177 = .ok (.iinc 7 1, 3) := by decide +kernel
theorem dX0_datum_180 : decode cX0_datum 180 = .ok (.goto (-85), 3) := by decide +kernel
theorem dX0_datum_183 : decode cX0_datum 183 = .ok (.bipush 6, 2) := by decide +kernel
theorem dX0_datum_185 : decode cX0_datum 185 = .ok (.iload 5, 2) := by decide +kernel
theorem dX0_datum_187 : decode cX0_datum 187 = .ok (.invokestatic 280, 3) := by decide +kernel
theorem dX0_datum_190 : decode cX0_datum 190 = .ok (.lreturn, 1) := by decide +kernel
theorem dX1_init_0 : decode cX1_init 0 = .ok (.aload_n 0, 1) := by decide +kernel
theorem dX1_init_1 : decode cX1_init 1 = .ok (.invokespecial 3, 3) := by decide +kernel
theorem dX1_init_4 : decode cX1_init 4 = .ok (.aload_n 0, 1) := by decide +kernel
theorem dX1_init_5 : decode cX1_init 5 = .ok (.iconst (-1), 1) := by decide +kernel
theorem dX1_init_6 : decode cX1_init 6 = .ok (.putfield 9, 3) := by decide +kernel
theorem dX1_init_9 : decode cX1_init 9 = .ok (.return_, 1) := by decide +kernel
theorem dX1_forget_0 : decode cX1_forget 0 = .ok (.aload_n 0, 1) := by decide +kernel
theorem dX1_forget_1 : decode cX1_forget 1 = .ok (.iconst 0, 1) := by decide +kernel
theorem dX1_forget_2 : decode cX1_forget 2 = .ok (.putfield 15, 3) := by decide +kernel
theorem dX1_forget_5 : decode cX1_forget 5 = .ok (.aload_n 0, 1) := by decide +kernel
theorem dX1_forget_6 : decode cX1_forget 6 = .ok (.iconst (-1), 1) := by decide +kernel
theorem dX1_forget_7 : decode cX1_forget 7 = .ok (.putfield 9, 3) := by decide +kernel
theorem dX1_forget_10 : decode cX1_forget 10 = .ok (.return_, 1) := by decide +kernel
theorem dX1_isNone_0 : decode cX1_isNone 0 = .ok (.aload_n 0, 1) := by decide +kernel
theorem dX1_isNone_1 : decode cX1_isNone 1 = .ok (.getfield 15, 3) := by decide +kernel
theorem dX1_isNone_4 : decode cX1_isNone 4 = .ok (.ifCond .ne 7, 3) := by decide +kernel
theorem dX1_isNone_7 : decode cX1_isNone 7 = .ok (.iconst 1, 1) := by decide +kernel
theorem dX1_isNone_8 : decode cX1_isNone 8 = .ok (.goto 4, 3) := by decide +kernel
theorem dX1_isNone_11 : decode cX1_isNone 11 = .ok (.iconst 0, 1) := by decide +kernel
theorem dX1_isNone_12 : decode cX1_isNone 12 = .ok (.ireturn, 1) := by decide +kernel
theorem dX1_tell_0 : decode cX1_tell 0 = .ok (.aload_n 0, 1) := by decide +kernel
theorem dX1_tell_1 : decode cX1_tell 1 = .ok (.getfield 15, 3) := by decide +kernel
theorem dX1_tell_4 : decode cX1_tell 4 = .ok (.ifCond .ne 13, 3) := by decide +kernel
theorem dX1_tell_7 : decode cX1_tell 7 = .ok (.aload_n 0, 1) := by decide +kernel
theorem dX1_tell_8 : decode cX1_tell 8 = .ok (.iload_n 1, 1) := by decide +kernel
theorem dX1_tell_9 : decode cX1_tell 9 = .ok (.putfield 15, 3) := by decide +kernel
theorem dX1_tell_12 : decode cX1_tell 12 = .ok (.aload_n 0, 1) := by decide +kernel
theorem dX1_tell_13 : decode cX1_tell 13 = .ok (.iload_n 2, 1) := by decide +kernel
theorem dX1_tell_14 : decode cX1_tell 14 = .ok (.putfield 9, 3) := by decide +kernel
theorem dX1_tell_17 : decode cX1_tell 17 = .ok (.return_, 1) := by decide +kernel
theorem dX2_init_0 : decode cX2_init 0 = .ok (.aload_n 0, 1) := by decide +kernel
theorem dX2_init_1 : decode cX2_init 1 = .ok (.invokespecial 3, 3) := by decide +kernel
theorem dX2_init_4 : decode cX2_init 4 = .ok (.aload_n 0, 1) := by decide +kernel
theorem dX2_init_5 : decode cX2_init 5 = .ok (.bipush 64, 2) := by decide +kernel
theorem dX2_init_7 : decode cX2_init 7 = .ok (.newarray .long, 2) := by decide +kernel
theorem dX2_init_9 : decode cX2_init 9 = .ok (.putfield 9, 3) := by decide +kernel
theorem dX2_init_12 : decode cX2_init 12 = .ok (.return_, 1) := by decide +kernel
theorem dX2_begin_0 : decode cX2_begin 0 = .ok (.aload_n 0, 1) := by decide +kernel
theorem dX2_begin_1 : decode cX2_begin 1 = .ok (.aload_n 0, 1) := by decide +kernel
theorem dX2_begin_2 : decode cX2_begin 2 = .ok (.getfield 9, 3) := by decide +kernel
theorem dX2_begin_5 : decode cX2_begin 5 = .ok (.aload_n 1, 1) := by decide +kernel
theorem dX2_begin_6 : decode cX2_begin 6 = .ok (.getfield 15, 3) := by decide +kernel
theorem dX2_begin_9 : decode cX2_begin 9 = .ok (.invokestatic 21, 3) := by decide +kernel
theorem dX2_begin_12 : decode cX2_begin 12 = .ok (.putfield 9, 3) := by decide +kernel
theorem dX2_begin_15 : decode cX2_begin 15 = .ok (.aload_n 1, 1) := by decide +kernel
theorem dX2_begin_16 : decode cX2_begin 16 = .ok (.getfield 27, 3) := by decide +kernel
theorem dX2_begin_19 : decode cX2_begin 19 = .ok (.iconst 0, 1) := by decide +kernel
theorem dX2_begin_20 : decode cX2_begin 20 = .ok (.aload_n 0, 1) := by decide +kernel
theorem dX2_begin_21 : decode cX2_begin 21 = .ok (.getfield 9, 3) := by decide +kernel
theorem dX2_begin_24 : decode cX2_begin 24 = .ok (.iconst 0, 1) := by decide +kernel
theorem dX2_begin_25 : decode cX2_begin 25 = .ok (.aload_n 1, 1) := by decide +kernel
theorem dX2_begin_26 : decode cX2_begin 26 = .ok (.getfield 15, 3) := by decide +kernel
theorem dX2_begin_29 : decode cX2_begin 29 = .ok (.invokestatic 30, 3) := by decide +kernel
theorem dX2_begin_32 : decode cX2_begin 32 = .ok (.aload_n 0, 1) := by decide +kernel
theorem dX2_begin_33 : decode cX2_begin 33 = .ok (.aload_n 1, 1) := by decide +kernel
theorem dX2_begin_34 : decode cX2_begin 34 = .ok (.getfield 15, 3) := by decide +kernel
theorem dX2_begin_37 : decode cX2_begin 37 = .ok (.putfield 36, 3) := by decide +kernel
theorem dX2_begin_40 : decode cX2_begin 40 = .ok (.aload_n 0, 1) := by decide +kernel
theorem dX2_begin_41 : decode cX2_begin 41 = .ok (.iconst 0, 1) := by decide +kernel
theorem dX2_begin_42 : decode cX2_begin 42 = .ok (.putfield 39, 3) := by decide +kernel
theorem dX2_begin_45 : decode cX2_begin 45 = .ok (.return_, 1) := by decide +kernel
theorem dX2_hasRoom_0 : decode cX2_hasRoom 0 = .ok (.aload_n 0, 1) := by decide +kernel
theorem dX2_hasRoom_1 : decode cX2_hasRoom 1 = .ok (.getfield 39, 3) := by decide +kernel
theorem dX2_hasRoom_4 : decode cX2_hasRoom 4 = .ok (.iload_n 1, 1) := by decide +kernel
theorem dX2_hasRoom_5 : decode cX2_hasRoom 5 = .ok (.iadd, 1) := by decide +kernel
theorem dX2_hasRoom_6 : decode cX2_hasRoom 6 = .ok (.ldc 42, 2) := by decide +kernel
theorem dX2_hasRoom_8 : decode cX2_hasRoom 8 = .ok (.if_icmp .gt 7, 3) := by decide +kernel
theorem dX2_hasRoom_11 : decode cX2_hasRoom 11 = .ok (.iconst 1, 1) := by decide +kernel
theorem dX2_hasRoom_12 : decode cX2_hasRoom 12 = .ok (.goto 4, 3) := by decide +kernel
theorem dX2_hasRoom_15 : decode cX2_hasRoom 15 = .ok (.iconst 0, 1) := by decide +kernel
theorem dX2_hasRoom_16 : decode cX2_hasRoom 16 = .ok (.ireturn, 1) := by decide +kernel
theorem dX2_look_0 : decode cX2_look 0 = .ok (.iload_n 1, 1) := by decide +kernel
theorem dX2_look_1 : decode cX2_look 1 = .ok (.ifCond .lt 20, 3) := by decide +kernel
theorem dX2_look_4 : decode cX2_look 4 = .ok (.iload_n 1, 1) := by decide +kernel
theorem dX2_look_5 : decode cX2_look 5 = .ok (.aload_n 0, 1) := by decide +kernel
theorem dX2_look_6 : decode cX2_look 6 = .ok (.getfield 36, 3) := by decide +kernel
theorem dX2_look_9 : decode cX2_look 9 = .ok (.if_icmp .ge 12, 3) := by decide +kernel
theorem dX2_look_12 : decode cX2_look 12 = .ok (.aload_n 0, 1) := by decide +kernel
theorem dX2_look_13 : decode cX2_look 13 = .ok (.getfield 9, 3) := by decide +kernel
theorem dX2_look_16 : decode cX2_look 16 = .ok (.iload_n 1, 1) := by decide +kernel
theorem dX2_look_17 : decode cX2_look 17 = .ok (.laload, 1) := by decide +kernel
theorem dX2_look_18 : decode cX2_look 18 = .ok (.goto 4, 3) := by decide +kernel
theorem dX2_look_21 : decode cX2_look 21 = .ok (.lconst 0, 1) := by decide +kernel
theorem dX2_look_22 : decode cX2_look 22 = .ok (.lreturn, 1) := by decide +kernel
theorem dX2_put_0 : decode cX2_put 0 = .ok (.iload_n 1, 1) := by decide +kernel
theorem dX2_put_1 : decode cX2_put 1 = .ok (.ifCond .lt 18, 3) := by decide +kernel
theorem dX2_put_4 : decode cX2_put 4 = .ok (.iload_n 1, 1) := by decide +kernel
theorem dX2_put_5 : decode cX2_put 5 = .ok (.aload_n 0, 1) := by decide +kernel
theorem dX2_put_6 : decode cX2_put 6 = .ok (.getfield 36, 3) := by decide +kernel
theorem dX2_put_9 : decode cX2_put 9 = .ok (.if_icmp .ge 10, 3) := by decide +kernel
theorem dX2_put_12 : decode cX2_put 12 = .ok (.aload_n 0, 1) := by decide +kernel
theorem dX2_put_13 : decode cX2_put 13 = .ok (.getfield 9, 3) := by decide +kernel
theorem dX2_put_16 : decode cX2_put 16 = .ok (.iload_n 1, 1) := by decide +kernel
theorem dX2_put_17 : decode cX2_put 17 = .ok (.lload_n 2, 1) := by decide +kernel
theorem dX2_put_18 : decode cX2_put 18 = .ok (.lastore, 1) := by decide +kernel
theorem dX2_put_19 : decode cX2_put 19 = .ok (.return_, 1) := by decide +kernel
theorem dX2_newPair_0 : decode cX2_newPair 0 = .ok (.aload_n 0, 1) := by decide +kernel
theorem dX2_newPair_1 : decode cX2_newPair 1 = .ok (.getfield 36, 3) := by decide +kernel
theorem dX2_newPair_4 : decode cX2_newPair 4 = .ok (.istore 5, 2) := by decide +kernel
theorem dX2_newPair_6 : decode cX2_newPair 6 = .ok (.aload_n 0, 1) := by decide +kernel
theorem dX2_newPair_7 : decode cX2_newPair 7 = .ok (.aload_n 0, 1) := by decide +kernel
theorem dX2_newPair_8 : decode cX2_newPair 8 = .ok (.getfield 9, 3) := by decide +kernel
theorem dX2_newPair_11 : decode cX2_newPair 11 = .ok (.iload 5, 2) := by decide +kernel
theorem dX2_newPair_13 : decode cX2_newPair 13 = .ok (.iconst 2, 1) := by decide +kernel
theorem dX2_newPair_14 : decode cX2_newPair 14 = .ok (.iadd, 1) := by decide +kernel
theorem dX2_newPair_15 : decode cX2_newPair 15 = .ok (.invokestatic 21, 3) := by decide +kernel
theorem dX2_newPair_18 : decode cX2_newPair 18 = .ok (.putfield 9, 3) := by decide +kernel
theorem dX2_newPair_21 : decode cX2_newPair 21 = .ok (.aload_n 0, 1) := by decide +kernel
theorem dX2_newPair_22 : decode cX2_newPair 22 = .ok (.iload 5, 2) := by decide +kernel
theorem dX2_newPair_24 : decode cX2_newPair 24 = .ok (.iconst 2, 1) := by decide +kernel
theorem dX2_newPair_25 : decode cX2_newPair 25 = .ok (.iadd, 1) := by decide +kernel
theorem dX2_newPair_26 : decode cX2_newPair 26 = .ok (.putfield 36, 3) := by decide +kernel
theorem dX2_newPair_29 : decode cX2_newPair 29 = .ok (.aload_n 0, 1) := by decide +kernel
theorem dX2_newPair_30 : decode cX2_newPair 30 = .ok (.iload 5, 2) := by decide +kernel
theorem dX2_newPair_32 : decode cX2_newPair 32 = .ok (.lload_n 1, 1) := by decide +kernel
theorem dX2_newPair_33 : decode cX2_newPair 33 = .ok (.invokevirtual 43, 3) := by decide +kernel
theorem dX2_newPair_36 : decode cX2_newPair 36 = .ok (.aload_n 0, 1) := by decide +kernel
theorem dX2_newPair_37 : decode cX2_newPair 37 = .ok (.iload 5, 2) := by decide +kernel
theorem dX2_newPair_39 : decode cX2_newPair 39 = .ok (.iconst 1, 1) := by decide +kernel
theorem dX2_newPair_40 : decode cX2_newPair 40 = .ok (.iadd, 1) := by decide +kernel
theorem dX2_newPair_41 : decode cX2_newPair 41 = .ok (.lload_n 3, 1) := by decide +kernel
theorem dX2_newPair_42 : decode cX2_newPair 42 = .ok (.invokevirtual 43, 3) := by decide +kernel
theorem dX2_newPair_45 : decode cX2_newPair 45 = .ok (.aload_n 0, 1) := by decide +kernel
theorem dX2_newPair_46 : decode cX2_newPair 46 = .ok (.dup, 1) := by decide +kernel
theorem dX2_newPair_47 : decode cX2_newPair 47 = .ok (.getfield 39, 3) := by decide +kernel
theorem dX2_newPair_50 : decode cX2_newPair 50 = .ok (.iconst 1, 1) := by decide +kernel
theorem dX2_newPair_51 : decode cX2_newPair 51 = .ok (.iadd, 1) := by decide +kernel
theorem dX2_newPair_52 : decode cX2_newPair 52 = .ok (.putfield 39, 3) := by decide +kernel
theorem dX2_newPair_55 : decode cX2_newPair 55 = .ok (.bipush 6, 2) := by decide +kernel
theorem dX2_newPair_57 : decode cX2_newPair 57 = .ok (.iload 5, 2) := by decide +kernel
theorem dX2_newPair_59 : decode cX2_newPair 59 = .ok (.invokestatic 47, 3) := by decide +kernel
theorem dX2_newPair_62 : decode cX2_newPair 62 = .ok (.lreturn, 1) := by decide +kernel
theorem dX2_newProcedure_0 : decode cX2_newProcedure 0 = .ok (.aload_n 0, 1) := by decide +kernel
theorem dX2_newProcedure_1 : decode cX2_newProcedure 1 = .ok (.getfield 36, 3) := by decide +kernel
theorem dX2_newProcedure_4 : decode cX2_newProcedure 4 = .ok (.istore_n 3, 1) := by decide +kernel
theorem dX2_newProcedure_5 : decode cX2_newProcedure 5 = .ok (.aload_n 0, 1) := by decide +kernel
theorem dX2_newProcedure_6 : decode cX2_newProcedure 6 = .ok (.aload_n 0, 1) := by decide +kernel
theorem dX2_newProcedure_7 : decode cX2_newProcedure 7 = .ok (.getfield 9, 3) := by decide +kernel
theorem dX2_newProcedure_10 : decode cX2_newProcedure 10 = .ok (.iload_n 3, 1) := by decide +kernel
theorem dX2_newProcedure_11 : decode cX2_newProcedure 11 = .ok (.iconst 1, 1) := by decide +kernel
theorem dX2_newProcedure_12 : decode cX2_newProcedure 12 = .ok (.iadd, 1) := by decide +kernel
theorem dX2_newProcedure_13 : decode cX2_newProcedure 13 = .ok (.iload_n 2, 1) := by decide +kernel
theorem dX2_newProcedure_14 : decode cX2_newProcedure 14 = .ok (.iadd, 1) := by decide +kernel
theorem dX2_newProcedure_15 : decode cX2_newProcedure 15 = .ok (.invokestatic 21, 3) := by decide +kernel
theorem dX2_newProcedure_18 : decode cX2_newProcedure 18 = .ok (.putfield 9, 3) := by decide +kernel
theorem dX2_newProcedure_21 : decode cX2_newProcedure 21 = .ok (.aload_n 0, 1) := by decide +kernel
theorem dX2_newProcedure_22 : decode cX2_newProcedure 22 = .ok (.iload_n 3, 1) := by decide +kernel
theorem dX2_newProcedure_23 : decode cX2_newProcedure 23 = .ok (.iconst 1, 1) := by decide +kernel
theorem dX2_newProcedure_24 : decode cX2_newProcedure 24 = .ok (.iadd, 1) := by decide +kernel
theorem dX2_newProcedure_25 : decode cX2_newProcedure 25 = .ok (.iload_n 2, 1) := by decide +kernel
theorem dX2_newProcedure_26 : decode cX2_newProcedure 26 = .ok (.iadd, 1) := by decide +kernel
theorem dX2_newProcedure_27 : decode cX2_newProcedure 27 = .ok (.putfield 36, 3) := by decide +kernel
theorem dX2_newProcedure_30 : decode cX2_newProcedure 30 = .ok (.aload_n 0, 1) := by decide +kernel
theorem dX2_newProcedure_31 : decode cX2_newProcedure 31 = .ok (.iload_n 3, 1) := by decide +kernel
theorem dX2_newProcedure_32 : decode cX2_newProcedure 32 = .ok (.iload_n 1, 1) := by decide +kernel
theorem dX2_newProcedure_33 : decode cX2_newProcedure 33 = .ok (.i2l, 1) := by decide +kernel
theorem dX2_newProcedure_34 : decode cX2_newProcedure 34 = .ok (.invokevirtual 43, 3) := by decide +kernel
theorem dX2_newProcedure_37 : decode cX2_newProcedure 37 = .ok (.aload_n 0, 1) := by decide +kernel
theorem dX2_newProcedure_38 : decode cX2_newProcedure 38 = .ok (.dup, 1) := by decide +kernel
theorem dX2_newProcedure_39 : decode cX2_newProcedure 39 = .ok (.getfield 39, 3) := by decide +kernel
theorem dX2_newProcedure_42 : decode cX2_newProcedure 42 = .ok (.iconst 1, 1) := by decide +kernel
theorem dX2_newProcedure_43 : decode cX2_newProcedure 43 = .ok (.iload_n 2, 1) := by decide +kernel
theorem dX2_newProcedure_44 : decode cX2_newProcedure 44 = .ok (.iadd, 1) := by decide +kernel
theorem dX2_newProcedure_45 : decode cX2_newProcedure 45 = .ok (.iadd, 1) := by decide +kernel
theorem dX2_newProcedure_46 : decode cX2_newProcedure 46 = .ok (.putfield 39, 3) := by decide +kernel
theorem dX2_newProcedure_49 : decode cX2_newProcedure 49 = .ok (.iload_n 3, 1) := by decide +kernel
theorem dX2_newProcedure_50 : decode cX2_newProcedure 50 = .ok (.ireturn, 1) := by decide +kernel
theorem dX2_newBinding_0 : decode cX2_newBinding 0 = .ok (.aload_n 0, 1) := by decide +kernel
theorem dX2_newBinding_1 : decode cX2_newBinding 1 = .ok (.getfield 36, 3) := by decide +kernel
theorem dX2_newBinding_4 : decode cX2_newBinding 4 = .ok (.istore_n 3, 1) := by decide +kernel
theorem dX2_newBinding_5 : decode cX2_newBinding 5 = .ok (.aload_n 0, 1) := by decide +kernel
theorem dX2_newBinding_6 : decode cX2_newBinding 6 = .ok (.aload_n 0, 1) := by decide +kernel
theorem dX2_newBinding_7 : decode cX2_newBinding 7 = .ok (.getfield 9, 3) := by decide +kernel
theorem dX2_newBinding_10 : decode cX2_newBinding 10 = .ok (.iload_n 3, 1) := by decide +kernel
theorem dX2_newBinding_11 : decode cX2_newBinding 11 = .ok (.iconst 1, 1) := by decide +kernel
theorem dX2_newBinding_12 : decode cX2_newBinding 12 = .ok (.iadd, 1) := by decide +kernel
theorem dX2_newBinding_13 : decode cX2_newBinding 13 = .ok (.invokestatic 21, 3) := by decide +kernel
theorem dX2_newBinding_16 : decode cX2_newBinding 16 = .ok (.putfield 9, 3) := by decide +kernel
theorem dX2_newBinding_19 : decode cX2_newBinding 19 = .ok (.aload_n 0, 1) := by decide +kernel
theorem dX2_newBinding_20 : decode cX2_newBinding 20 = .ok (.iload_n 3, 1) := by decide +kernel
theorem dX2_newBinding_21 : decode cX2_newBinding 21 = .ok (.iconst 1, 1) := by decide +kernel
theorem dX2_newBinding_22 : decode cX2_newBinding 22 = .ok (.iadd, 1) := by decide +kernel
theorem dX2_newBinding_23 : decode cX2_newBinding 23 = .ok (.putfield 36, 3) := by decide +kernel
theorem dX2_newBinding_26 : decode cX2_newBinding 26 = .ok (.aload_n 0, 1) := by decide +kernel
theorem dX2_newBinding_27 : decode cX2_newBinding 27 = .ok (.iload_n 3, 1) := by decide +kernel
theorem dX2_newBinding_28 : decode cX2_newBinding 28 = .ok (.lload_n 1, 1) := by decide +kernel
theorem dX2_newBinding_29 : decode cX2_newBinding 29 = .ok (.invokevirtual 43, 3) := by decide +kernel
theorem dX2_newBinding_32 : decode cX2_newBinding 32 = .ok (.iload_n 3, 1) := by decide +kernel
theorem dX2_newBinding_33 : decode cX2_newBinding 33 = .ok (.ireturn, 1) := by decide +kernel
theorem dX2_lambdaOf_0 : decode cX2_lambdaOf 0 = .ok (.aload_n 0, 1) := by decide +kernel
theorem dX2_lambdaOf_1 : decode cX2_lambdaOf 1 = .ok (.iload_n 1, 1) := by decide +kernel
theorem dX2_lambdaOf_2 : decode cX2_lambdaOf 2 = .ok (.invokevirtual 53, 3) := by decide +kernel
theorem dX2_lambdaOf_5 : decode cX2_lambdaOf 5 = .ok (.l2i, 1) := by decide +kernel
theorem dX2_lambdaOf_6 : decode cX2_lambdaOf 6 = .ok (.ireturn, 1) := by decide +kernel
theorem dX2_keptOf_0 : decode cX2_keptOf 0 = .ok (.aload_n 0, 1) := by decide +kernel
theorem dX2_keptOf_1 : decode cX2_keptOf 1 = .ok (.iload_n 1, 1) := by decide +kernel
theorem dX2_keptOf_2 : decode cX2_keptOf 2 = .ok (.iconst 1, 1) := by decide +kernel
theorem dX2_keptOf_3 : decode cX2_keptOf 3 = .ok (.iadd, 1) := by decide +kernel
theorem dX2_keptOf_4 : decode cX2_keptOf 4 = .ok (.iload_n 2, 1) := by decide +kernel
theorem dX2_keptOf_5 : decode cX2_keptOf 5 = .ok (.iadd, 1) := by decide +kernel
theorem dX2_keptOf_6 : decode cX2_keptOf 6 = .ok (.invokevirtual 53, 3) := by decide +kernel
theorem dX2_keptOf_9 : decode cX2_keptOf 9 = .ok (.l2i, 1) := by decide +kernel
theorem dX2_keptOf_10 : decode cX2_keptOf 10 = .ok (.ireturn, 1) := by decide +kernel
theorem dX2_putKept_0 : decode cX2_putKept 0 = .ok (.aload_n 0, 1) := by decide +kernel
theorem dX2_putKept_1 : decode cX2_putKept 1 = .ok (.iload_n 1, 1) := by decide +kernel
theorem dX2_putKept_2 : decode cX2_putKept 2 = .ok (.iconst 1, 1) := by decide +kernel
theorem dX2_putKept_3 : decode cX2_putKept 3 = .ok (.iadd, 1) := by decide +kernel
theorem dX2_putKept_4 : decode cX2_putKept 4 = .ok (.iload_n 2, 1) := by decide +kernel
theorem dX2_putKept_5 : decode cX2_putKept 5 = .ok (.iadd, 1) := by decide +kernel
theorem dX2_putKept_6 : decode cX2_putKept 6 = .ok (.iload_n 3, 1) := by decide +kernel
theorem dX2_putKept_7 : decode cX2_putKept 7 = .ok (.i2l, 1) := by decide +kernel
theorem dX2_putKept_8 : decode cX2_putKept 8 = .ok (.invokevirtual 43, 3) := by decide +kernel
theorem dX2_putKept_11 : decode cX2_putKept 11 = .ok (.return_, 1) := by decide +kernel
theorem dX3_init_0 : decode cX3_init 0 = .ok (.aload_n 0, 1) := by decide +kernel
theorem dX3_init_1 : decode cX3_init 1 = .ok (.invokespecial 3, 3) := by decide +kernel
theorem dX3_init_4 : decode cX3_init 4 = .ok (.aload_n 0, 1) := by decide +kernel
theorem dX3_init_5 : decode cX3_init 5 = .ok (.new 9, 3) := by decide +kernel
theorem dX3_init_8 : decode cX3_init 8 = .ok (.dup, 1) := by decide +kernel
theorem dX3_init_9 : decode cX3_init 9 = .ok (.invokespecial 11, 3) := by decide +kernel
theorem dX3_init_12 : decode cX3_init 12 = .ok (.putfield 12, 3) := by decide +kernel
theorem dX3_init_15 : decode cX3_init 15 = .ok (.aload_n 0, 1) := by decide +kernel
theorem dX3_init_16 : decode cX3_init 16 = .ok (.new 18, 3) := by decide +kernel
theorem dX3_init_19 : decode cX3_init 19 = .ok (.dup, 1) := by decide +kernel
theorem dX3_init_20 : decode cX3_init 20 = .ok (.invokespecial 20, 3) := by decide +kernel
theorem dX3_init_23 : decode cX3_init 23 = .ok (.putfield 21, 3) := by decide +kernel
theorem dX3_init_26 : decode cX3_init 26 = .ok (.aload_n 0, 1) := by decide +kernel
theorem dX3_init_27 : decode cX3_init 27 = .ok (.bipush 64, 2) := by decide +kernel
theorem dX3_init_29 : decode cX3_init 29 = .ok (.newarray .long, 2) := by decide +kernel
theorem dX3_init_31 : decode cX3_init 31 = .ok (.putfield 25, 3) := by decide +kernel
theorem dX3_init_34 : decode cX3_init 34 = .ok (.aload_n 0, 1) := by decide +kernel
theorem dX3_init_35 : decode cX3_init 35 = .ok (.bipush 16, 2) := by decide +kernel
theorem dX3_init_37 : decode cX3_init 37 = .ok (.newarray .int, 2) := by decide +kernel
theorem dX3_init_39 : decode cX3_init 39 = .ok (.putfield 29, 3) := by decide +kernel
theorem dX3_init_42 : decode cX3_init 42 = .ok (.aload_n 0, 1) := by decide +kernel
theorem dX3_init_43 : decode cX3_init 43 = .ok (.bipush 16, 2) := by decide +kernel
theorem dX3_init_45 : decode cX3_init 45 = .ok (.newarray .int, 2) := by decide +kernel
theorem dX3_init_47 : decode cX3_init 47 = .ok (.putfield 33, 3) := by decide +kernel
theorem dX3_init_50 : decode cX3_init 50 = .ok (.aload_n 0, 1) := by decide +kernel
theorem dX3_init_51 : decode cX3_init 51 = .ok (.bipush 16, 2) := by decide +kernel
theorem dX3_init_53 : decode cX3_init 53 = .ok (.newarray .int, 2) := by decide +kernel
theorem dX3_init_55 : decode cX3_init 55 = .ok (.putfield 36, 3) := by decide +kernel
theorem dX3_init_58 : decode cX3_init 58 = .ok (.aload_n 0, 1) := by decide +kernel
theorem dX3_init_59 : decode cX3_init 59 = .ok (.bipush 100, 2) := by decide +kernel
theorem dX3_init_61 : decode cX3_init 61 = .ok (.newarray .long, 2) := by decide +kernel
theorem dX3_init_63 : decode cX3_init 63 = .ok (.putfield 39, 3) := by decide +kernel
theorem dX3_init_66 : decode cX3_init 66 = .ok (.aload_n 0, 1) := by decide +kernel
theorem dX3_init_67 : decode cX3_init 67 = .ok (.iconst (-1), 1) := by decide +kernel
theorem dX3_init_68 : decode cX3_init 68 = .ok (.putfield 42, 3) := by decide +kernel
theorem dX3_init_71 : decode cX3_init 71 = .ok (.aload_n 0, 1) := by decide +kernel
theorem dX3_init_72 : decode cX3_init 72 = .ok (.aload_n 1, 1) := by decide +kernel
theorem dX3_init_73 : decode cX3_init 73 = .ok (.putfield 46, 3) := by decide +kernel
theorem dX3_init_76 : decode cX3_init 76 = .ok (.return_, 1) := by decide +kernel
theorem dX3_begin_0 : decode cX3_begin 0 = .ok (.aload_n 0, 1) := by decide +kernel
theorem dX3_begin_1 : decode cX3_begin 1 = .ok (.aload_n 1, 1) := by decide +kernel
theorem dX3_begin_2 : decode cX3_begin 2 = .ok (.putfield 46, 3) := by decide +kernel
theorem dX3_begin_5 : decode cX3_begin 5 = .ok (.aload_n 0, 1) := by decide +kernel
theorem dX3_begin_6 : decode cX3_begin 6 = .ok (.getfield 12, 3) := by decide +kernel
theorem dX3_begin_9 : decode cX3_begin 9 = .ok (.aload_n 1, 1) := by decide +kernel
theorem dX3_begin_10 : decode cX3_begin 10 = .ok (.invokevirtual 50, 3) := by decide +kernel
theorem dX3_begin_13 : decode cX3_begin 13 = .ok (.aload_n 0, 1) := by decide +kernel
theorem dX3_begin_14 : decode cX3_begin 14 = .ok (.getfield 21, 3) := by decide +kernel
theorem dX3_begin_17 : decode cX3_begin 17 = .ok (.invokevirtual 54, 3) := by decide +kernel
theorem dX3_begin_20 : decode cX3_begin 20 = .ok (.aload_n 0, 1) := by decide +kernel
theorem dX3_begin_21 : decode cX3_begin 21 = .ok (.aload_n 0, 1) := by decide +kernel
theorem dX3_begin_22 : decode cX3_begin 22 = .ok (.getfield 25, 3) := by decide +kernel
theorem dX3_begin_25 : decode cX3_begin 25 = .ok (.aload_n 1, 1) := by decide +kernel
theorem dX3_begin_26 : decode cX3_begin 26 = .ok (.getfield 57, 3) := by decide +kernel
theorem dX3_begin_29 : decode cX3_begin 29 = .ok (.invokestatic 62, 3) := by decide +kernel
theorem dX3_begin_32 : decode cX3_begin 32 = .ok (.putfield 25, 3) := by decide +kernel
theorem dX3_begin_35 : decode cX3_begin 35 = .ok (.aload_n 0, 1) := by decide +kernel
theorem dX3_begin_36 : decode cX3_begin 36 = .ok (.iconst 0, 1) := by decide +kernel
theorem dX3_begin_37 : decode cX3_begin 37 = .ok (.putfield 68, 3) := by decide +kernel
theorem dX3_begin_40 : decode cX3_begin 40 = .ok (.aload_n 0, 1) := by decide +kernel
theorem dX3_begin_41 : decode cX3_begin 41 = .ok (.iconst 0, 1) := by decide +kernel
theorem dX3_begin_42 : decode cX3_begin 42 = .ok (.putfield 71, 3) := by decide +kernel
theorem dX3_begin_45 : decode cX3_begin 45 = .ok (.aload_n 0, 1) := by decide +kernel
theorem dX3_begin_46 : decode cX3_begin 46 = .ok (.iconst (-1), 1) := by decide +kernel
theorem dX3_begin_47 : decode cX3_begin 47 = .ok (.putfield 74, 3) := by decide +kernel
theorem dX3_begin_50 : decode cX3_begin 50 = .ok (.aload_n 0, 1) := by decide +kernel
theorem dX3_begin_51 : decode cX3_begin 51 = .ok (.iconst 0, 1) := by decide +kernel
theorem dX3_begin_52 : decode cX3_begin 52 = .ok (.putfield 77, 3) := by decide +kernel
theorem dX3_begin_55 : decode cX3_begin 55 = .ok (.aload_n 0, 1) := by decide +kernel
theorem dX3_begin_56 : decode cX3_begin 56 = .ok (.iconst 0, 1) := by decide +kernel
theorem dX3_begin_57 : decode cX3_begin 57 = .ok (.putfield 80, 3) := by decide +kernel
theorem dX3_begin_60 : decode cX3_begin 60 = .ok (.aload_n 0, 1) := by decide +kernel
theorem dX3_begin_61 : decode cX3_begin 61 = .ok (.getfield 39, 3) := by decide +kernel
theorem dX3_begin_64 : decode cX3_begin 64 = .ok (.bipush 9, 2) := by decide +kernel
theorem dX3_begin_66 : decode cX3_begin 66 = .ok (.iconst 0, 1) := by decide +kernel
theorem dX3_begin_67 : decode cX3_begin 67 = .ok (.invokestatic 83, 3) := by decide +kernel
theorem dX3_begin_70 : decode cX3_begin 70 = .ok (.invokestatic 89, 3) := by decide +kernel
theorem dX3_begin_73 : decode cX3_begin 73 = .ok (.aload_n 0, 1) := by decide +kernel
theorem dX3_begin_74 : decode cX3_begin 74 = .ok (.iconst (-1), 1) := by decide +kernel
theorem dX3_begin_75 : decode cX3_begin 75 = .ok (.putfield 42, 3) := by decide +kernel
theorem dX3_begin_78 : decode cX3_begin 78 = .ok (.aload_n 0, 1) := by decide +kernel
theorem dX3_begin_79 : decode cX3_begin 79 = .ok (.iconst 0, 1) := by decide +kernel
theorem dX3_begin_80 : decode cX3_begin 80 = .ok (.putfield 95, 3) := by decide +kernel
theorem dX3_begin_83 : decode cX3_begin 83 = .ok (.aload_n 0, 1) := by decide +kernel
theorem dX3_begin_84 : decode cX3_begin 84 = .ok (.lconst 0, 1) := by decide +kernel
theorem dX3_begin_85 : decode cX3_begin 85 = .ok (.putfield 98, 3) := by decide +kernel
theorem dX3_begin_88 : decode cX3_begin 88 = .ok (.aload_n 0, 1) := by decide +kernel
theorem dX3_begin_89 : decode cX3_begin 89 = .ok (.iconst 0, 1) := by decide +kernel
theorem dX3_begin_90 : decode cX3_begin 90 = .ok (.putfield 102, 3) := by decide +kernel
theorem dX3_begin_93 : decode cX3_begin 93 = .ok (.return_, 1) := by decide +kernel
theorem dX3_definedValue_0 : decode cX3_definedValue 0 = .ok (.iload_n 1, 1) := by decide +kernel
theorem dX3_definedValue_1 : decode cX3_definedValue 1 = .ok (.ifCond .lt 18, 3) := by decide +kernel
theorem dX3_definedValue_4 : decode cX3_definedValue 4 = .ok (.iload_n 1, 1) := by decide +kernel
theorem dX3_definedValue_5 : decode cX3_definedValue 5 = .ok (.bipush 100, 2) := by decide +kernel
theorem dX3_definedValue_7 : decode cX3_definedValue 7 = .ok (.if_icmp .ge 12, 3) := by decide +kernel
theorem dX3_definedValue_10 : decode cX3_definedValue 10 = .ok (.aload_n 0, 1) := by decide +kernel
theorem dX3_definedValue_11 : decode cX3_definedValue 11 = .ok (.getfield 39, 3) := by decide +kernel
theorem dX3_definedValue_14 : decode cX3_definedValue 14 = .ok (.iload_n 1, 1) := by decide +kernel
theorem dX3_definedValue_15 : decode cX3_definedValue 15 = .ok (.laload, 1) := by decide +kernel
theorem dX3_definedValue_16 : decode cX3_definedValue 16 = .ok (.goto 4, 3) := by decide +kernel
theorem dX3_definedValue_19 : decode cX3_definedValue 19 = .ok (.lconst 0, 1) := by decide +kernel
theorem dX3_definedValue_20 : decode cX3_definedValue 20 = .ok (.lstore_n 2, 1) := by decide +kernel
theorem dX3_definedValue_21 : decode cX3_definedValue 21 = .ok (.lload_n 2, 1) := by decide +kernel
theorem dX3_definedValue_22 : decode cX3_definedValue 22 = .ok (.invokestatic 105, 3) := by decide +kernel
theorem dX3_definedValue_25 : decode cX3_definedValue 25 = .ok (.bipush 9, 2) := by decide +kernel
theorem dX3_definedValue_27 : decode cX3_definedValue 27 = .ok (.if_icmp .ne 7, 3) := by decide +kernel
theorem dX3_definedValue_30 : decode cX3_definedValue 30 = .ok (.lconst 0, 1) := by decide +kernel
theorem dX3_definedValue_31 : decode cX3_definedValue 31 = .ok (.goto 4, 3) := by decide +kernel
theorem dX3_definedValue_34 : decode cX3_definedValue 34 = .ok (.lload_n 2, 1) := by decide +kernel
theorem dX3_definedValue_35 : decode cX3_definedValue 35 = .ok (.lreturn, 1) := by decide +kernel
theorem dX3_work_0 : decode cX3_work 0 = .ok (.aload_n 0, 1) := by decide +kernel
theorem dX3_work_1 : decode cX3_work 1 = .ok (.getfield 42, 3) := by decide +kernel
theorem dX3_work_4 : decode cX3_work 4 = .ok (.ifCond .eq 12, 3) := by decide +kernel
theorem dX3_work_7 : decode cX3_work 7 = .ok (.aload_n 0, 1) := by decide +kernel
theorem dX3_work_8 : decode cX3_work 8 = .ok (.getfield 42, 3) := by decide +kernel
theorem dX3_work_11 : decode cX3_work 11 = .ok (.bipush 10, 2) := by decide +kernel
theorem dX3_work_13 : decode cX3_work 13 = .ok (.if_icmp .lt 4, 3) := by decide +kernel
theorem dX3_work_16 : decode cX3_work 16 = .ok (.return_, 1) := by decide +kernel
theorem dX3_work_17 : decode cX3_work 17 = .ok (.aload_n 0, 1) := by decide +kernel
theorem dX3_work_18 : decode cX3_work 18 = .ok (.iload_n 1, 1) := by decide +kernel
theorem dX3_work_19 : decode cX3_work 19 = .ok (.putfield 109, 3) := by decide +kernel
theorem dX3_work_22 : decode cX3_work 22 = .ok (.aload_n 0, 1) := by decide +kernel
theorem dX3_work_23 : decode cX3_work 23 = .ok (.iconst 1, 1) := by decide +kernel
theorem dX3_work_24 : decode cX3_work 24 = .ok (.putfield 112, 3) := by decide +kernel
theorem dX3_work_27 : decode cX3_work 27 = .ok (.iconst 0, 1) := by decide +kernel
theorem dX3_work_28 : decode cX3_work 28 = .ok (.istore_n 2, 1) := by decide +kernel
theorem dX3_work_29 : decode cX3_work 29 = .ok (.iload_n 2, 1) := by decide +kernel
theorem dX3_work_30 : decode cX3_work 30 = .ok (.ldc 116, 2) := by decide +kernel
theorem dX3_work_32 : decode cX3_work 32 = .ok (.if_icmp .ge 233, 3) := by decide +kernel
theorem dX3_work_35 : decode cX3_work 35 = .ok (.aload_n 0, 1) := by decide +kernel
theorem dX3_work_36 : decode cX3_work 36 = .ok (.getfield 112, 3) := by decide +kernel
theorem dX3_work_39 : decode cX3_work 39 = .ok (.ifCond .eq 226, 3) := by decide +kernel
theorem dX3_work_42 : decode cX3_work 42 = .ok (.aload_n 0, 1) := by decide +kernel
theorem dX3_work_43 : decode cX3_work 43 = .ok (.getfield 46, 3) := by decide +kernel
theorem dX3_work_46 : decode cX3_work 46 = .ok (.aload_n 0, 1) := by decide +kernel
theorem dX3_work_47 : decode cX3_work 47 = .ok (.getfield 77, 3) := by decide +kernel
theorem dX3_work_50 : decode cX3_work 50 = .ok (.invokevirtual 117, 3) := by decide +kernel
theorem dX3_work_53 : decode cX3_work 53 = .ok (.istore_n 3, 1) := by decide +kernel
theorem dX3_work_54 : decode cX3_work 54 = .ok (.aload_n 0, 1) := by decide +kernel
theorem dX3_work_55 : decode cX3_work 55 = .ok (.getfield 46, 3) := by decide +kernel
theorem dX3_work_58 : decode cX3_work 58 = .ok (.aload_n 0, 1) := by decide +kernel
theorem dX3_work_59 : decode cX3_work 59 = .ok (.getfield 77, 3) := by decide +kernel
theorem dX3_work_62 : decode cX3_work 62 = .ok (.invokevirtual 121, 3) := by decide +kernel
theorem dX3_work_65 : decode cX3_work 65 = .ok (.istore 4, 2) := by decide +kernel
theorem dX3_work_67 : decode cX3_work 67 = .ok (.iload_n 3, 1) := by decide +kernel
theorem dX3_work_68 : decode cX3_work 68 = .ok (.tableswitch 184 16 36 #[100, 100, 100, 110, 110, 110, 120, 120, 120, 130, 184, 184, 184, 184, 166, 166, 139, 139, 159, 166, 176], 100) := by decide +kernel
theorem dX3_work_168 : decode cX3_work 168 = .ok (.aload_n 0, 1) := by decide +kernel
theorem dX3_work_169 : decode cX3_work 169 = .ok (.iload_n 3, 1) := by decide +kernel
theorem dX3_work_170 : decode cX3_work 170 = .ok (.iload 4, 2) := by decide +kernel
theorem dX3_work_172 : decode cX3_work 172 = .ok (.invokevirtual 124, 3) := by decide +kernel
theorem dX3_work_175 : decode cX3_work 175 = .ok (.goto 84, 3) := by decide +kernel
theorem dX3_work_178 : decode cX3_work 178 = .ok (.aload_n 0, 1) := by decide +kernel
theorem dX3_work_179 : decode cX3_work 179 = .ok (.iload_n 3, 1) := by decide +kernel
theorem dX3_work_180 : decode cX3_work 180 = .ok (.iload 4, 2) := by decide +kernel
theorem dX3_work_182 : decode cX3_work 182 = .ok (.invokevirtual 128, 3) := by decide +kernel
theorem dX3_work_185 : decode cX3_work 185 = .ok (.goto 74, 3) := by decide +kernel
theorem dX3_work_188 : decode cX3_work 188 = .ok (.aload_n 0, 1) := by decide +kernel
theorem dX3_work_189 : decode cX3_work 189 = .ok (.iload_n 3, 1) := by decide +kernel
theorem dX3_work_190 : decode cX3_work 190 = .ok (.iload 4, 2) := by decide +kernel
theorem dX3_work_192 : decode cX3_work 192 = .ok (.invokevirtual 131, 3) := by decide +kernel
theorem dX3_work_195 : decode cX3_work 195 = .ok (.goto 64, 3) := by decide +kernel
theorem dX3_work_198 : decode cX3_work 198 = .ok (.aload_n 0, 1) := by decide +kernel
theorem dX3_work_199 : decode cX3_work 199 = .ok (.iload 4, 2) := by decide +kernel
theorem dX3_work_201 : decode cX3_work 201 = .ok (.invokevirtual 134, 3) := by decide +kernel
theorem dX3_work_204 : decode cX3_work 204 = .ok (.goto 55, 3) := by decide +kernel
theorem dX3_work_207 : decode cX3_work 207 = .ok (.aload_n 0, 1) := by decide +kernel
theorem dX3_work_208 : decode cX3_work 208 = .ok (.iload 4, 2) := by decide +kernel
theorem dX3_work_210 : decode cX3_work 210 = .ok (.iload_n 3, 1) := by decide +kernel
theorem dX3_work_211 : decode cX3_work 211 = .ok (.bipush 33, 2) := by decide +kernel
theorem dX3_work_213 : decode cX3_work 213 = .ok (.if_icmp .ne 7, 3) := by decide +kernel
theorem dX3_work_216 : decode cX3_work 216 = .ok (.iconst 1, 1) := by decide +kernel
theorem dX3_work_217 : decode cX3_work 217 = .ok (.goto 4, 3) := by decide +kernel
theorem dX3_work_220 : decode cX3_work 220 = .ok (.iconst 0, 1) := by decide +kernel
theorem dX3_work_221 : decode cX3_work 221 = .ok (.invokevirtual 138, 3) := by decide +kernel
theorem dX3_work_224 : decode cX3_work 224 = .ok (.goto 35, 3) := by decide +kernel
theorem dX3_work_227 : decode cX3_work 227 = .ok (.aload_n 0, 1) := by decide +kernel
theorem dX3_work_228 : decode cX3_work 228 = .ok (.invokevirtual 142, 3) := by decide +kernel
theorem dX3_work_231 : decode cX3_work 231 = .ok (.goto 28, 3) := by decide +kernel
theorem dX3_work_234 : decode cX3_work 234 = .ok (.aload_n 0, 1) := by decide +kernel
theorem dX3_work_235 : decode cX3_work 235 = .ok (.iload_n 3, 1) := by decide +kernel
theorem dX3_work_236 : decode cX3_work 236 = .ok (.iload 4, 2) := by decide +kernel
theorem dX3_work_238 : decode cX3_work 238 = .ok (.invokevirtual 145, 3) := by decide +kernel
theorem dX3_work_241 : decode cX3_work 241 = .ok (.goto 18, 3) := by decide +kernel
theorem dX3_work_244 : decode cX3_work 244 = .ok (.aload_n 0, 1) := by decide +kernel
theorem dX3_work_245 : decode cX3_work 245 = .ok (.iconst 0, 1) := by decide +kernel
theorem dX3_work_246 : decode cX3_work 246 = .ok (.invokevirtual 148, 3) := by decide +kernel
theorem dX3_work_249 : decode cX3_work 249 = .ok (.goto 10, 3) := by decide +kernel
theorem dX3_work_252 : decode cX3_work 252 = .ok (.aload_n 0, 1) := by decide +kernel
theorem dX3_work_253 : decode cX3_work 253 = .ok (.iload_n 3, 1) := by decide +kernel
theorem dX3_work_254 : decode cX3_work 254 = .ok (.iload 4, 2) := by decide +kernel
theorem dX3_work_256 : decode cX3_work 256 = .ok (.invokevirtual 151, 3) := by decide +kernel
theorem dX3_work_259 : decode cX3_work 259 = .ok (.iinc 2 1, 3) := by decide +kernel
theorem dX3_work_262 : decode cX3_work 262 = .ok (.goto (-233), 3) := by decide +kernel
theorem dX3_work_265 : decode cX3_work 265 = .ok (.return_, 1) := by decide +kernel
theorem dX3_hold_0 : decode cX3_hold 0 = .ok (.aload_n 0, 1) := by decide +kernel
theorem dX3_hold_1 : decode cX3_hold 1 = .ok (.iload_n 1, 1) := by decide +kernel
theorem dX3_hold_2 : decode cX3_hold 2 = .ok (.putfield 42, 3) := by decide +kernel
theorem dX3_hold_5 : decode cX3_hold 5 = .ok (.aload_n 0, 1) := by decide +kernel
theorem dX3_hold_6 : decode cX3_hold 6 = .ok (.iconst 0, 1) := by decide +kernel
theorem dX3_hold_7 : decode cX3_hold 7 = .ok (.putfield 112, 3) := by decide +kernel
theorem dX3_hold_10 : decode cX3_hold 10 = .ok (.return_, 1) := by decide +kernel
theorem dX3_fail_0 : decode cX3_fail 0 = .ok (.aload_n 0, 1) := by decide +kernel
theorem dX3_fail_1 : decode cX3_fail 1 = .ok (.bipush 10, 2) := by decide +kernel
theorem dX3_fail_3 : decode cX3_fail 3 = .ok (.iload_n 1, 1) := by decide +kernel
theorem dX3_fail_4 : decode cX3_fail 4 = .ok (.iadd, 1) := by decide +kernel
theorem dX3_fail_5 : decode cX3_fail 5 = .ok (.putfield 42, 3) := by decide +kernel
theorem dX3_fail_8 : decode cX3_fail 8 = .ok (.aload_n 0, 1) := by decide +kernel
theorem dX3_fail_9 : decode cX3_fail 9 = .ok (.iconst 0, 1) := by decide +kernel
theorem dX3_fail_10 : decode cX3_fail 10 = .ok (.putfield 112, 3) := by decide +kernel
theorem dX3_fail_13 : decode cX3_fail 13 = .ok (.return_, 1) := by decide +kernel
theorem dX3_push_0 : decode cX3_push 0 = .ok (.aload_n 0, 1) := by decide +kernel
theorem dX3_push_1 : decode cX3_push 1 = .ok (.getfield 68, 3) := by decide +kernel
theorem dX3_push_4 : decode cX3_push 4 = .ok (.aload_n 0, 1) := by decide +kernel
theorem dX3_push_5 : decode cX3_push 5 = .ok (.getfield 25, 3) := by decide +kernel
theorem dX3_push_8 : decode cX3_push 8 = .ok (.arraylength, 1) := by decide +kernel
theorem dX3_push_9 : decode cX3_push 9 = .ok (.if_icmp .ge 23, 3) := by decide +kernel
theorem dX3_push_12 : decode cX3_push 12 = .ok (.aload_n 0, 1) := by decide +kernel
theorem dX3_push_13 : decode cX3_push 13 = .ok (.getfield 25, 3) := by decide +kernel
theorem dX3_push_16 : decode cX3_push 16 = .ok (.aload_n 0, 1) := by decide +kernel
theorem dX3_push_17 : decode cX3_push 17 = .ok (.getfield 68, 3) := by decide +kernel
theorem dX3_push_20 : decode cX3_push 20 = .ok (.lload_n 1, 1) := by decide +kernel
theorem dX3_push_21 : decode cX3_push 21 = .ok (.lastore, 1) := by decide +kernel
theorem dX3_push_22 : decode cX3_push 22 = .ok (.aload_n 0, 1) := by decide +kernel
theorem dX3_push_23 : decode cX3_push 23 = .ok (.dup, 1) := by decide +kernel
theorem dX3_push_24 : decode cX3_push 24 = .ok (.getfield 68, 3) := by decide +kernel
theorem dX3_push_27 : decode cX3_push 27 = .ok (.iconst 1, 1) := by decide +kernel
theorem dX3_push_28 : decode cX3_push 28 = .ok (.iadd, 1) := by decide +kernel
theorem dX3_push_29 : decode cX3_push 29 = .ok (.putfield 68, 3) := by decide +kernel
theorem dX3_push_32 : decode cX3_push 32 = .ok (.return_, 1) := by decide +kernel
theorem dX3_pop_0 : decode cX3_pop 0 = .ok (.aload_n 0, 1) := by decide +kernel
theorem dX3_pop_1 : decode cX3_pop 1 = .ok (.getfield 68, 3) := by decide +kernel
theorem dX3_pop_4 : decode cX3_pop 4 = .ok (.ifCond .le 13, 3) := by decide +kernel
theorem dX3_pop_7 : decode cX3_pop 7 = .ok (.aload_n 0, 1) := by decide +kernel
theorem dX3_pop_8 : decode cX3_pop 8 = .ok (.dup, 1) := by decide +kernel
theorem dX3_pop_9 : decode cX3_pop 9 = .ok (.getfield 68, 3) := by decide +kernel
theorem dX3_pop_12 : decode cX3_pop 12 = .ok (.iconst 1, 1) := by decide +kernel
theorem dX3_pop_13 : decode cX3_pop 13 = .ok (.isub, 1) := by decide +kernel
theorem dX3_pop_14 : decode cX3_pop 14 = .ok (.putfield 68, 3) := by decide +kernel
theorem dX3_pop_17 : decode cX3_pop 17 = .ok (.aload_n 0, 1) := by decide +kernel
theorem dX3_pop_18 : decode cX3_pop 18 = .ok (.aload_n 0, 1) := by decide +kernel
theorem dX3_pop_19 : decode cX3_pop 19 = .ok (.getfield 68, 3) := by decide +kernel
theorem dX3_pop_22 : decode cX3_pop 22 = .ok (.invokevirtual 154, 3) := by decide +kernel
theorem dX3_pop_25 : decode cX3_pop 25 = .ok (.lreturn, 1) := by decide +kernel
theorem dX3_peek_0 : decode cX3_peek 0 = .ok (.iload_n 1, 1) := by decide +kernel
theorem dX3_peek_1 : decode cX3_peek 1 = .ok (.ifCond .lt 21, 3) := by decide +kernel
theorem dX3_peek_4 : decode cX3_peek 4 = .ok (.iload_n 1, 1) := by decide +kernel
theorem dX3_peek_5 : decode cX3_peek 5 = .ok (.aload_n 0, 1) := by decide +kernel
theorem dX3_peek_6 : decode cX3_peek 6 = .ok (.getfield 25, 3) := by decide +kernel
theorem dX3_peek_9 : decode cX3_peek 9 = .ok (.arraylength, 1) := by decide +kernel
theorem dX3_peek_10 : decode cX3_peek 10 = .ok (.if_icmp .ge 12, 3) := by decide +kernel
theorem dX3_peek_13 : decode cX3_peek 13 = .ok (.aload_n 0, 1) := by decide +kernel
theorem dX3_peek_14 : decode cX3_peek 14 = .ok (.getfield 25, 3) := by decide +kernel
theorem dX3_peek_17 : decode cX3_peek 17 = .ok (.iload_n 1, 1) := by decide +kernel
theorem dX3_peek_18 : decode cX3_peek 18 = .ok (.laload, 1) := by decide +kernel
theorem dX3_peek_19 : decode cX3_peek 19 = .ok (.goto 4, 3) := by decide +kernel
theorem dX3_peek_22 : decode cX3_peek 22 = .ok (.lconst 0, 1) := by decide +kernel
theorem dX3_peek_23 : decode cX3_peek 23 = .ok (.lreturn, 1) := by decide +kernel
theorem dX3_poke_0 : decode cX3_poke 0 = .ok (.iload_n 1, 1) := by decide +kernel
theorem dX3_poke_1 : decode cX3_poke 1 = .ok (.ifCond .lt 19, 3) := by decide +kernel
theorem dX3_poke_4 : decode cX3_poke 4 = .ok (.iload_n 1, 1) := by decide +kernel
theorem dX3_poke_5 : decode cX3_poke 5 = .ok (.aload_n 0, 1) := by decide +kernel
theorem dX3_poke_6 : decode cX3_poke 6 = .ok (.getfield 25, 3) := by decide +kernel
theorem dX3_poke_9 : decode cX3_poke 9 = .ok (.arraylength, 1) := by decide +kernel
theorem dX3_poke_10 : decode cX3_poke 10 = .ok (.if_icmp .ge 10, 3) := by decide +kernel
theorem dX3_poke_13 : decode cX3_poke 13 = .ok (.aload_n 0, 1) := by decide +kernel
theorem dX3_poke_14 : decode cX3_poke 14 = .ok (.getfield 25, 3) := by decide +kernel
theorem dX3_poke_17 : decode cX3_poke 17 = .ok (.iload_n 1, 1) := by decide +kernel
theorem dX3_poke_18 : decode cX3_poke 18 = .ok (.lload_n 2, 1) := by decide +kernel
theorem dX3_poke_19 : decode cX3_poke 19 = .ok (.lastore, 1) := by decide +kernel
theorem dX3_poke_20 : decode cX3_poke 20 = .ok (.return_, 1) := by decide +kernel
theorem dX3_readVariable_0 : decode cX3_readVariable 0 = .ok (.aload_n 0, 1) := by decide +kernel
theorem dX3_readVariable_1 : decode cX3_readVariable 1 = .ok (.iload_n 1, 1) := by decide +kernel
theorem dX3_readVariable_2 : decode cX3_readVariable 2 = .ok (.iload_n 2, 1) := by decide +kernel
theorem dX3_readVariable_3 : decode cX3_readVariable 3 = .ok (.invokevirtual 158, 3) := by decide +kernel
theorem dX3_readVariable_6 : decode cX3_readVariable 6 = .ok (.lstore_n 3, 1) := by decide +kernel
theorem dX3_readVariable_7 : decode cX3_readVariable 7 = .ok (.lload_n 3, 1) := by decide +kernel
theorem dX3_readVariable_8 : decode cX3_readVariable 8 = .ok (.invokestatic 105, 3) := by decide +kernel
theorem dX3_readVariable_11 : decode cX3_readVariable 11 = .ok (.bipush 9, 2) := by decide +kernel
theorem dX3_readVariable_13 : decode cX3_readVariable 13 = .ok (.if_icmp .ne 9, 3) := by decide +kernel
theorem dX3_readVariable_16 : decode cX3_readVariable 16 = .ok (.aload_n 0, 1) := by decide +kernel
theorem dX3_readVariable_17 : decode cX3_readVariable 17 = .ok (.iconst 5, 1) := by decide +kernel
theorem dX3_readVariable_18 : decode cX3_readVariable 18 = .ok (.invokevirtual 161, 3) := by decide +kernel
theorem dX3_readVariable_21 : decode cX3_readVariable 21 = .ok (.return_, 1) := by decide +kernel
theorem dX3_readVariable_22 : decode cX3_readVariable 22 = .ok (.aload_n 0, 1) := by decide +kernel
theorem dX3_readVariable_23 : decode cX3_readVariable 23 = .ok (.lload_n 3, 1) := by decide +kernel
theorem dX3_readVariable_24 : decode cX3_readVariable 24 = .ok (.invokevirtual 164, 3) := by decide +kernel
theorem dX3_readVariable_27 : decode cX3_readVariable 27 = .ok (.aload_n 0, 1) := by decide +kernel
theorem dX3_readVariable_28 : decode cX3_readVariable 28 = .ok (.dup, 1) := by decide +kernel
theorem dX3_readVariable_29 : decode cX3_readVariable 29 = .ok (.getfield 77, 3) := by decide +kernel
theorem dX3_readVariable_32 : decode cX3_readVariable 32 = .ok (.iconst 1, 1) := by decide +kernel
theorem dX3_readVariable_33 : decode cX3_readVariable 33 = .ok (.iadd, 1) := by decide +kernel
theorem dX3_readVariable_34 : decode cX3_readVariable 34 = .ok (.putfield 77, 3) := by decide +kernel
theorem dX3_readVariable_37 : decode cX3_readVariable 37 = .ok (.return_, 1) := by decide +kernel
theorem dX3_setVariable_0 : decode cX3_setVariable 0 = .ok (.aload_n 0, 1) := by decide +kernel
theorem dX3_setVariable_1 : decode cX3_setVariable 1 = .ok (.iload_n 1, 1) := by decide +kernel
theorem dX3_setVariable_2 : decode cX3_setVariable 2 = .ok (.bipush 19, 2) := by decide +kernel
theorem dX3_setVariable_4 : decode cX3_setVariable 4 = .ok (.isub, 1) := by decide +kernel
theorem dX3_setVariable_5 : decode cX3_setVariable 5 = .ok (.bipush 16, 2) := by decide +kernel
theorem dX3_setVariable_7 : decode cX3_setVariable 7 = .ok (.iadd, 1) := by decide +kernel
theorem dX3_setVariable_8 : decode cX3_setVariable 8 = .ok (.iload_n 2, 1) := by decide +kernel
theorem dX3_setVariable_9 : decode cX3_setVariable 9 = .ok (.invokevirtual 158, 3) := by decide +kernel
theorem dX3_setVariable_12 : decode cX3_setVariable 12 = .ok (.lstore_n 3, 1) := by decide +kernel
theorem dX3_setVariable_13 : decode cX3_setVariable 13 = .ok (.lload_n 3, 1) := by decide +kernel
theorem dX3_setVariable_14 : decode cX3_setVariable 14 = .ok (.invokestatic 105, 3) := by decide +kernel
theorem dX3_setVariable_17 : decode cX3_setVariable 17 = .ok (.bipush 9, 2) := by decide +kernel
theorem dX3_setVariable_19 : decode cX3_setVariable 19 = .ok (.if_icmp .ne 9, 3) := by decide +kernel
theorem dX3_setVariable_22 : decode cX3_setVariable 22 = .ok (.aload_n 0, 1) := by decide +kernel
theorem dX3_setVariable_23 : decode cX3_setVariable 23 = .ok (.iconst 5, 1) := by decide +kernel
theorem dX3_setVariable_24 : decode cX3_setVariable 24 = .ok (.invokevirtual 161, 3) := by decide +kernel
theorem dX3_setVariable_27 : decode cX3_setVariable 27 = .ok (.return_, 1) := by decide +kernel
theorem dX3_setVariable_28 : decode cX3_setVariable 28 = .ok (.aload_n 0, 1) := by decide +kernel
theorem dX3_setVariable_29 : decode cX3_setVariable 29 = .ok (.invokevirtual 168, 3) := by decide +kernel
theorem dX3_setVariable_32 : decode cX3_setVariable 32 = .ok (.lstore 5, 2) := by decide +kernel
theorem dX3_setVariable_34 : decode cX3_setVariable 34 = .ok (.iload_n 1, 1) := by decide +kernel
theorem dX3_setVariable_35 : decode cX3_setVariable 35 = .ok (.bipush 19, 2) := by decide +kernel
theorem dX3_setVariable_37 : decode cX3_setVariable 37 = .ok (.if_icmp .ne 18, 3) := by decide +kernel
theorem dX3_setVariable_40 : decode cX3_setVariable 40 = .ok (.aload_n 0, 1) := by decide +kernel
theorem dX3_setVariable_41 : decode cX3_setVariable 41 = .ok (.aload_n 0, 1) := by decide +kernel
theorem dX3_setVariable_42 : decode cX3_setVariable 42 = .ok (.getfield 71, 3) := by decide +kernel
theorem dX3_setVariable_45 : decode cX3_setVariable 45 = .ok (.iload_n 2, 1) := by decide +kernel
theorem dX3_setVariable_46 : decode cX3_setVariable 46 = .ok (.iadd, 1) := by decide +kernel
theorem dX3_setVariable_47 : decode cX3_setVariable 47 = .ok (.lload 5, 2) := by decide +kernel
theorem dX3_setVariable_49 : decode cX3_setVariable 49 = .ok (.invokevirtual 172, 3) := by decide +kernel
theorem dX3_setVariable_52 : decode cX3_setVariable 52 = .ok (.goto 40, 3) := by decide +kernel
theorem dX3_setVariable_55 : decode cX3_setVariable 55 = .ok (.iload_n 1, 1) := by decide +kernel
theorem dX3_setVariable_56 : decode cX3_setVariable 56 = .ok (.bipush 20, 2) := by decide +kernel
theorem dX3_setVariable_58 : decode cX3_setVariable 58 = .ok (.if_icmp .ne 27, 3) := by decide +kernel
theorem dX3_setVariable_61 : decode cX3_setVariable 61 = .ok (.aload_n 0, 1) := by decide +kernel
theorem dX3_setVariable_62 : decode cX3_setVariable 62 = .ok (.getfield 12, 3) := by decide +kernel
theorem dX3_setVariable_65 : decode cX3_setVariable 65 = .ok (.aload_n 0, 1) := by decide +kernel
theorem dX3_setVariable_66 : decode cX3_setVariable 66 = .ok (.getfield 12, 3) := by decide +kernel
theorem dX3_setVariable_69 : decode cX3_setVariable 69 = .ok (.aload_n 0, 1) := by decide +kernel
theorem dX3_setVariable_70 : decode cX3_setVariable 70 = .ok (.getfield 74, 3) := by decide +kernel
theorem dX3_setVariable_73 : decode cX3_setVariable 73 = .ok (.iload_n 2, 1) := by decide +kernel
theorem dX3_setVariable_74 : decode cX3_setVariable 74 = .ok (.invokevirtual 176, 3) := by decide +kernel
theorem dX3_setVariable_77 : decode cX3_setVariable 77 = .ok (.lload 5, 2) := by decide +kernel
theorem dX3_setVariable_79 : decode cX3_setVariable 79 = .ok (.invokevirtual 180, 3) := by decide +kernel
theorem dX3_setVariable_82 : decode cX3_setVariable 82 = .ok (.goto 10, 3) := by decide +kernel
theorem dX3_setVariable_85 : decode cX3_setVariable 85 = .ok (.aload_n 0, 1) := by decide +kernel
theorem dX3_setVariable_86 : decode cX3_setVariable 86 = .ok (.iload_n 2, 1) := by decide +kernel
theorem dX3_setVariable_87 : decode cX3_setVariable 87 = .ok (.lload 5, 2) := by decide +kernel
theorem dX3_setVariable_89 : decode cX3_setVariable 89 = .ok (.invokevirtual 183, 3) := by decide +kernel
theorem dX3_setVariable_92 : decode cX3_setVariable 92 = .ok (.aload_n 0, 1) := by decide +kernel
theorem dX3_setVariable_93 : decode cX3_setVariable 93 = .ok (.lconst 0, 1) := by decide +kernel
theorem dX3_setVariable_94 : decode cX3_setVariable 94 = .ok (.invokevirtual 164, 3) := by decide +kernel
theorem dX3_setVariable_97 : decode cX3_setVariable 97 = .ok (.aload_n 0, 1) := by decide +kernel
theorem dX3_setVariable_98 : decode cX3_setVariable 98 = .ok (.dup, 1) := by decide +kernel
theorem dX3_setVariable_99 : decode cX3_setVariable 99 = .ok (.getfield 77, 3) := by decide +kernel
theorem dX3_setVariable_102 : decode cX3_setVariable 102 = .ok (.iconst 1, 1) := by decide +kernel
theorem dX3_setVariable_103 : decode cX3_setVariable 103 = .ok (.iadd, 1) := by decide +kernel
theorem dX3_setVariable_104 : decode cX3_setVariable 104 = .ok (.putfield 77, 3) := by decide +kernel
theorem dX3_setVariable_107 : decode cX3_setVariable 107 = .ok (.return_, 1) := by decide +kernel
theorem dX3_binding_0 : decode cX3_binding 0 = .ok (.iload_n 1, 1) := by decide +kernel
theorem dX3_binding_1 : decode cX3_binding 1 = .ok (.bipush 16, 2) := by decide +kernel
theorem dX3_binding_3 : decode cX3_binding 3 = .ok (.if_icmp .ne 39, 3) := by decide +kernel
theorem dX3_binding_6 : decode cX3_binding 6 = .ok (.aload_n 0, 1) := by decide +kernel
theorem dX3_binding_7 : decode cX3_binding 7 = .ok (.aload_n 0, 1) := by decide +kernel
theorem dX3_binding_8 : decode cX3_binding 8 = .ok (.getfield 71, 3) := by decide +kernel
theorem dX3_binding_11 : decode cX3_binding 11 = .ok (.iload_n 2, 1) := by decide +kernel
theorem dX3_binding_12 : decode cX3_binding 12 = .ok (.iadd, 1) := by decide +kernel
theorem dX3_binding_13 : decode cX3_binding 13 = .ok (.invokevirtual 154, 3) := by decide +kernel
theorem dX3_binding_16 : decode cX3_binding 16 = .ok (.lstore_n 3, 1) := by decide +kernel
theorem dX3_binding_17 : decode cX3_binding 17 = .ok (.lload_n 3, 1) := by decide +kernel
theorem dX3_binding_18 : decode cX3_binding 18 = .ok (.invokestatic 105, 3) := by decide +kernel
theorem dX3_binding_21 : decode cX3_binding 21 = .ok (.bipush 10, 2) := by decide +kernel
theorem dX3_binding_23 : decode cX3_binding 23 = .ok (.if_icmp .ne 17, 3) := by decide +kernel
theorem dX3_binding_26 : decode cX3_binding 26 = .ok (.aload_n 0, 1) := by decide +kernel
theorem dX3_binding_27 : decode cX3_binding 27 = .ok (.getfield 12, 3) := by decide +kernel
theorem dX3_binding_30 : decode cX3_binding 30 = .ok (.lload_n 3, 1) := by decide +kernel
theorem dX3_binding_31 : decode cX3_binding 31 = .ok (.invokestatic 186, 3) := by decide +kernel
theorem dX3_binding_34 : decode cX3_binding 34 = .ok (.invokevirtual 189, 3) := by decide +kernel
theorem dX3_binding_37 : decode cX3_binding 37 = .ok (.goto 4, 3) := by decide +kernel
theorem dX3_binding_40 : decode cX3_binding 40 = .ok (.lload_n 3, 1) := by decide +kernel
theorem dX3_binding_41 : decode cX3_binding 41 = .ok (.lreturn, 1) := by decide +kernel
theorem dX3_binding_42 : decode cX3_binding 42 = .ok (.iload_n 1, 1) := by decide +kernel
theorem dX3_binding_43 : decode cX3_binding 43 = .ok (.bipush 17, 2) := by decide +kernel
theorem dX3_binding_45 : decode cX3_binding 45 = .ok (.if_icmp .ne 23, 3) := by decide +kernel
theorem dX3_binding_48 : decode cX3_binding 48 = .ok (.aload_n 0, 1) := by decide +kernel
theorem dX3_binding_49 : decode cX3_binding 49 = .ok (.getfield 12, 3) := by decide +kernel
theorem dX3_binding_52 : decode cX3_binding 52 = .ok (.aload_n 0, 1) := by decide +kernel
theorem dX3_binding_53 : decode cX3_binding 53 = .ok (.getfield 12, 3) := by decide +kernel
theorem dX3_binding_56 : decode cX3_binding 56 = .ok (.aload_n 0, 1) := by decide +kernel
theorem dX3_binding_57 : decode cX3_binding 57 = .ok (.getfield 74, 3) := by decide +kernel
theorem dX3_binding_60 : decode cX3_binding 60 = .ok (.iload_n 2, 1) := by decide +kernel
theorem dX3_binding_61 : decode cX3_binding 61 = .ok (.invokevirtual 176, 3) := by decide +kernel
theorem dX3_binding_64 : decode cX3_binding 64 = .ok (.invokevirtual 189, 3) := by decide +kernel
theorem dX3_binding_67 : decode cX3_binding 67 = .ok (.lreturn, 1) := by decide +kernel
theorem dX3_binding_68 : decode cX3_binding 68 = .ok (.iload_n 2, 1) := by decide +kernel
theorem dX3_binding_69 : decode cX3_binding 69 = .ok (.ifCond .lt 18, 3) := by decide +kernel
theorem dX3_binding_72 : decode cX3_binding 72 = .ok (.iload_n 2, 1) := by decide +kernel
theorem dX3_binding_73 : decode cX3_binding 73 = .ok (.bipush 100, 2) := by decide +kernel
theorem dX3_binding_75 : decode cX3_binding 75 = .ok (.if_icmp .ge 12, 3) := by decide +kernel
theorem dX3_binding_78 : decode cX3_binding 78 = .ok (.aload_n 0, 1) := by decide +kernel
theorem dX3_binding_79 : decode cX3_binding 79 = .ok (.getfield 39, 3) := by decide +kernel
theorem dX3_binding_82 : decode cX3_binding 82 = .ok (.iload_n 2, 1) := by decide +kernel
theorem dX3_binding_83 : decode cX3_binding 83 = .ok (.laload, 1) := by decide +kernel
theorem dX3_binding_84 : decode cX3_binding 84 = .ok (.goto 4, 3) := by decide +kernel
theorem dX3_binding_87 : decode cX3_binding 87 = .ok (.lconst 0, 1) := by decide +kernel
theorem dX3_binding_88 : decode cX3_binding 88 = .ok (.lreturn, 1) := by decide +kernel
theorem dX3_setSlot_0 : decode cX3_setSlot 0 = .ok (.aload_n 0, 1) := by decide +kernel
theorem dX3_setSlot_1 : decode cX3_setSlot 1 = .ok (.iload_n 1, 1) := by decide +kernel
theorem dX3_setSlot_2 : decode cX3_setSlot 2 = .ok (.invokevirtual 154, 3) := by decide +kernel
theorem dX3_setSlot_5 : decode cX3_setSlot 5 = .ok (.lstore 4, 2) := by decide +kernel
theorem dX3_setSlot_7 : decode cX3_setSlot 7 = .ok (.lload 4, 2) := by decide +kernel
theorem dX3_setSlot_9 : decode cX3_setSlot 9 = .ok (.invokestatic 105, 3) := by decide +kernel
theorem dX3_setSlot_12 : decode cX3_setSlot 12 = .ok (.bipush 10, 2) := by decide +kernel
theorem dX3_setSlot_14 : decode cX3_setSlot 14 = .ok (.if_icmp .ne 19, 3) := by decide +kernel
theorem dX3_setSlot_17 : decode cX3_setSlot 17 = .ok (.aload_n 0, 1) := by decide +kernel
theorem dX3_setSlot_18 : decode cX3_setSlot 18 = .ok (.getfield 12, 3) := by decide +kernel
theorem dX3_setSlot_21 : decode cX3_setSlot 21 = .ok (.lload 4, 2) := by decide +kernel
theorem dX3_setSlot_23 : decode cX3_setSlot 23 = .ok (.invokestatic 186, 3) := by decide +kernel
theorem dX3_setSlot_26 : decode cX3_setSlot 26 = .ok (.lload_n 2, 1) := by decide +kernel
theorem dX3_setSlot_27 : decode cX3_setSlot 27 = .ok (.invokevirtual 180, 3) := by decide +kernel
theorem dX3_setSlot_30 : decode cX3_setSlot 30 = .ok (.goto 9, 3) := by decide +kernel
theorem dX3_setSlot_33 : decode cX3_setSlot 33 = .ok (.aload_n 0, 1) := by decide +kernel
theorem dX3_setSlot_34 : decode cX3_setSlot 34 = .ok (.iload_n 1, 1) := by decide +kernel
theorem dX3_setSlot_35 : decode cX3_setSlot 35 = .ok (.lload_n 2, 1) := by decide +kernel
theorem dX3_setSlot_36 : decode cX3_setSlot 36 = .ok (.invokevirtual 192, 3) := by decide +kernel
theorem dX3_setSlot_39 : decode cX3_setSlot 39 = .ok (.return_, 1) := by decide +kernel
theorem dX3_setGlobal_0 : decode cX3_setGlobal 0 = .ok (.iload_n 1, 1) := by decide +kernel
theorem dX3_setGlobal_1 : decode cX3_setGlobal 1 = .ok (.ifCond .lt 16, 3) := by decide +kernel
theorem dX3_setGlobal_4 : decode cX3_setGlobal 4 = .ok (.iload_n 1, 1) := by decide +kernel
theorem dX3_setGlobal_5 : decode cX3_setGlobal 5 = .ok (.bipush 100, 2) := by decide +kernel
theorem dX3_setGlobal_7 : decode cX3_setGlobal 7 = .ok (.if_icmp .ge 10, 3) := by decide +kernel
theorem dX3_setGlobal_10 : decode cX3_setGlobal 10 = .ok (.aload_n 0, 1) := by decide +kernel
theorem dX3_setGlobal_11 : decode cX3_setGlobal 11 = .ok (.getfield 39, 3) := by decide +kernel
theorem dX3_setGlobal_14 : decode cX3_setGlobal 14 = .ok (.iload_n 1, 1) := by decide +kernel
theorem dX3_setGlobal_15 : decode cX3_setGlobal 15 = .ok (.lload_n 2, 1) := by decide +kernel
theorem dX3_setGlobal_16 : decode cX3_setGlobal 16 = .ok (.lastore, 1) := by decide +kernel
theorem dX3_setGlobal_17 : decode cX3_setGlobal 17 = .ok (.return_, 1) := by decide +kernel
theorem dX3_beginBinding_0 : decode cX3_beginBinding 0 = .ok (.iload_n 1, 1) := by decide +kernel
theorem dX3_beginBinding_1 : decode cX3_beginBinding 1 = .ok (.bipush 22, 2) := by decide +kernel
theorem dX3_beginBinding_3 : decode cX3_beginBinding 3 = .ok (.if_icmp .ne 29, 3) := by decide +kernel
theorem dX3_beginBinding_6 : decode cX3_beginBinding 6 = .ok (.iconst 0, 1) := by decide +kernel
theorem dX3_beginBinding_7 : decode cX3_beginBinding 7 = .ok (.istore_n 3, 1) := by decide +kernel
theorem dX3_beginBinding_8 : decode cX3_beginBinding 8 = .ok (.iload_n 3, 1) := by decide +kernel
theorem dX3_beginBinding_9 : decode cX3_beginBinding 9 = .ok (.iload_n 2, 1) := by decide +kernel
theorem dX3_beginBinding_10 : decode cX3_beginBinding 10 = .ok (.if_icmp .ge 19, 3) := by decide +kernel
theorem dX3_beginBinding_13 : decode cX3_beginBinding 13 = .ok (.aload_n 0, 1) := by decide +kernel
theorem dX3_beginBinding_14 : decode cX3_beginBinding 14 = .ok (.bipush 9, 2) := by decide +kernel
theorem dX3_beginBinding_16 : decode cX3_beginBinding 16 = .ok (.iconst 0, 1) := by decide +kernel
theorem dX3_beginBinding_17 : decode cX3_beginBinding 17 = .ok (.invokestatic 83, 3) := by decide +kernel
theorem dX3_beginBinding_20 : decode cX3_beginBinding 20 = .ok (.invokevirtual 164, 3) := by decide +kernel
theorem dX3_beginBinding_23 : decode cX3_beginBinding 23 = .ok (.iinc 3 1, 3) := by decide +kernel
theorem dX3_beginBinding_26 : decode cX3_beginBinding 26 = .ok (.goto (-18), 3) := by decide +kernel
theorem dX3_beginBinding_29 : decode cX3_beginBinding 29 = .ok (.goto 40, 3) := by decide +kernel
theorem dX3_beginBinding_32 : decode cX3_beginBinding 32 = .ok (.iload_n 1, 1) := by decide +kernel
theorem dX3_beginBinding_33 : decode cX3_beginBinding 33 = .ok (.bipush 23, 2) := by decide +kernel
theorem dX3_beginBinding_35 : decode cX3_beginBinding 35 = .ok (.if_icmp .ne 20, 3) := by decide +kernel
theorem dX3_beginBinding_38 : decode cX3_beginBinding 38 = .ok (.aload_n 0, 1) := by decide +kernel
theorem dX3_beginBinding_39 : decode cX3_beginBinding 39 = .ok (.aload_n 0, 1) := by decide +kernel
theorem dX3_beginBinding_40 : decode cX3_beginBinding 40 = .ok (.getfield 71, 3) := by decide +kernel
theorem dX3_beginBinding_43 : decode cX3_beginBinding 43 = .ok (.iload_n 2, 1) := by decide +kernel
theorem dX3_beginBinding_44 : decode cX3_beginBinding 44 = .ok (.iadd, 1) := by decide +kernel
theorem dX3_beginBinding_45 : decode cX3_beginBinding 45 = .ok (.aload_n 0, 1) := by decide +kernel
theorem dX3_beginBinding_46 : decode cX3_beginBinding 46 = .ok (.invokevirtual 168, 3) := by decide +kernel
theorem dX3_beginBinding_49 : decode cX3_beginBinding 49 = .ok (.invokevirtual 172, 3) := by decide +kernel
theorem dX3_beginBinding_52 : decode cX3_beginBinding 52 = .ok (.goto 17, 3) := by decide +kernel
theorem dX3_beginBinding_55 : decode cX3_beginBinding 55 = .ok (.aload_n 0, 1) := by decide +kernel
theorem dX3_beginBinding_56 : decode cX3_beginBinding 56 = .ok (.iload_n 2, 1) := by decide +kernel
theorem dX3_beginBinding_57 : decode cX3_beginBinding 57 = .ok (.aload_n 0, 1) := by decide +kernel
theorem dX3_beginBinding_58 : decode cX3_beginBinding 58 = .ok (.invokevirtual 168, 3) := by decide +kernel
theorem dX3_beginBinding_61 : decode cX3_beginBinding 61 = .ok (.invokevirtual 183, 3) := by decide +kernel
theorem dX3_beginBinding_64 : decode cX3_beginBinding 64 = .ok (.aload_n 0, 1) := by decide +kernel
theorem dX3_beginBinding_65 : decode cX3_beginBinding 65 = .ok (.lconst 0, 1) := by decide +kernel
theorem dX3_beginBinding_66 : decode cX3_beginBinding 66 = .ok (.invokevirtual 164, 3) := by decide +kernel
theorem dX3_beginBinding_69 : decode cX3_beginBinding 69 = .ok (.aload_n 0, 1) := by decide +kernel
theorem dX3_beginBinding_70 : decode cX3_beginBinding 70 = .ok (.dup, 1) := by decide +kernel
theorem dX3_beginBinding_71 : decode cX3_beginBinding 71 = .ok (.getfield 77, 3) := by decide +kernel
theorem dX3_beginBinding_74 : decode cX3_beginBinding 74 = .ok (.iconst 1, 1) := by decide +kernel
theorem dX3_beginBinding_75 : decode cX3_beginBinding 75 = .ok (.iadd, 1) := by decide +kernel
theorem dX3_beginBinding_76 : decode cX3_beginBinding 76 = .ok (.putfield 77, 3) := by decide +kernel
theorem dX3_beginBinding_79 : decode cX3_beginBinding 79 = .ok (.return_, 1) := by decide +kernel
theorem dX3_closeOver_0 : decode cX3_closeOver 0 = .ok (.aload_n 0, 1) := by decide +kernel
theorem dX3_closeOver_1 : decode cX3_closeOver 1 = .ok (.getfield 46, 3) := by decide +kernel
theorem dX3_closeOver_4 : decode cX3_closeOver 4 = .ok (.iload_n 1, 1) := by decide +kernel
theorem dX3_closeOver_5 : decode cX3_closeOver 5 = .ok (.invokevirtual 195, 3) := by decide +kernel
theorem dX3_closeOver_8 : decode cX3_closeOver 8 = .ok (.istore_n 2, 1) := by decide +kernel
theorem dX3_closeOver_9 : decode cX3_closeOver 9 = .ok (.aload_n 0, 1) := by decide +kernel
theorem dX3_closeOver_10 : decode cX3_closeOver 10 = .ok (.getfield 12, 3) := by decide +kernel
theorem dX3_closeOver_13 : decode cX3_closeOver 13 = .ok (.iconst 1, 1) := by decide +kernel
theorem dX3_closeOver_14 : decode cX3_closeOver 14 = .ok (.iload_n 2, 1) := by decide +kernel
theorem dX3_closeOver_15 : decode cX3_closeOver 15 = .ok (.iadd, 1) := by decide +kernel
theorem dX3_closeOver_16 : decode cX3_closeOver 16 = .ok (.invokevirtual 198, 3) := by decide +kernel
theorem dX3_closeOver_19 : decode cX3_closeOver 19 = .ok (.ifCond .ne 10, 3) := by decide +kernel
theorem dX3_closeOver_22 : decode cX3_closeOver 22 = .ok (.aload_n 0, 1) := by decide +kernel
theorem dX3_closeOver_23 : decode cX3_closeOver 23 = .ok (.bipush 6, 2) := by decide +kernel
theorem dX3_closeOver_25 : decode cX3_closeOver 25 = .ok (.invokevirtual 161, 3) := by decide +kernel
theorem dX3_closeOver_28 : decode cX3_closeOver 28 = .ok (.return_, 1) := by decide +kernel
theorem dX3_closeOver_29 : decode cX3_closeOver 29 = .ok (.aload_n 0, 1) := by decide +kernel
theorem dX3_closeOver_30 : decode cX3_closeOver 30 = .ok (.getfield 12, 3) := by decide +kernel
theorem dX3_closeOver_33 : decode cX3_closeOver 33 = .ok (.iload_n 1, 1) := by decide +kernel
theorem dX3_closeOver_34 : decode cX3_closeOver 34 = .ok (.iload_n 2, 1) := by decide +kernel
theorem dX3_closeOver_35 : decode cX3_closeOver 35 = .ok (.invokevirtual 202, 3) := by decide +kernel
theorem dX3_closeOver_38 : decode cX3_closeOver 38 = .ok (.istore_n 3, 1) := by decide +kernel
theorem dX3_closeOver_39 : decode cX3_closeOver 39 = .ok (.iconst 0, 1) := by decide +kernel
theorem dX3_closeOver_40 : decode cX3_closeOver 40 = .ok (.istore 4, 2) := by decide +kernel
theorem dX3_closeOver_42 : decode cX3_closeOver 42 = .ok (.iload 4, 2) := by decide +kernel
theorem dX3_closeOver_44 : decode cX3_closeOver 44 = .ok (.iload_n 2, 1) := by decide +kernel
theorem dX3_closeOver_45 : decode cX3_closeOver 45 = .ok (.if_icmp .ge 71, 3) := by decide +kernel
theorem dX3_closeOver_48 : decode cX3_closeOver 48 = .ok (.aload_n 0, 1) := by decide +kernel
theorem dX3_closeOver_49 : decode cX3_closeOver 49 = .ok (.getfield 46, 3) := by decide +kernel
theorem dX3_closeOver_52 : decode cX3_closeOver 52 = .ok (.iload_n 1, 1) := by decide +kernel
theorem dX3_closeOver_53 : decode cX3_closeOver 53 = .ok (.iload 4, 2) := by decide +kernel
theorem dX3_closeOver_55 : decode cX3_closeOver 55 = .ok (.invokevirtual 205, 3) := by decide +kernel
theorem dX3_closeOver_58 : decode cX3_closeOver 58 = .ok (.istore 5, 2) := by decide +kernel
theorem dX3_closeOver_60 : decode cX3_closeOver 60 = .ok (.iload 5, 2) := by decide +kernel
theorem dX3_closeOver_62 : decode cX3_closeOver 62 = .ok (.iconst 1, 1) := by decide +kernel
theorem dX3_closeOver_63 : decode cX3_closeOver 63 = .ok (.ishr, 1) := by decide +kernel
theorem dX3_closeOver_64 : decode cX3_closeOver 64 = .ok (.istore 6, 2) := by decide +kernel
theorem dX3_closeOver_66 : decode cX3_closeOver 66 = .ok (.aload_n 0, 1) := by decide +kernel
theorem dX3_closeOver_67 : decode cX3_closeOver 67 = .ok (.getfield 12, 3) := by decide +kernel
theorem dX3_closeOver_70 : decode cX3_closeOver 70 = .ok (.iload_n 3, 1) := by decide +kernel
theorem dX3_closeOver_71 : decode cX3_closeOver 71 = .ok (.iload 4, 2) := by decide +kernel
theorem dX3_closeOver_73 : decode cX3_closeOver 73 = .ok (.iload 5, 2) := by decide +kernel
theorem dX3_closeOver_75 : decode cX3_closeOver 75 = .ok (.iconst 1, 1) := by decide +kernel
theorem dX3_closeOver_76 : decode cX3_closeOver 76 = .ok (.iand, 1) := by decide +kernel
theorem dX3_closeOver_77 : decode cX3_closeOver 77 = .ok (.ifCond .ne 17, 3) := by decide +kernel
theorem dX3_closeOver_80 : decode cX3_closeOver 80 = .ok (.aload_n 0, 1) := by decide +kernel
theorem dX3_closeOver_81 : decode cX3_closeOver 81 = .ok (.aload_n 0, 1) := by decide +kernel
theorem dX3_closeOver_82 : decode cX3_closeOver 82 = .ok (.getfield 71, 3) := by decide +kernel
theorem dX3_closeOver_85 : decode cX3_closeOver 85 = .ok (.iload 6, 2) := by decide +kernel
theorem dX3_closeOver_87 : decode cX3_closeOver 87 = .ok (.iadd, 1) := by decide +kernel
theorem dX3_closeOver_88 : decode cX3_closeOver 88 = .ok (.invokevirtual 208, 3) := by decide +kernel
theorem dX3_closeOver_91 : decode cX3_closeOver 91 = .ok (.goto 16, 3) := by decide +kernel
theorem dX3_closeOver_94 : decode cX3_closeOver 94 = .ok (.aload_n 0, 1) := by decide +kernel
theorem dX3_closeOver_95 : decode cX3_closeOver 95 = .ok (.getfield 12, 3) := by decide +kernel
theorem dX3_closeOver_98 : decode cX3_closeOver 98 = .ok (.aload_n 0, 1) := by decide +kernel
theorem dX3_closeOver_99 : decode cX3_closeOver 99 = .ok (.getfield 74, 3) := by decide +kernel
theorem dX3_closeOver_102 : decode cX3_closeOver 102 = .ok (.iload 6, 2) := by decide +kernel
theorem dX3_closeOver_104 : decode cX3_closeOver 104 = .ok (.invokevirtual 176, 3) := by decide +kernel
theorem dX3_closeOver_107 : decode cX3_closeOver 107 = .ok (.invokevirtual 211, 3) := by decide +kernel
theorem dX3_closeOver_110 : decode cX3_closeOver 110 = .ok (.iinc 4 1, 3) := by decide +kernel
theorem dX3_closeOver_113 : decode cX3_closeOver 113 = .ok (.goto (-71), 3) := by decide +kernel
theorem dX3_closeOver_116 : decode cX3_closeOver 116 = .ok (.aload_n 0, 1) := by decide +kernel
theorem dX3_closeOver_117 : decode cX3_closeOver 117 = .ok (.bipush 7, 2) := by decide +kernel
theorem dX3_closeOver_119 : decode cX3_closeOver 119 = .ok (.iload_n 3, 1) := by decide +kernel
theorem dX3_closeOver_120 : decode cX3_closeOver 120 = .ok (.invokestatic 83, 3) := by decide +kernel
theorem dX3_closeOver_123 : decode cX3_closeOver 123 = .ok (.invokevirtual 164, 3) := by decide +kernel
theorem dX3_closeOver_126 : decode cX3_closeOver 126 = .ok (.aload_n 0, 1) := by decide +kernel
theorem dX3_closeOver_127 : decode cX3_closeOver 127 = .ok (.dup, 1) := by decide +kernel
theorem dX3_closeOver_128 : decode cX3_closeOver 128 = .ok (.getfield 77, 3) := by decide +kernel
theorem dX3_closeOver_131 : decode cX3_closeOver 131 = .ok (.iconst 1, 1) := by decide +kernel
theorem dX3_closeOver_132 : decode cX3_closeOver 132 = .ok (.iadd, 1) := by decide +kernel
theorem dX3_closeOver_133 : decode cX3_closeOver 133 = .ok (.putfield 77, 3) := by decide +kernel
theorem dX3_closeOver_136 : decode cX3_closeOver 136 = .ok (.return_, 1) := by decide +kernel
theorem dX3_sharedAt_0 : decode cX3_sharedAt 0 = .ok (.aload_n 0, 1) := by decide +kernel
theorem dX3_sharedAt_1 : decode cX3_sharedAt 1 = .ok (.iload_n 1, 1) := by decide +kernel
theorem dX3_sharedAt_2 : decode cX3_sharedAt 2 = .ok (.invokevirtual 154, 3) := by decide +kernel
theorem dX3_sharedAt_5 : decode cX3_sharedAt 5 = .ok (.lstore_n 2, 1) := by decide +kernel
theorem dX3_sharedAt_6 : decode cX3_sharedAt 6 = .ok (.lload_n 2, 1) := by decide +kernel
theorem dX3_sharedAt_7 : decode cX3_sharedAt 7 = .ok (.invokestatic 105, 3) := by decide +kernel
theorem dX3_sharedAt_10 : decode cX3_sharedAt 10 = .ok (.bipush 10, 2) := by decide +kernel
theorem dX3_sharedAt_12 : decode cX3_sharedAt 12 = .ok (.if_icmp .ne 8, 3) := by decide +kernel
theorem dX3_sharedAt_15 : decode cX3_sharedAt 15 = .ok (.lload_n 2, 1) := by decide +kernel
theorem dX3_sharedAt_16 : decode cX3_sharedAt 16 = .ok (.invokestatic 186, 3) := by decide +kernel
theorem dX3_sharedAt_19 : decode cX3_sharedAt 19 = .ok (.ireturn, 1) := by decide +kernel
theorem dX3_sharedAt_20 : decode cX3_sharedAt 20 = .ok (.aload_n 0, 1) := by decide +kernel
theorem dX3_sharedAt_21 : decode cX3_sharedAt 21 = .ok (.getfield 12, 3) := by decide +kernel
theorem dX3_sharedAt_24 : decode cX3_sharedAt 24 = .ok (.lload_n 2, 1) := by decide +kernel
theorem dX3_sharedAt_25 : decode cX3_sharedAt 25 = .ok (.invokevirtual 215, 3) := by decide +kernel
theorem dX3_sharedAt_28 : decode cX3_sharedAt 28 = .ok (.istore 4, 2) := by decide +kernel
theorem dX3_sharedAt_30 : decode cX3_sharedAt 30 = .ok (.aload_n 0, 1) := by decide +kernel
theorem dX3_sharedAt_31 : decode cX3_sharedAt 31 = .ok (.iload_n 1, 1) := by decide +kernel
theorem dX3_sharedAt_32 : decode cX3_sharedAt 32 = .ok (.bipush 10, 2) := by decide +kernel
theorem dX3_sharedAt_34 : decode cX3_sharedAt 34 = .ok (.iload 4, 2) := by decide +kernel
theorem dX3_sharedAt_36 : decode cX3_sharedAt 36 = .ok (.invokestatic 83, 3) := by decide +kernel
theorem dX3_sharedAt_39 : decode cX3_sharedAt 39 = .ok (.invokevirtual 192, 3) := by decide +kernel
theorem dX3_sharedAt_42 : decode cX3_sharedAt 42 = .ok (.iload 4, 2) := by decide +kernel
theorem dX3_sharedAt_44 : decode cX3_sharedAt 44 = .ok (.ireturn, 1) := by decide +kernel
theorem dX3_leaveBehind_0 : decode cX3_leaveBehind 0 = .ok (.aload_n 0, 1) := by decide +kernel
theorem dX3_leaveBehind_1 : decode cX3_leaveBehind 1 = .ok (.invokevirtual 168, 3) := by decide +kernel
theorem dX3_leaveBehind_4 : decode cX3_leaveBehind 4 = .ok (.lstore_n 3, 1) := by decide +kernel
theorem dX3_leaveBehind_5 : decode cX3_leaveBehind 5 = .ok (.iload_n 1, 1) := by decide +kernel
theorem dX3_leaveBehind_6 : decode cX3_leaveBehind 6 = .ok (.bipush 31, 2) := by decide +kernel
theorem dX3_leaveBehind_8 : decode cX3_leaveBehind 8 = .ok (.if_icmp .ne 25, 3) := by decide +kernel
theorem dX3_leaveBehind_11 : decode cX3_leaveBehind 11 = .ok (.aload_n 0, 1) := by decide +kernel
theorem dX3_leaveBehind_12 : decode cX3_leaveBehind 12 = .ok (.iconst 0, 1) := by decide +kernel
theorem dX3_leaveBehind_13 : decode cX3_leaveBehind 13 = .ok (.aload_n 0, 1) := by decide +kernel
theorem dX3_leaveBehind_14 : decode cX3_leaveBehind 14 = .ok (.getfield 68, 3) := by decide +kernel
theorem dX3_leaveBehind_17 : decode cX3_leaveBehind 17 = .ok (.iload_n 2, 1) := by decide +kernel
theorem dX3_leaveBehind_18 : decode cX3_leaveBehind 18 = .ok (.isub, 1) := by decide +kernel
theorem dX3_leaveBehind_19 : decode cX3_leaveBehind 19 = .ok (.invokestatic 218, 3) := by decide +kernel
theorem dX3_leaveBehind_22 : decode cX3_leaveBehind 22 = .ok (.putfield 68, 3) := by decide +kernel
theorem dX3_leaveBehind_25 : decode cX3_leaveBehind 25 = .ok (.aload_n 0, 1) := by decide +kernel
theorem dX3_leaveBehind_26 : decode cX3_leaveBehind 26 = .ok (.lload_n 3, 1) := by decide +kernel
theorem dX3_leaveBehind_27 : decode cX3_leaveBehind 27 = .ok (.invokevirtual 164, 3) := by decide +kernel
theorem dX3_leaveBehind_30 : decode cX3_leaveBehind 30 = .ok (.goto 24, 3) := by decide +kernel
theorem dX3_leaveBehind_33 : decode cX3_leaveBehind 33 = .ok (.iload_n 1, 1) := by decide +kernel
theorem dX3_leaveBehind_34 : decode cX3_leaveBehind 34 = .ok (.bipush 35, 2) := by decide +kernel
theorem dX3_leaveBehind_36 : decode cX3_leaveBehind 36 = .ok (.if_icmp .ne 18, 3) := by decide +kernel
theorem dX3_leaveBehind_39 : decode cX3_leaveBehind 39 = .ok (.aload_n 0, 1) := by decide +kernel
theorem dX3_leaveBehind_40 : decode cX3_leaveBehind 40 = .ok (.lload_n 3, 1) := by decide +kernel
theorem dX3_leaveBehind_41 : decode cX3_leaveBehind 41 = .ok (.putfield 98, 3) := by decide +kernel
theorem dX3_leaveBehind_44 : decode cX3_leaveBehind 44 = .ok (.aload_n 0, 1) := by decide +kernel
theorem dX3_leaveBehind_45 : decode cX3_leaveBehind 45 = .ok (.dup, 1) := by decide +kernel
theorem dX3_leaveBehind_46 : decode cX3_leaveBehind 46 = .ok (.getfield 102, 3) := by decide +kernel
theorem dX3_leaveBehind_49 : decode cX3_leaveBehind 49 = .ok (.iconst 1, 1) := by decide +kernel
theorem dX3_leaveBehind_50 : decode cX3_leaveBehind 50 = .ok (.iadd, 1) := by decide +kernel
theorem dX3_leaveBehind_51 : decode cX3_leaveBehind 51 = .ok (.putfield 102, 3) := by decide +kernel
theorem dX3_leaveBehind_54 : decode cX3_leaveBehind 54 = .ok (.aload_n 0, 1) := by decide +kernel
theorem dX3_leaveBehind_55 : decode cX3_leaveBehind 55 = .ok (.dup, 1) := by decide +kernel
theorem dX3_leaveBehind_56 : decode cX3_leaveBehind 56 = .ok (.getfield 77, 3) := by decide +kernel
theorem dX3_leaveBehind_59 : decode cX3_leaveBehind 59 = .ok (.iconst 1, 1) := by decide +kernel
theorem dX3_leaveBehind_60 : decode cX3_leaveBehind 60 = .ok (.iadd, 1) := by decide +kernel
theorem dX3_leaveBehind_61 : decode cX3_leaveBehind 61 = .ok (.putfield 77, 3) := by decide +kernel
theorem dX3_leaveBehind_64 : decode cX3_leaveBehind 64 = .ok (.return_, 1) := by decide +kernel
theorem dX3_pushOrJump_0 : decode cX3_pushOrJump 0 = .ok (.iload_n 1, 1) := by decide +kernel
theorem dX3_pushOrJump_1 : decode cX3_pushOrJump 1 = .ok (.tableswitch 127 26 29 #[31, 39, 67, 97], 31) := by decide +kernel
theorem dX3_pushOrJump_32 : decode cX3_pushOrJump 32 = .ok (.aload_n 0, 1) := by decide +kernel
theorem dX3_pushOrJump_33 : decode cX3_pushOrJump 33 = .ok (.iload_n 2, 1) := by decide +kernel
theorem dX3_pushOrJump_34 : decode cX3_pushOrJump 34 = .ok (.putfield 77, 3) := by decide +kernel
theorem dX3_pushOrJump_37 : decode cX3_pushOrJump 37 = .ok (.goto 110, 3) := by decide +kernel
theorem dX3_pushOrJump_40 : decode cX3_pushOrJump 40 = .ok (.aload_n 0, 1) := by decide +kernel
theorem dX3_pushOrJump_41 : decode cX3_pushOrJump 41 = .ok (.aload_n 0, 1) := by decide +kernel
theorem dX3_pushOrJump_42 : decode cX3_pushOrJump 42 = .ok (.invokevirtual 168, 3) := by decide +kernel
theorem dX3_pushOrJump_45 : decode cX3_pushOrJump 45 = .ok (.invokestatic 105, 3) := by decide +kernel
theorem dX3_pushOrJump_48 : decode cX3_pushOrJump 48 = .ok (.iconst 2, 1) := by decide +kernel
theorem dX3_pushOrJump_49 : decode cX3_pushOrJump 49 = .ok (.if_icmp .ne 7, 3) := by decide +kernel
theorem dX3_pushOrJump_52 : decode cX3_pushOrJump 52 = .ok (.iload_n 2, 1) := by decide +kernel
theorem dX3_pushOrJump_53 : decode cX3_pushOrJump 53 = .ok (.goto 9, 3) := by decide +kernel
theorem dX3_pushOrJump_56 : decode cX3_pushOrJump 56 = .ok (.aload_n 0, 1) := by decide +kernel
theorem dX3_pushOrJump_57 : decode cX3_pushOrJump 57 = .ok (.getfield 77, 3) := by decide +kernel
theorem dX3_pushOrJump_60 : decode cX3_pushOrJump 60 = .ok (.iconst 1, 1) := by decide +kernel
theorem dX3_pushOrJump_61 : decode cX3_pushOrJump 61 = .ok (.iadd, 1) := by decide +kernel
theorem dX3_pushOrJump_62 : decode cX3_pushOrJump 62 = .ok (.putfield 77, 3) := by decide +kernel
theorem dX3_pushOrJump_65 : decode cX3_pushOrJump 65 = .ok (.goto 82, 3) := by decide +kernel
theorem dX3_pushOrJump_68 : decode cX3_pushOrJump 68 = .ok (.aload_n 0, 1) := by decide +kernel
theorem dX3_pushOrJump_69 : decode cX3_pushOrJump 69 = .ok (.aload_n 0, 1) := by decide +kernel
theorem dX3_pushOrJump_70 : decode cX3_pushOrJump 70 = .ok (.aload_n 0, 1) := by decide +kernel
theorem dX3_pushOrJump_71 : decode cX3_pushOrJump 71 = .ok (.getfield 68, 3) := by decide +kernel
theorem dX3_pushOrJump_74 : decode cX3_pushOrJump 74 = .ok (.iconst 1, 1) := by decide +kernel
theorem dX3_pushOrJump_75 : decode cX3_pushOrJump 75 = .ok (.isub, 1) := by decide +kernel
theorem dX3_pushOrJump_76 : decode cX3_pushOrJump 76 = .ok (.invokevirtual 154, 3) := by decide +kernel
theorem dX3_pushOrJump_79 : decode cX3_pushOrJump 79 = .ok (.invokestatic 105, 3) := by decide +kernel
theorem dX3_pushOrJump_82 : decode cX3_pushOrJump 82 = .ok (.iconst 2, 1) := by decide +kernel
theorem dX3_pushOrJump_83 : decode cX3_pushOrJump 83 = .ok (.if_icmp .ne 7, 3) := by decide +kernel
theorem dX3_pushOrJump_86 : decode cX3_pushOrJump 86 = .ok (.iconst 1, 1) := by decide +kernel
theorem dX3_pushOrJump_87 : decode cX3_pushOrJump 87 = .ok (.goto 4, 3) := by decide +kernel
theorem dX3_pushOrJump_90 : decode cX3_pushOrJump 90 = .ok (.iconst 0, 1) := by decide +kernel
theorem dX3_pushOrJump_91 : decode cX3_pushOrJump 91 = .ok (.iload_n 2, 1) := by decide +kernel
theorem dX3_pushOrJump_92 : decode cX3_pushOrJump 92 = .ok (.invokevirtual 223, 3) := by decide +kernel
theorem dX3_pushOrJump_95 : decode cX3_pushOrJump 95 = .ok (.goto 52, 3) := by decide +kernel
theorem dX3_pushOrJump_98 : decode cX3_pushOrJump 98 = .ok (.aload_n 0, 1) := by decide +kernel
theorem dX3_pushOrJump_99 : decode cX3_pushOrJump 99 = .ok (.aload_n 0, 1) := by decide +kernel
theorem dX3_pushOrJump_100 : decode cX3_pushOrJump 100 = .ok (.aload_n 0, 1) := by decide +kernel
theorem dX3_pushOrJump_101 : decode cX3_pushOrJump 101 = .ok (.getfield 68, 3) := by decide +kernel
theorem dX3_pushOrJump_104 : decode cX3_pushOrJump 104 = .ok (.iconst 1, 1) := by decide +kernel
theorem dX3_pushOrJump_105 : decode cX3_pushOrJump 105 = .ok (.isub, 1) := by decide +kernel
theorem dX3_pushOrJump_106 : decode cX3_pushOrJump 106 = .ok (.invokevirtual 154, 3) := by decide +kernel
theorem dX3_pushOrJump_109 : decode cX3_pushOrJump 109 = .ok (.invokestatic 105, 3) := by decide +kernel
theorem dX3_pushOrJump_112 : decode cX3_pushOrJump 112 = .ok (.iconst 2, 1) := by decide +kernel
theorem dX3_pushOrJump_113 : decode cX3_pushOrJump 113 = .ok (.if_icmp .eq 7, 3) := by decide +kernel
theorem dX3_pushOrJump_116 : decode cX3_pushOrJump 116 = .ok (.iconst 1, 1) := by decide +kernel
theorem dX3_pushOrJump_117 : decode cX3_pushOrJump 117 = .ok (.goto 4, 3) := by decide +kernel
theorem dX3_pushOrJump_120 : decode cX3_pushOrJump 120 = .ok (.iconst 0, 1) := by decide +kernel
theorem dX3_pushOrJump_121 : decode cX3_pushOrJump 121 = .ok (.iload_n 2, 1) := by decide +kernel
theorem dX3_pushOrJump_122 : decode cX3_pushOrJump 122 = .ok (.invokevirtual 223, 3) := by decide +kernel
theorem dX3_pushOrJump_125 : decode cX3_pushOrJump 125 = .ok (.goto 22, 3) := by decide +kernel
theorem dX3_pushOrJump_128 : decode cX3_pushOrJump 128 = .ok (.aload_n 0, 1) := by decide +kernel
theorem dX3_pushOrJump_129 : decode cX3_pushOrJump 129 = .ok (.iload_n 1, 1) := by decide +kernel
theorem dX3_pushOrJump_130 : decode cX3_pushOrJump 130 = .ok (.iload_n 2, 1) := by decide +kernel
theorem dX3_pushOrJump_131 : decode cX3_pushOrJump 131 = .ok (.invokestatic 83, 3) := by decide +kernel
theorem dX3_pushOrJump_134 : decode cX3_pushOrJump 134 = .ok (.invokevirtual 164, 3) := by decide +kernel
theorem dX3_pushOrJump_137 : decode cX3_pushOrJump 137 = .ok (.aload_n 0, 1) := by decide +kernel
theorem dX3_pushOrJump_138 : decode cX3_pushOrJump 138 = .ok (.dup, 1) := by decide +kernel
theorem dX3_pushOrJump_139 : decode cX3_pushOrJump 139 = .ok (.getfield 77, 3) := by decide +kernel
theorem dX3_pushOrJump_142 : decode cX3_pushOrJump 142 = .ok (.iconst 1, 1) := by decide +kernel
theorem dX3_pushOrJump_143 : decode cX3_pushOrJump 143 = .ok (.iadd, 1) := by decide +kernel
theorem dX3_pushOrJump_144 : decode cX3_pushOrJump 144 = .ok (.putfield 77, 3) := by decide +kernel
theorem dX3_pushOrJump_147 : decode cX3_pushOrJump 147 = .ok (.return_, 1) := by decide +kernel
theorem dX3_stopIf_0 : decode cX3_stopIf 0 = .ok (.iload_n 1, 1) := by decide +kernel
theorem dX3_stopIf_1 : decode cX3_stopIf 1 = .ok (.ifCond .eq 11, 3) := by decide +kernel
theorem dX3_stopIf_4 : decode cX3_stopIf 4 = .ok (.aload_n 0, 1) := by decide +kernel
theorem dX3_stopIf_5 : decode cX3_stopIf 5 = .ok (.iload_n 2, 1) := by decide +kernel
theorem dX3_stopIf_6 : decode cX3_stopIf 6 = .ok (.putfield 77, 3) := by decide +kernel
theorem dX3_stopIf_9 : decode cX3_stopIf 9 = .ok (.goto 18, 3) := by decide +kernel
theorem dX3_stopIf_12 : decode cX3_stopIf 12 = .ok (.aload_n 0, 1) := by decide +kernel
theorem dX3_stopIf_13 : decode cX3_stopIf 13 = .ok (.invokevirtual 168, 3) := by decide +kernel
theorem dX3_stopIf_16 : decode cX3_stopIf 16 = .ok (.pop2, 1) := by decide +kernel
theorem dX3_stopIf_17 : decode cX3_stopIf 17 = .ok (.aload_n 0, 1) := by decide +kernel
theorem dX3_stopIf_18 : decode cX3_stopIf 18 = .ok (.dup, 1) := by decide +kernel
theorem dX3_stopIf_19 : decode cX3_stopIf 19 = .ok (.getfield 77, 3) := by decide +kernel
theorem dX3_stopIf_22 : decode cX3_stopIf 22 = .ok (.iconst 1, 1) := by decide +kernel
theorem dX3_stopIf_23 : decode cX3_stopIf 23 = .ok (.iadd, 1) := by decide +kernel
theorem dX3_stopIf_24 : decode cX3_stopIf 24 = .ok (.putfield 77, 3) := by decide +kernel
theorem dX3_stopIf_27 : decode cX3_stopIf 27 = .ok (.return_, 1) := by decide +kernel
theorem dX3_callIt_0 : decode cX3_callIt 0 = .ok (.aload_n 0, 1) := by decide +kernel
theorem dX3_callIt_1 : decode cX3_callIt 1 = .ok (.aload_n 0, 1) := by decide +kernel
theorem dX3_callIt_2 : decode cX3_callIt 2 = .ok (.getfield 68, 3) := by decide +kernel
theorem dX3_callIt_5 : decode cX3_callIt 5 = .ok (.iload_n 1, 1) := by decide +kernel
theorem dX3_callIt_6 : decode cX3_callIt 6 = .ok (.isub, 1) := by decide +kernel
theorem dX3_callIt_7 : decode cX3_callIt 7 = .ok (.iconst 1, 1) := by decide +kernel
theorem dX3_callIt_8 : decode cX3_callIt 8 = .ok (.isub, 1) := by decide +kernel
theorem dX3_callIt_9 : decode cX3_callIt 9 = .ok (.invokevirtual 154, 3) := by decide +kernel
theorem dX3_callIt_12 : decode cX3_callIt 12 = .ok (.lstore_n 3, 1) := by decide +kernel
theorem dX3_callIt_13 : decode cX3_callIt 13 = .ok (.lload_n 3, 1) := by decide +kernel
theorem dX3_callIt_14 : decode cX3_callIt 14 = .ok (.invokestatic 105, 3) := by decide +kernel
theorem dX3_callIt_17 : decode cX3_callIt 17 = .ok (.lookupswitch 53 #[(7, 27), (8, 40)], 27) := by decide +kernel
theorem dX3_callIt_44 : decode cX3_callIt 44 = .ok (.aload_n 0, 1) := by decide +kernel
theorem dX3_callIt_45 : decode cX3_callIt 45 = .ok (.lload_n 3, 1) := by decide +kernel
theorem dX3_callIt_46 : decode cX3_callIt 46 = .ok (.invokestatic 186, 3) := by decide +kernel
theorem dX3_callIt_49 : decode cX3_callIt 49 = .ok (.iload_n 1, 1) := by decide +kernel
theorem dX3_callIt_50 : decode cX3_callIt 50 = .ok (.iload_n 2, 1) := by decide +kernel
theorem dX3_callIt_51 : decode cX3_callIt 51 = .ok (.invokevirtual 227, 3) := by decide +kernel
theorem dX3_callIt_54 : decode cX3_callIt 54 = .ok (.goto 21, 3) := by decide +kernel
theorem dX3_callIt_57 : decode cX3_callIt 57 = .ok (.aload_n 0, 1) := by decide +kernel
theorem dX3_callIt_58 : decode cX3_callIt 58 = .ok (.lload_n 3, 1) := by decide +kernel
theorem dX3_callIt_59 : decode cX3_callIt 59 = .ok (.invokestatic 186, 3) := by decide +kernel
theorem dX3_callIt_62 : decode cX3_callIt 62 = .ok (.iload_n 1, 1) := by decide +kernel
theorem dX3_callIt_63 : decode cX3_callIt 63 = .ok (.iload_n 2, 1) := by decide +kernel
theorem dX3_callIt_64 : decode cX3_callIt 64 = .ok (.invokevirtual 231, 3) := by decide +kernel
theorem dX3_callIt_67 : decode cX3_callIt 67 = .ok (.goto 8, 3) := by decide +kernel
theorem dX3_callIt_70 : decode cX3_callIt 70 = .ok (.aload_n 0, 1) := by decide +kernel
theorem dX3_callIt_71 : decode cX3_callIt 71 = .ok (.iconst 1, 1) := by decide +kernel
theorem dX3_callIt_72 : decode cX3_callIt 72 = .ok (.invokevirtual 161, 3) := by decide +kernel
theorem dX3_callIt_75 : decode cX3_callIt 75 = .ok (.return_, 1) := by decide +kernel
theorem dX3_callProcedure_0 : decode cX3_callProcedure 0 = .ok (.aload_n 0, 1) := by decide +kernel
theorem dX3_callProcedure_1 : decode cX3_callProcedure 1 = .ok (.getfield 12, 3) := by decide +kernel
theorem dX3_callProcedure_4 : decode cX3_callProcedure 4 = .ok (.iload_n 1, 1) := by decide +kernel
theorem dX3_callProcedure_5 : decode cX3_callProcedure 5 = .ok (.invokevirtual 234, 3) := by decide +kernel
theorem dX3_callProcedure_8 : decode cX3_callProcedure 8 = .ok (.istore 4, 2) := by decide +kernel
theorem dX3_callProcedure_10 : decode cX3_callProcedure 10 = .ok (.iload_n 2, 1) := by decide +kernel
theorem dX3_callProcedure_11 : decode cX3_callProcedure 11 = .ok (.aload_n 0, 1) := by decide +kernel
theorem dX3_callProcedure_12 : decode cX3_callProcedure 12 = .ok (.getfield 46, 3) := by decide +kernel
theorem dX3_callProcedure_15 : decode cX3_callProcedure 15 = .ok (.iload 4, 2) := by decide +kernel
theorem dX3_callProcedure_17 : decode cX3_callProcedure 17 = .ok (.invokevirtual 237, 3) := by decide +kernel
theorem dX3_callProcedure_20 : decode cX3_callProcedure 20 = .ok (.if_icmp .eq 11, 3) := by decide +kernel
theorem dX3_callProcedure_23 : decode cX3_callProcedure 23 = .ok (.aload_n 0, 1) := by decide +kernel
theorem dX3_callProcedure_24 : decode cX3_callProcedure 24 = .ok (.iconst 2, 1) := by decide +kernel
theorem dX3_callProcedure_25 : decode cX3_callProcedure 25 = .ok (.invokevirtual 161, 3) := by decide +kernel
theorem dX3_callProcedure_28 : decode cX3_callProcedure 28 = .ok (.goto 121, 3) := by decide +kernel
theorem dX3_callProcedure_31 : decode cX3_callProcedure 31 = .ok (.iload_n 3, 1) := by decide +kernel
theorem dX3_callProcedure_32 : decode cX3_callProcedure 32 = .ok (.ifCond .ne 22, 3) := by decide +kernel
theorem dX3_callProcedure_35 : decode cX3_callProcedure 35 = .ok (.aload_n 0, 1) := by decide +kernel
theorem dX3_callProcedure_36 : decode cX3_callProcedure 36 = .ok (.getfield 80, 3) := by decide +kernel
theorem dX3_callProcedure_39 : decode cX3_callProcedure 39 = .ok (.sipush 1000, 3) := by decide +kernel
theorem dX3_callProcedure_42 : decode cX3_callProcedure 42 = .ok (.if_icmp .lt 12, 3) := by decide +kernel
theorem dX3_callProcedure_45 : decode cX3_callProcedure 45 = .ok (.aload_n 0, 1) := by decide +kernel
theorem dX3_callProcedure_46 : decode cX3_callProcedure 46 = .ok (.bipush 7, 2) := by decide +kernel
theorem dX3_callProcedure_48 : decode cX3_callProcedure 48 = .ok (.invokevirtual 161, 3) := by decide +kernel
theorem dX3_callProcedure_51 : decode cX3_callProcedure 51 = .ok (.goto 98, 3) := by decide +kernel
theorem dX3_callProcedure_54 : decode cX3_callProcedure 54 = .ok (.aload_n 0, 1) := by decide +kernel
theorem dX3_callProcedure_55 : decode cX3_callProcedure 55 = .ok (.getfield 109, 3) := by decide +kernel
theorem dX3_callProcedure_58 : decode cX3_callProcedure 58 = .ok (.ifCond .gt 11, 3) := by decide +kernel
theorem dX3_callProcedure_61 : decode cX3_callProcedure 61 = .ok (.aload_n 0, 1) := by decide +kernel
theorem dX3_callProcedure_62 : decode cX3_callProcedure 62 = .ok (.iconst 1, 1) := by decide +kernel
theorem dX3_callProcedure_63 : decode cX3_callProcedure 63 = .ok (.invokevirtual 148, 3) := by decide +kernel
theorem dX3_callProcedure_66 : decode cX3_callProcedure 66 = .ok (.goto 83, 3) := by decide +kernel
theorem dX3_callProcedure_69 : decode cX3_callProcedure 69 = .ok (.aload_n 0, 1) := by decide +kernel
theorem dX3_callProcedure_70 : decode cX3_callProcedure 70 = .ok (.dup, 1) := by decide +kernel
theorem dX3_callProcedure_71 : decode cX3_callProcedure 71 = .ok (.getfield 109, 3) := by decide +kernel
theorem dX3_callProcedure_74 : decode cX3_callProcedure 74 = .ok (.iconst 1, 1) := by decide +kernel
theorem dX3_callProcedure_75 : decode cX3_callProcedure 75 = .ok (.isub, 1) := by decide +kernel
theorem dX3_callProcedure_76 : decode cX3_callProcedure 76 = .ok (.putfield 109, 3) := by decide +kernel
theorem dX3_callProcedure_79 : decode cX3_callProcedure 79 = .ok (.aload_n 0, 1) := by decide +kernel
theorem dX3_callProcedure_80 : decode cX3_callProcedure 80 = .ok (.dup, 1) := by decide +kernel
theorem dX3_callProcedure_81 : decode cX3_callProcedure 81 = .ok (.getfield 95, 3) := by decide +kernel
theorem dX3_callProcedure_84 : decode cX3_callProcedure 84 = .ok (.iconst 1, 1) := by decide +kernel
theorem dX3_callProcedure_85 : decode cX3_callProcedure 85 = .ok (.iadd, 1) := by decide +kernel
theorem dX3_callProcedure_86 : decode cX3_callProcedure 86 = .ok (.putfield 95, 3) := by decide +kernel
theorem dX3_callProcedure_89 : decode cX3_callProcedure 89 = .ok (.iload_n 3, 1) := by decide +kernel
theorem dX3_callProcedure_90 : decode cX3_callProcedure 90 = .ok (.ifCond .eq 11, 3) := by decide +kernel
theorem dX3_callProcedure_93 : decode cX3_callProcedure 93 = .ok (.aload_n 0, 1) := by decide +kernel
theorem dX3_callProcedure_94 : decode cX3_callProcedure 94 = .ok (.iload_n 2, 1) := by decide +kernel
theorem dX3_callProcedure_95 : decode cX3_callProcedure 95 = .ok (.invokevirtual 240, 3) := by decide +kernel
theorem dX3_callProcedure_98 : decode cX3_callProcedure 98 = .ok (.goto 8, 3) := by decide +kernel
theorem dX3_callProcedure_101 : decode cX3_callProcedure 101 = .ok (.aload_n 0, 1) := by decide +kernel
theorem dX3_callProcedure_102 : decode cX3_callProcedure 102 = .ok (.iload_n 2, 1) := by decide +kernel
theorem dX3_callProcedure_103 : decode cX3_callProcedure 103 = .ok (.invokevirtual 243, 3) := by decide +kernel
theorem dX3_callProcedure_106 : decode cX3_callProcedure 106 = .ok (.aload_n 0, 1) := by decide +kernel
theorem dX3_callProcedure_107 : decode cX3_callProcedure 107 = .ok (.iload_n 1, 1) := by decide +kernel
theorem dX3_callProcedure_108 : decode cX3_callProcedure 108 = .ok (.putfield 74, 3) := by decide +kernel
theorem dX3_callProcedure_111 : decode cX3_callProcedure 111 = .ok (.aload_n 0, 1) := by decide +kernel
theorem dX3_callProcedure_112 : decode cX3_callProcedure 112 = .ok (.aload_n 0, 1) := by decide +kernel
theorem dX3_callProcedure_113 : decode cX3_callProcedure 113 = .ok (.getfield 46, 3) := by decide +kernel
theorem dX3_callProcedure_116 : decode cX3_callProcedure 116 = .ok (.iload 4, 2) := by decide +kernel
theorem dX3_callProcedure_118 : decode cX3_callProcedure 118 = .ok (.invokevirtual 246, 3) := by decide +kernel
theorem dX3_callProcedure_121 : decode cX3_callProcedure 121 = .ok (.putfield 77, 3) := by decide +kernel
theorem dX3_callProcedure_124 : decode cX3_callProcedure 124 = .ok (.aload_n 0, 1) := by decide +kernel
theorem dX3_callProcedure_125 : decode cX3_callProcedure 125 = .ok (.aload_n 0, 1) := by decide +kernel
theorem dX3_callProcedure_126 : decode cX3_callProcedure 126 = .ok (.getfield 25, 3) := by decide +kernel
theorem dX3_callProcedure_129 : decode cX3_callProcedure 129 = .ok (.aload_n 0, 1) := by decide +kernel
theorem dX3_callProcedure_130 : decode cX3_callProcedure 130 = .ok (.getfield 71, 3) := by decide +kernel
theorem dX3_callProcedure_133 : decode cX3_callProcedure 133 = .ok (.aload_n 0, 1) := by decide +kernel
theorem dX3_callProcedure_134 : decode cX3_callProcedure 134 = .ok (.getfield 46, 3) := by decide +kernel
theorem dX3_callProcedure_137 : decode cX3_callProcedure 137 = .ok (.iload 4, 2) := by decide +kernel
theorem dX3_callProcedure_139 : decode cX3_callProcedure 139 = .ok (.invokevirtual 249, 3) := by decide +kernel
theorem dX3_callProcedure_142 : decode cX3_callProcedure 142 = .ok (.iadd, 1) := by decide +kernel
theorem dX3_callProcedure_143 : decode cX3_callProcedure 143 = .ok (.invokestatic 62, 3) := by decide +kernel
theorem dX3_callProcedure_146 : decode cX3_callProcedure 146 = .ok (.putfield 25, 3) := by decide +kernel
theorem dX3_callProcedure_149 : decode cX3_callProcedure 149 = .ok (.return_, 1) := by decide +kernel
theorem dX3_moveDown_0 : decode cX3_moveDown 0 = .ok (.aload_n 0, 1) := by decide +kernel
theorem dX3_moveDown_1 : decode cX3_moveDown 1 = .ok (.getfield 68, 3) := by decide +kernel
theorem dX3_moveDown_4 : decode cX3_moveDown 4 = .ok (.iload_n 1, 1) := by decide +kernel
theorem dX3_moveDown_5 : decode cX3_moveDown 5 = .ok (.isub, 1) := by decide +kernel
theorem dX3_moveDown_6 : decode cX3_moveDown 6 = .ok (.iconst 1, 1) := by decide +kernel
theorem dX3_moveDown_7 : decode cX3_moveDown 7 = .ok (.isub, 1) := by decide +kernel
theorem dX3_moveDown_8 : decode cX3_moveDown 8 = .ok (.istore_n 2, 1) := by decide +kernel
theorem dX3_moveDown_9 : decode cX3_moveDown 9 = .ok (.iconst 0, 1) := by decide +kernel
theorem dX3_moveDown_10 : decode cX3_moveDown 10 = .ok (.istore_n 3, 1) := by decide +kernel
theorem dX3_moveDown_11 : decode cX3_moveDown 11 = .ok (.iload_n 3, 1) := by decide +kernel
theorem dX3_moveDown_12 : decode cX3_moveDown 12 = .ok (.iload_n 1, 1) := by decide +kernel
theorem dX3_moveDown_13 : decode cX3_moveDown 13 = .ok (.if_icmp .gt 28, 3) := by decide +kernel
theorem dX3_moveDown_16 : decode cX3_moveDown 16 = .ok (.aload_n 0, 1) := by decide +kernel
theorem dX3_moveDown_17 : decode cX3_moveDown 17 = .ok (.aload_n 0, 1) := by decide +kernel
theorem dX3_moveDown_18 : decode cX3_moveDown 18 = .ok (.getfield 71, 3) := by decide +kernel
theorem dX3_moveDown_21 : decode cX3_moveDown 21 = .ok (.iconst 1, 1) := by decide +kernel
theorem dX3_moveDown_22 : decode cX3_moveDown 22 = .ok (.isub, 1) := by decide +kernel
theorem dX3_moveDown_23 : decode cX3_moveDown 23 = .ok (.iload_n 3, 1) := by decide +kernel
theorem dX3_moveDown_24 : decode cX3_moveDown 24 = .ok (.iadd, 1) := by decide +kernel
theorem dX3_moveDown_25 : decode cX3_moveDown 25 = .ok (.aload_n 0, 1) := by decide +kernel
theorem dX3_moveDown_26 : decode cX3_moveDown 26 = .ok (.iload_n 2, 1) := by decide +kernel
theorem dX3_moveDown_27 : decode cX3_moveDown 27 = .ok (.iload_n 3, 1) := by decide +kernel
theorem dX3_moveDown_28 : decode cX3_moveDown 28 = .ok (.iadd, 1) := by decide +kernel
theorem dX3_moveDown_29 : decode cX3_moveDown 29 = .ok (.invokevirtual 154, 3) := by decide +kernel
theorem dX3_moveDown_32 : decode cX3_moveDown 32 = .ok (.invokevirtual 192, 3) := by decide +kernel
theorem dX3_moveDown_35 : decode cX3_moveDown 35 = .ok (.iinc 3 1, 3) := by decide +kernel
theorem dX3_moveDown_38 : decode cX3_moveDown 38 = .ok (.goto (-27), 3) := by decide +kernel
theorem dX3_moveDown_41 : decode cX3_moveDown 41 = .ok (.aload_n 0, 1) := by decide +kernel
theorem dX3_moveDown_42 : decode cX3_moveDown 42 = .ok (.aload_n 0, 1) := by decide +kernel
theorem dX3_moveDown_43 : decode cX3_moveDown 43 = .ok (.getfield 71, 3) := by decide +kernel
theorem dX3_moveDown_46 : decode cX3_moveDown 46 = .ok (.iload_n 1, 1) := by decide +kernel
theorem dX3_moveDown_47 : decode cX3_moveDown 47 = .ok (.iadd, 1) := by decide +kernel
theorem dX3_moveDown_48 : decode cX3_moveDown 48 = .ok (.putfield 68, 3) := by decide +kernel
theorem dX3_moveDown_51 : decode cX3_moveDown 51 = .ok (.return_, 1) := by decide +kernel
theorem dX3_openCall_0 : decode cX3_openCall 0 = .ok (.aload_n 0, 1) := by decide +kernel
theorem dX3_openCall_1 : decode cX3_openCall 1 = .ok (.aload_n 0, 1) := by decide +kernel
theorem dX3_openCall_2 : decode cX3_openCall 2 = .ok (.getfield 29, 3) := by decide +kernel
theorem dX3_openCall_5 : decode cX3_openCall 5 = .ok (.aload_n 0, 1) := by decide +kernel
theorem dX3_openCall_6 : decode cX3_openCall 6 = .ok (.getfield 80, 3) := by decide +kernel
theorem dX3_openCall_9 : decode cX3_openCall 9 = .ok (.iconst 1, 1) := by decide +kernel
theorem dX3_openCall_10 : decode cX3_openCall 10 = .ok (.iadd, 1) := by decide +kernel
theorem dX3_openCall_11 : decode cX3_openCall 11 = .ok (.invokestatic 252, 3) := by decide +kernel
theorem dX3_openCall_14 : decode cX3_openCall 14 = .ok (.putfield 29, 3) := by decide +kernel
theorem dX3_openCall_17 : decode cX3_openCall 17 = .ok (.aload_n 0, 1) := by decide +kernel
theorem dX3_openCall_18 : decode cX3_openCall 18 = .ok (.aload_n 0, 1) := by decide +kernel
theorem dX3_openCall_19 : decode cX3_openCall 19 = .ok (.getfield 33, 3) := by decide +kernel
theorem dX3_openCall_22 : decode cX3_openCall 22 = .ok (.aload_n 0, 1) := by decide +kernel
theorem dX3_openCall_23 : decode cX3_openCall 23 = .ok (.getfield 80, 3) := by decide +kernel
theorem dX3_openCall_26 : decode cX3_openCall 26 = .ok (.iconst 1, 1) := by decide +kernel
theorem dX3_openCall_27 : decode cX3_openCall 27 = .ok (.iadd, 1) := by decide +kernel
theorem dX3_openCall_28 : decode cX3_openCall 28 = .ok (.invokestatic 252, 3) := by decide +kernel
theorem dX3_openCall_31 : decode cX3_openCall 31 = .ok (.putfield 33, 3) := by decide +kernel
theorem dX3_openCall_34 : decode cX3_openCall 34 = .ok (.aload_n 0, 1) := by decide +kernel
theorem dX3_openCall_35 : decode cX3_openCall 35 = .ok (.aload_n 0, 1) := by decide +kernel
theorem dX3_openCall_36 : decode cX3_openCall 36 = .ok (.getfield 36, 3) := by decide +kernel
theorem dX3_openCall_39 : decode cX3_openCall 39 = .ok (.aload_n 0, 1) := by decide +kernel
theorem dX3_openCall_40 : decode cX3_openCall 40 = .ok (.getfield 80, 3) := by decide +kernel
theorem dX3_openCall_43 : decode cX3_openCall 43 = .ok (.iconst 1, 1) := by decide +kernel
theorem dX3_openCall_44 : decode cX3_openCall 44 = .ok (.iadd, 1) := by decide +kernel
theorem dX3_openCall_45 : decode cX3_openCall 45 = .ok (.invokestatic 252, 3) := by decide +kernel
theorem dX3_openCall_48 : decode cX3_openCall 48 = .ok (.putfield 36, 3) := by decide +kernel
theorem dX3_openCall_51 : decode cX3_openCall 51 = .ok (.aload_n 0, 1) := by decide +kernel
theorem dX3_openCall_52 : decode cX3_openCall 52 = .ok (.getfield 29, 3) := by decide +kernel
theorem dX3_openCall_55 : decode cX3_openCall 55 = .ok (.aload_n 0, 1) := by decide +kernel
theorem dX3_openCall_56 : decode cX3_openCall 56 = .ok (.getfield 80, 3) := by decide +kernel
theorem dX3_openCall_59 : decode cX3_openCall 59 = .ok (.aload_n 0, 1) := by decide +kernel
theorem dX3_openCall_60 : decode cX3_openCall 60 = .ok (.getfield 77, 3) := by decide +kernel
theorem dX3_openCall_63 : decode cX3_openCall 63 = .ok (.iconst 1, 1) := by decide +kernel
theorem dX3_openCall_64 : decode cX3_openCall 64 = .ok (.iadd, 1) := by decide +kernel
theorem dX3_openCall_65 : decode cX3_openCall 65 = .ok (.iastore, 1) := by decide +kernel
theorem dX3_openCall_66 : decode cX3_openCall 66 = .ok (.aload_n 0, 1) := by decide +kernel
theorem dX3_openCall_67 : decode cX3_openCall 67 = .ok (.getfield 33, 3) := by decide +kernel
theorem dX3_openCall_70 : decode cX3_openCall 70 = .ok (.aload_n 0, 1) := by decide +kernel
theorem dX3_openCall_71 : decode cX3_openCall 71 = .ok (.getfield 80, 3) := by decide +kernel
theorem dX3_openCall_74 : decode cX3_openCall 74 = .ok (.aload_n 0, 1) := by decide +kernel
theorem dX3_openCall_75 : decode cX3_openCall 75 = .ok (.getfield 71, 3) := by decide +kernel
theorem dX3_openCall_78 : decode cX3_openCall 78 = .ok (.iastore, 1) := by decide +kernel
theorem dX3_openCall_79 : decode cX3_openCall 79 = .ok (.aload_n 0, 1) := by decide +kernel
theorem dX3_openCall_80 : decode cX3_openCall 80 = .ok (.getfield 36, 3) := by decide +kernel
theorem dX3_openCall_83 : decode cX3_openCall 83 = .ok (.aload_n 0, 1) := by decide +kernel
theorem dX3_openCall_84 : decode cX3_openCall 84 = .ok (.getfield 80, 3) := by decide +kernel
theorem dX3_openCall_87 : decode cX3_openCall 87 = .ok (.aload_n 0, 1) := by decide +kernel
theorem dX3_openCall_88 : decode cX3_openCall 88 = .ok (.getfield 74, 3) := by decide +kernel
theorem dX3_openCall_91 : decode cX3_openCall 91 = .ok (.iastore, 1) := by decide +kernel
theorem dX3_openCall_92 : decode cX3_openCall 92 = .ok (.aload_n 0, 1) := by decide +kernel
theorem dX3_openCall_93 : decode cX3_openCall 93 = .ok (.dup, 1) := by decide +kernel
theorem dX3_openCall_94 : decode cX3_openCall 94 = .ok (.getfield 80, 3) := by decide +kernel
theorem dX3_openCall_97 : decode cX3_openCall 97 = .ok (.iconst 1, 1) := by decide +kernel
theorem dX3_openCall_98 : decode cX3_openCall 98 = .ok (.iadd, 1) := by decide +kernel
theorem dX3_openCall_99 : decode cX3_openCall 99 = .ok (.putfield 80, 3) := by decide +kernel
theorem dX3_openCall_102 : decode cX3_openCall 102 = .ok (.aload_n 0, 1) := by decide +kernel
theorem dX3_openCall_103 : decode cX3_openCall 103 = .ok (.aload_n 0, 1) := by decide +kernel
theorem dX3_openCall_104 : decode cX3_openCall 104 = .ok (.getfield 68, 3) := by decide +kernel
theorem dX3_openCall_107 : decode cX3_openCall 107 = .ok (.iload_n 1, 1) := by decide +kernel
theorem dX3_openCall_108 : decode cX3_openCall 108 = .ok (.isub, 1) := by decide +kernel
theorem dX3_openCall_109 : decode cX3_openCall 109 = .ok (.putfield 71, 3) := by decide +kernel
theorem dX3_openCall_112 : decode cX3_openCall 112 = .ok (.return_, 1) := by decide +kernel
theorem dX3_giveBack_0 : decode cX3_giveBack 0 = .ok (.aload_n 0, 1) := by decide +kernel
theorem dX3_giveBack_1 : decode cX3_giveBack 1 = .ok (.getfield 80, 3) := by decide +kernel
theorem dX3_giveBack_4 : decode cX3_giveBack 4 = .ok (.ifCond .le 15, 3) := by decide +kernel
theorem dX3_giveBack_7 : decode cX3_giveBack 7 = .ok (.aload_n 0, 1) := by decide +kernel
theorem dX3_giveBack_8 : decode cX3_giveBack 8 = .ok (.getfield 80, 3) := by decide +kernel
theorem dX3_giveBack_11 : decode cX3_giveBack 11 = .ok (.aload_n 0, 1) := by decide +kernel
theorem dX3_giveBack_12 : decode cX3_giveBack 12 = .ok (.getfield 29, 3) := by decide +kernel
theorem dX3_giveBack_15 : decode cX3_giveBack 15 = .ok (.arraylength, 1) := by decide +kernel
theorem dX3_giveBack_16 : decode cX3_giveBack 16 = .ok (.if_icmp .le 9, 3) := by decide +kernel
theorem dX3_giveBack_19 : decode cX3_giveBack 19 = .ok (.aload_n 0, 1) := by decide +kernel
theorem dX3_giveBack_20 : decode cX3_giveBack 20 = .ok (.iconst 0, 1) := by decide +kernel
theorem dX3_giveBack_21 : decode cX3_giveBack 21 = .ok (.invokevirtual 148, 3) := by decide +kernel
theorem dX3_giveBack_24 : decode cX3_giveBack 24 = .ok (.return_, 1) := by decide +kernel
theorem dX3_giveBack_25 : decode cX3_giveBack 25 = .ok (.aload_n 0, 1) := by decide +kernel
theorem dX3_giveBack_26 : decode cX3_giveBack 26 = .ok (.invokevirtual 168, 3) := by decide +kernel
theorem dX3_giveBack_29 : decode cX3_giveBack 29 = .ok (.lstore_n 1, 1) := by decide +kernel
theorem dX3_giveBack_30 : decode cX3_giveBack 30 = .ok (.aload_n 0, 1) := by decide +kernel
theorem dX3_giveBack_31 : decode cX3_giveBack 31 = .ok (.aload_n 0, 1) := by decide +kernel
theorem dX3_giveBack_32 : decode cX3_giveBack 32 = .ok (.getfield 71, 3) := by decide +kernel
theorem dX3_giveBack_35 : decode cX3_giveBack 35 = .ok (.iconst 1, 1) := by decide +kernel
theorem dX3_giveBack_36 : decode cX3_giveBack 36 = .ok (.isub, 1) := by decide +kernel
theorem dX3_giveBack_37 : decode cX3_giveBack 37 = .ok (.putfield 68, 3) := by decide +kernel
theorem dX3_giveBack_40 : decode cX3_giveBack 40 = .ok (.aload_n 0, 1) := by decide +kernel
theorem dX3_giveBack_41 : decode cX3_giveBack 41 = .ok (.lload_n 1, 1) := by decide +kernel
theorem dX3_giveBack_42 : decode cX3_giveBack 42 = .ok (.invokevirtual 164, 3) := by decide +kernel
theorem dX3_giveBack_45 : decode cX3_giveBack 45 = .ok (.aload_n 0, 1) := by decide +kernel
theorem dX3_giveBack_46 : decode cX3_giveBack 46 = .ok (.dup, 1) := by decide +kernel
theorem dX3_giveBack_47 : decode cX3_giveBack 47 = .ok (.getfield 80, 3) := by decide +kernel
theorem dX3_giveBack_50 : decode cX3_giveBack 50 = .ok (.iconst 1, 1) := by decide +kernel
theorem dX3_giveBack_51 : decode cX3_giveBack 51 = .ok (.isub, 1) := by decide +kernel
theorem dX3_giveBack_52 : decode cX3_giveBack 52 = .ok (.putfield 80, 3) := by decide +kernel
theorem dX3_giveBack_55 : decode cX3_giveBack 55 = .ok (.aload_n 0, 1) := by decide +kernel
theorem dX3_giveBack_56 : decode cX3_giveBack 56 = .ok (.aload_n 0, 1) := by decide +kernel
theorem dX3_giveBack_57 : decode cX3_giveBack 57 = .ok (.getfield 29, 3) := by decide +kernel
theorem dX3_giveBack_60 : decode cX3_giveBack 60 = .ok (.aload_n 0, 1) := by decide +kernel
theorem dX3_giveBack_61 : decode cX3_giveBack 61 = .ok (.getfield 80, 3) := by decide +kernel
theorem dX3_giveBack_64 : decode cX3_giveBack 64 = .ok (.iaload, 1) := by decide +kernel
theorem dX3_giveBack_65 : decode cX3_giveBack 65 = .ok (.putfield 77, 3) := by decide +kernel
theorem dX3_giveBack_68 : decode cX3_giveBack 68 = .ok (.aload_n 0, 1) := by decide +kernel
theorem dX3_giveBack_69 : decode cX3_giveBack 69 = .ok (.aload_n 0, 1) := by decide +kernel
theorem dX3_giveBack_70 : decode cX3_giveBack 70 = .ok (.getfield 33, 3) := by decide +kernel
theorem dX3_giveBack_73 : decode cX3_giveBack 73 = .ok (.aload_n 0, 1) := by decide +kernel
theorem dX3_giveBack_74 : decode cX3_giveBack 74 = .ok (.getfield 80, 3) := by decide +kernel
theorem dX3_giveBack_77 : decode cX3_giveBack 77 = .ok (.iaload, 1) := by decide +kernel
theorem dX3_giveBack_78 : decode cX3_giveBack 78 = .ok (.putfield 71, 3) := by decide +kernel
theorem dX3_giveBack_81 : decode cX3_giveBack 81 = .ok (.aload_n 0, 1) := by decide +kernel
theorem dX3_giveBack_82 : decode cX3_giveBack 82 = .ok (.aload_n 0, 1) := by decide +kernel
theorem dX3_giveBack_83 : decode cX3_giveBack 83 = .ok (.getfield 36, 3) := by decide +kernel
theorem dX3_giveBack_86 : decode cX3_giveBack 86 = .ok (.aload_n 0, 1) := by decide +kernel
theorem dX3_giveBack_87 : decode cX3_giveBack 87 = .ok (.getfield 80, 3) := by decide +kernel
theorem dX3_giveBack_90 : decode cX3_giveBack 90 = .ok (.iaload, 1) := by decide +kernel
theorem dX3_giveBack_91 : decode cX3_giveBack 91 = .ok (.putfield 74, 3) := by decide +kernel
theorem dX3_giveBack_94 : decode cX3_giveBack 94 = .ok (.return_, 1) := by decide +kernel
theorem dX3_wantedByPrimitive_0 : decode cX3_wantedByPrimitive 0 = .ok (.iload_n 0, 1) := by decide +kernel
theorem dX3_wantedByPrimitive_1 : decode cX3_wantedByPrimitive 1 = .ok (.bipush 19, 2) := by decide +kernel
theorem dX3_wantedByPrimitive_3 : decode cX3_wantedByPrimitive 3 = .ok (.if_icmp .ne 5, 3) := by decide +kernel
theorem dX3_wantedByPrimitive_6 : decode cX3_wantedByPrimitive 6 = .ok (.iconst 0, 1) := by decide +kernel
theorem dX3_wantedByPrimitive_7 : decode cX3_wantedByPrimitive 7 = .ok (.ireturn, 1) := by decide +kernel
theorem dX3_wantedByPrimitive_8 : decode cX3_wantedByPrimitive 8 = .ok (.iload_n 0, 1) := by decide +kernel
theorem dX3_wantedByPrimitive_9 : decode cX3_wantedByPrimitive 9 = .ok (.bipush 8, 2) := by decide +kernel
theorem dX3_wantedByPrimitive_11 : decode cX3_wantedByPrimitive 11 = .ok (.if_icmp .ge 7, 3) := by decide +kernel
theorem dX3_wantedByPrimitive_14 : decode cX3_wantedByPrimitive 14 = .ok (.iconst 1, 1) := by decide +kernel
theorem dX3_wantedByPrimitive_15 : decode cX3_wantedByPrimitive 15 = .ok (.goto 4, 3) := by decide +kernel
theorem dX3_wantedByPrimitive_18 : decode cX3_wantedByPrimitive 18 = .ok (.iconst 2, 1) := by decide +kernel
theorem dX3_wantedByPrimitive_19 : decode cX3_wantedByPrimitive 19 = .ok (.ireturn, 1) := by decide +kernel
theorem dX3_callPrimitive_0 : decode cX3_callPrimitive 0 = .ok (.iload_n 2, 1) := by decide +kernel
theorem dX3_callPrimitive_1 : decode cX3_callPrimitive 1 = .ok (.ifCond .le 16, 3) := by decide +kernel
theorem dX3_callPrimitive_4 : decode cX3_callPrimitive 4 = .ok (.aload_n 0, 1) := by decide +kernel
theorem dX3_callPrimitive_5 : decode cX3_callPrimitive 5 = .ok (.aload_n 0, 1) := by decide +kernel
theorem dX3_callPrimitive_6 : decode cX3_callPrimitive 6 = .ok (.getfield 68, 3) := by decide +kernel
theorem dX3_callPrimitive_9 : decode cX3_callPrimitive 9 = .ok (.iload_n 2, 1) := by decide +kernel
theorem dX3_callPrimitive_10 : decode cX3_callPrimitive 10 = .ok (.isub, 1) := by decide +kernel
theorem dX3_callPrimitive_11 : decode cX3_callPrimitive 11 = .ok (.invokevirtual 154, 3) := by decide +kernel
theorem dX3_callPrimitive_14 : decode cX3_callPrimitive 14 = .ok (.goto 4, 3) := by decide +kernel
theorem dX3_callPrimitive_17 : decode cX3_callPrimitive 17 = .ok (.lconst 0, 1) := by decide +kernel
theorem dX3_callPrimitive_18 : decode cX3_callPrimitive 18 = .ok (.lstore 4, 2) := by decide +kernel
theorem dX3_callPrimitive_20 : decode cX3_callPrimitive 20 = .ok (.iload_n 2, 1) := by decide +kernel
theorem dX3_callPrimitive_21 : decode cX3_callPrimitive 21 = .ok (.iconst 1, 1) := by decide +kernel
theorem dX3_callPrimitive_22 : decode cX3_callPrimitive 22 = .ok (.if_icmp .le 16, 3) := by decide +kernel
theorem dX3_callPrimitive_25 : decode cX3_callPrimitive 25 = .ok (.aload_n 0, 1) := by decide +kernel
theorem dX3_callPrimitive_26 : decode cX3_callPrimitive 26 = .ok (.aload_n 0, 1) := by decide +kernel
theorem dX3_callPrimitive_27 : decode cX3_callPrimitive 27 = .ok (.getfield 68, 3) := by decide +kernel
theorem dX3_callPrimitive_30 : decode cX3_callPrimitive 30 = .ok (.iconst 1, 1) := by decide +kernel
theorem dX3_callPrimitive_31 : decode cX3_callPrimitive 31 = .ok (.isub, 1) := by decide +kernel
theorem dX3_callPrimitive_32 : decode cX3_callPrimitive 32 = .ok (.invokevirtual 154, 3) := by decide +kernel
theorem dX3_callPrimitive_35 : decode cX3_callPrimitive 35 = .ok (.goto 4, 3) := by decide +kernel
theorem dX3_callPrimitive_38 : decode cX3_callPrimitive 38 = .ok (.lconst 0, 1) := by decide +kernel
theorem dX3_callPrimitive_39 : decode cX3_callPrimitive 39 = .ok (.lstore 6, 2) := by decide +kernel
theorem dX3_callPrimitive_41 : decode cX3_callPrimitive 41 = .ok (.iload_n 2, 1) := by decide +kernel
theorem dX3_callPrimitive_42 : decode cX3_callPrimitive 42 = .ok (.iload_n 1, 1) := by decide +kernel
theorem dX3_callPrimitive_43 : decode cX3_callPrimitive 43 = .ok (.invokestatic 255, 3) := by decide +kernel
theorem dX3_callPrimitive_46 : decode cX3_callPrimitive 46 = .ok (.if_icmp .ne 15, 3) := by decide +kernel
theorem dX3_callPrimitive_49 : decode cX3_callPrimitive 49 = .ok (.aload_n 0, 1) := by decide +kernel
theorem dX3_callPrimitive_50 : decode cX3_callPrimitive 50 = .ok (.iload_n 1, 1) := by decide +kernel
theorem dX3_callPrimitive_51 : decode cX3_callPrimitive 51 = .ok (.lload 4, 2) := by decide +kernel
theorem dX3_callPrimitive_53 : decode cX3_callPrimitive 53 = .ok (.lload 6, 2) := by decide +kernel
theorem dX3_callPrimitive_55 : decode cX3_callPrimitive 55 = .ok (.invokevirtual 258, 3) := by decide +kernel
theorem dX3_callPrimitive_58 : decode cX3_callPrimitive 58 = .ok (.goto 4, 3) := by decide +kernel
theorem dX3_callPrimitive_61 : decode cX3_callPrimitive 61 = .ok (.iconst 2, 1) := by decide +kernel
theorem dX3_callPrimitive_62 : decode cX3_callPrimitive 62 = .ok (.istore 8, 2) := by decide +kernel
theorem dX3_callPrimitive_64 : decode cX3_callPrimitive 64 = .ok (.iload 8, 2) := by decide +kernel
theorem dX3_callPrimitive_66 : decode cX3_callPrimitive 66 = .ok (.ifCond .eq 12, 3) := by decide +kernel
theorem dX3_callPrimitive_69 : decode cX3_callPrimitive 69 = .ok (.aload_n 0, 1) := by decide +kernel
theorem dX3_callPrimitive_70 : decode cX3_callPrimitive 70 = .ok (.iload 8, 2) := by decide +kernel
theorem dX3_callPrimitive_72 : decode cX3_callPrimitive 72 = .ok (.invokevirtual 161, 3) := by decide +kernel
theorem dX3_callPrimitive_75 : decode cX3_callPrimitive 75 = .ok (.goto 104, 3) := by decide +kernel
theorem dX3_callPrimitive_78 : decode cX3_callPrimitive 78 = .ok (.iload_n 1, 1) := by decide +kernel
theorem dX3_callPrimitive_79 : decode cX3_callPrimitive 79 = .ok (.bipush 19, 2) := by decide +kernel
theorem dX3_callPrimitive_81 : decode cX3_callPrimitive 81 = .ok (.if_icmp .ne 21, 3) := by decide +kernel
theorem dX3_callPrimitive_84 : decode cX3_callPrimitive 84 = .ok (.aload_n 0, 1) := by decide +kernel
theorem dX3_callPrimitive_85 : decode cX3_callPrimitive 85 = .ok (.getfield 21, 3) := by decide +kernel
theorem dX3_callPrimitive_88 : decode cX3_callPrimitive 88 = .ok (.getfield 262, 3) := by decide +kernel
theorem dX3_callPrimitive_91 : decode cX3_callPrimitive 91 = .ok (.ifCond .ne 11, 3) := by decide +kernel
theorem dX3_callPrimitive_94 : decode cX3_callPrimitive 94 = .ok (.aload_n 0, 1) := by decide +kernel
theorem dX3_callPrimitive_95 : decode cX3_callPrimitive 95 = .ok (.iconst 2, 1) := by decide +kernel
theorem dX3_callPrimitive_96 : decode cX3_callPrimitive 96 = .ok (.invokevirtual 148, 3) := by decide +kernel
theorem dX3_callPrimitive_99 : decode cX3_callPrimitive 99 = .ok (.goto 80, 3) := by decide +kernel
theorem dX3_callPrimitive_102 : decode cX3_callPrimitive 102 = .ok (.iload_n 1, 1) := by decide +kernel
theorem dX3_callPrimitive_103 : decode cX3_callPrimitive 103 = .ok (.bipush 7, 2) := by decide +kernel
theorem dX3_callPrimitive_105 : decode cX3_callPrimitive 105 = .ok (.if_icmp .ne 24, 3) := by decide +kernel
theorem dX3_callPrimitive_108 : decode cX3_callPrimitive 108 = .ok (.aload_n 0, 1) := by decide +kernel
theorem dX3_callPrimitive_109 : decode cX3_callPrimitive 109 = .ok (.getfield 21, 3) := by decide +kernel
theorem dX3_callPrimitive_112 : decode cX3_callPrimitive 112 = .ok (.getfield 265, 3) := by decide +kernel
theorem dX3_callPrimitive_115 : decode cX3_callPrimitive 115 = .ok (.sipush 1000, 3) := by decide +kernel
theorem dX3_callPrimitive_118 : decode cX3_callPrimitive 118 = .ok (.if_icmp .lt 11, 3) := by decide +kernel
theorem dX3_callPrimitive_121 : decode cX3_callPrimitive 121 = .ok (.aload_n 0, 1) := by decide +kernel
theorem dX3_callPrimitive_122 : decode cX3_callPrimitive 122 = .ok (.iconst 3, 1) := by decide +kernel
theorem dX3_callPrimitive_123 : decode cX3_callPrimitive 123 = .ok (.invokevirtual 148, 3) := by decide +kernel
theorem dX3_callPrimitive_126 : decode cX3_callPrimitive 126 = .ok (.goto 53, 3) := by decide +kernel
theorem dX3_callPrimitive_129 : decode cX3_callPrimitive 129 = .ok (.aload_n 0, 1) := by decide +kernel
theorem dX3_callPrimitive_130 : decode cX3_callPrimitive 130 = .ok (.iload_n 1, 1) := by decide +kernel
theorem dX3_callPrimitive_131 : decode cX3_callPrimitive 131 = .ok (.lload 4, 2) := by decide +kernel
theorem dX3_callPrimitive_133 : decode cX3_callPrimitive 133 = .ok (.lload 6, 2) := by decide +kernel
theorem dX3_callPrimitive_135 : decode cX3_callPrimitive 135 = .ok (.invokevirtual 268, 3) := by decide +kernel
theorem dX3_callPrimitive_138 : decode cX3_callPrimitive 138 = .ok (.lstore 9, 2) := by decide +kernel
theorem dX3_callPrimitive_140 : decode cX3_callPrimitive 140 = .ok (.aload_n 0, 1) := by decide +kernel
theorem dX3_callPrimitive_141 : decode cX3_callPrimitive 141 = .ok (.dup, 1) := by decide +kernel
theorem dX3_callPrimitive_142 : decode cX3_callPrimitive 142 = .ok (.getfield 68, 3) := by decide +kernel
theorem dX3_callPrimitive_145 : decode cX3_callPrimitive 145 = .ok (.iload_n 2, 1) := by decide +kernel
theorem dX3_callPrimitive_146 : decode cX3_callPrimitive 146 = .ok (.iconst 1, 1) := by decide +kernel
theorem dX3_callPrimitive_147 : decode cX3_callPrimitive 147 = .ok (.iadd, 1) := by decide +kernel
theorem dX3_callPrimitive_148 : decode cX3_callPrimitive 148 = .ok (.isub, 1) := by decide +kernel
theorem dX3_callPrimitive_149 : decode cX3_callPrimitive 149 = .ok (.putfield 68, 3) := by decide +kernel
theorem dX3_callPrimitive_152 : decode cX3_callPrimitive 152 = .ok (.aload_n 0, 1) := by decide +kernel
theorem dX3_callPrimitive_153 : decode cX3_callPrimitive 153 = .ok (.lload 9, 2) := by decide +kernel
theorem dX3_callPrimitive_155 : decode cX3_callPrimitive 155 = .ok (.invokevirtual 164, 3) := by decide +kernel
theorem dX3_callPrimitive_158 : decode cX3_callPrimitive 158 = .ok (.iload_n 3, 1) := by decide +kernel
theorem dX3_callPrimitive_159 : decode cX3_callPrimitive 159 = .ok (.ifCond .eq 10, 3) := by decide +kernel
theorem dX3_callPrimitive_162 : decode cX3_callPrimitive 162 = .ok (.aload_n 0, 1) := by decide +kernel
theorem dX3_callPrimitive_163 : decode cX3_callPrimitive 163 = .ok (.invokevirtual 142, 3) := by decide +kernel
theorem dX3_callPrimitive_166 : decode cX3_callPrimitive 166 = .ok (.goto 13, 3) := by decide +kernel
theorem dX3_callPrimitive_169 : decode cX3_callPrimitive 169 = .ok (.aload_n 0, 1) := by decide +kernel
theorem dX3_callPrimitive_170 : decode cX3_callPrimitive 170 = .ok (.dup, 1) := by decide +kernel
theorem dX3_callPrimitive_171 : decode cX3_callPrimitive 171 = .ok (.getfield 77, 3) := by decide +kernel
theorem dX3_callPrimitive_174 : decode cX3_callPrimitive 174 = .ok (.iconst 1, 1) := by decide +kernel
theorem dX3_callPrimitive_175 : decode cX3_callPrimitive 175 = .ok (.iadd, 1) := by decide +kernel
theorem dX3_callPrimitive_176 : decode cX3_callPrimitive 176 = .ok (.putfield 77, 3) := by decide +kernel
theorem dX3_callPrimitive_179 : decode cX3_callPrimitive 179 = .ok (.return_, 1) := by decide +kernel
theorem dX3_errorOf_0 : decode cX3_errorOf 0 = .ok (.iload_n 1, 1) := by decide +kernel
theorem dX3_errorOf_1 : decode cX3_errorOf 1 = .ok (.tableswitch 178 0 18 #[91, 91, 178, 178, 178, 178, 178, 106, 160, 91, 91, 178, 120, 120, 120, 135, 135, 120, 120], 91) := by decide +kernel
theorem dX3_errorOf_92 : decode cX3_errorOf 92 = .ok (.lload_n 2, 1) := by decide +kernel
theorem dX3_errorOf_93 : decode cX3_errorOf 93 = .ok (.invokestatic 105, 3) := by decide +kernel
theorem dX3_errorOf_96 : decode cX3_errorOf 96 = .ok (.bipush 6, 2) := by decide +kernel
theorem dX3_errorOf_98 : decode cX3_errorOf 98 = .ok (.if_icmp .ne 7, 3) := by decide +kernel
theorem dX3_errorOf_101 : decode cX3_errorOf 101 = .ok (.iconst 0, 1) := by decide +kernel
theorem dX3_errorOf_102 : decode cX3_errorOf 102 = .ok (.goto 4, 3) := by decide +kernel
theorem dX3_errorOf_105 : decode cX3_errorOf 105 = .ok (.iconst 3, 1) := by decide +kernel
theorem dX3_errorOf_106 : decode cX3_errorOf 106 = .ok (.ireturn, 1) := by decide +kernel
theorem dX3_errorOf_107 : decode cX3_errorOf 107 = .ok (.lload_n 2, 1) := by decide +kernel
theorem dX3_errorOf_108 : decode cX3_errorOf 108 = .ok (.invokestatic 105, 3) := by decide +kernel
theorem dX3_errorOf_111 : decode cX3_errorOf 111 = .ok (.iconst 1, 1) := by decide +kernel
theorem dX3_errorOf_112 : decode cX3_errorOf 112 = .ok (.if_icmp .ne 7, 3) := by decide +kernel
theorem dX3_errorOf_115 : decode cX3_errorOf 115 = .ok (.iconst 0, 1) := by decide +kernel
theorem dX3_errorOf_116 : decode cX3_errorOf 116 = .ok (.goto 4, 3) := by decide +kernel
theorem dX3_errorOf_119 : decode cX3_errorOf 119 = .ok (.iconst 3, 1) := by decide +kernel
theorem dX3_errorOf_120 : decode cX3_errorOf 120 = .ok (.ireturn, 1) := by decide +kernel
theorem dX3_errorOf_121 : decode cX3_errorOf 121 = .ok (.lload_n 2, 1) := by decide +kernel
theorem dX3_errorOf_122 : decode cX3_errorOf 122 = .ok (.lload 4, 2) := by decide +kernel
theorem dX3_errorOf_124 : decode cX3_errorOf 124 = .ok (.invokestatic 272, 3) := by decide +kernel
theorem dX3_errorOf_127 : decode cX3_errorOf 127 = .ok (.ifCond .eq 7, 3) := by decide +kernel
theorem dX3_errorOf_130 : decode cX3_errorOf 130 = .ok (.iconst 0, 1) := by decide +kernel
theorem dX3_errorOf_131 : decode cX3_errorOf 131 = .ok (.goto 4, 3) := by decide +kernel
theorem dX3_errorOf_134 : decode cX3_errorOf 134 = .ok (.iconst 3, 1) := by decide +kernel
theorem dX3_errorOf_135 : decode cX3_errorOf 135 = .ok (.ireturn, 1) := by decide +kernel
theorem dX3_errorOf_136 : decode cX3_errorOf 136 = .ok (.lload_n 2, 1) := by decide +kernel
theorem dX3_errorOf_137 : decode cX3_errorOf 137 = .ok (.lload 4, 2) := by decide +kernel
theorem dX3_errorOf_139 : decode cX3_errorOf 139 = .ok (.invokestatic 272, 3) := by decide +kernel
theorem dX3_errorOf_142 : decode cX3_errorOf 142 = .ok (.ifCond .ne 5, 3) := by decide +kernel
theorem dX3_errorOf_145 : decode cX3_errorOf 145 = .ok (.iconst 3, 1) := by decide +kernel
theorem dX3_errorOf_146 : decode cX3_errorOf 146 = .ok (.ireturn, 1) := by decide +kernel
theorem dX3_errorOf_147 : decode cX3_errorOf 147 = .ok (.lload 4, 2) := by decide +kernel
theorem dX3_errorOf_149 : decode cX3_errorOf 149 = .ok (.invokestatic 186, 3) := by decide +kernel
theorem dX3_errorOf_152 : decode cX3_errorOf 152 = .ok (.ifCond .ne 7, 3) := by decide +kernel
theorem dX3_errorOf_155 : decode cX3_errorOf 155 = .ok (.iconst 4, 1) := by decide +kernel
theorem dX3_errorOf_156 : decode cX3_errorOf 156 = .ok (.goto 4, 3) := by decide +kernel
theorem dX3_errorOf_159 : decode cX3_errorOf 159 = .ok (.iconst 0, 1) := by decide +kernel
theorem dX3_errorOf_160 : decode cX3_errorOf 160 = .ok (.ireturn, 1) := by decide +kernel
theorem dX3_errorOf_161 : decode cX3_errorOf 161 = .ok (.aload_n 0, 1) := by decide +kernel
theorem dX3_errorOf_162 : decode cX3_errorOf 162 = .ok (.getfield 12, 3) := by decide +kernel
theorem dX3_errorOf_165 : decode cX3_errorOf 165 = .ok (.iconst 1, 1) := by decide +kernel
theorem dX3_errorOf_166 : decode cX3_errorOf 166 = .ok (.invokevirtual 198, 3) := by decide +kernel
theorem dX3_errorOf_169 : decode cX3_errorOf 169 = .ok (.ifCond .eq 7, 3) := by decide +kernel
theorem dX3_errorOf_172 : decode cX3_errorOf 172 = .ok (.iconst 0, 1) := by decide +kernel
theorem dX3_errorOf_173 : decode cX3_errorOf 173 = .ok (.goto 5, 3) := by decide +kernel
theorem dX3_errorOf_176 : decode cX3_errorOf 176 = .ok (.bipush 6, 2) := by decide +kernel
theorem dX3_errorOf_178 : decode cX3_errorOf 178 = .ok (.ireturn, 1) := by decide +kernel
theorem dX3_errorOf_179 : decode cX3_errorOf 179 = .ok (.iconst 0, 1) := by decide +kernel
theorem dX3_errorOf_180 : decode cX3_errorOf 180 = .ok (.ireturn, 1) := by decide +kernel
theorem dX3_areIntegers_0 : decode cX3_areIntegers 0 = .ok (.lload_n 0, 1) := by decide +kernel
theorem dX3_areIntegers_1 : decode cX3_areIntegers 1 = .ok (.invokestatic 105, 3) := by decide +kernel
theorem dX3_areIntegers_4 : decode cX3_areIntegers 4 = .ok (.iconst 1, 1) := by decide +kernel
theorem dX3_areIntegers_5 : decode cX3_areIntegers 5 = .ok (.if_icmp .ne 15, 3) := by decide +kernel
theorem dX3_areIntegers_8 : decode cX3_areIntegers 8 = .ok (.lload_n 2, 1) := by decide +kernel
theorem dX3_areIntegers_9 : decode cX3_areIntegers 9 = .ok (.invokestatic 105, 3) := by decide +kernel
theorem dX3_areIntegers_12 : decode cX3_areIntegers 12 = .ok (.iconst 1, 1) := by decide +kernel
theorem dX3_areIntegers_13 : decode cX3_areIntegers 13 = .ok (.if_icmp .ne 7, 3) := by decide +kernel
theorem dX3_areIntegers_16 : decode cX3_areIntegers 16 = .ok (.iconst 1, 1) := by decide +kernel
theorem dX3_areIntegers_17 : decode cX3_areIntegers 17 = .ok (.goto 4, 3) := by decide +kernel
theorem dX3_areIntegers_20 : decode cX3_areIntegers 20 = .ok (.iconst 0, 1) := by decide +kernel
theorem dX3_areIntegers_21 : decode cX3_areIntegers 21 = .ok (.ireturn, 1) := by decide +kernel
theorem dX3_valueOf_0 : decode cX3_valueOf 0 = .ok (.lload_n 2, 1) := by decide +kernel
theorem dX3_valueOf_1 : decode cX3_valueOf 1 = .ok (.invokestatic 105, 3) := by decide +kernel
theorem dX3_valueOf_4 : decode cX3_valueOf 4 = .ok (.istore 6, 2) := by decide +kernel
theorem dX3_valueOf_6 : decode cX3_valueOf 6 = .ok (.iload_n 1, 1) := by decide +kernel
theorem dX3_valueOf_7 : decode cX3_valueOf 7 = .ok (.tableswitch 287 0 19 #[93, 105, 162, 178, 193, 208, 231, 262, 151, 119, 134, 246, 287, 287, 287, 287, 287, 287, 287, 275], 93) := by decide +kernel
theorem dX3_valueOf_100 : decode cX3_valueOf 100 = .ok (.aload_n 0, 1) := by decide +kernel
theorem dX3_valueOf_101 : decode cX3_valueOf 101 = .ok (.getfield 12, 3) := by decide +kernel
theorem dX3_valueOf_104 : decode cX3_valueOf 104 = .ok (.lload_n 2, 1) := by decide +kernel
theorem dX3_valueOf_105 : decode cX3_valueOf 105 = .ok (.invokestatic 186, 3) := by decide +kernel
theorem dX3_valueOf_108 : decode cX3_valueOf 108 = .ok (.invokevirtual 189, 3) := by decide +kernel
theorem dX3_valueOf_111 : decode cX3_valueOf 111 = .ok (.lreturn, 1) := by decide +kernel
theorem dX3_valueOf_112 : decode cX3_valueOf 112 = .ok (.aload_n 0, 1) := by decide +kernel
theorem dX3_valueOf_113 : decode cX3_valueOf 113 = .ok (.getfield 12, 3) := by decide +kernel
theorem dX3_valueOf_116 : decode cX3_valueOf 116 = .ok (.lload_n 2, 1) := by decide +kernel
theorem dX3_valueOf_117 : decode cX3_valueOf 117 = .ok (.invokestatic 186, 3) := by decide +kernel
theorem dX3_valueOf_120 : decode cX3_valueOf 120 = .ok (.iconst 1, 1) := by decide +kernel
theorem dX3_valueOf_121 : decode cX3_valueOf 121 = .ok (.iadd, 1) := by decide +kernel
theorem dX3_valueOf_122 : decode cX3_valueOf 122 = .ok (.invokevirtual 189, 3) := by decide +kernel
theorem dX3_valueOf_125 : decode cX3_valueOf 125 = .ok (.lreturn, 1) := by decide +kernel
theorem dX3_valueOf_126 : decode cX3_valueOf 126 = .ok (.aload_n 0, 1) := by decide +kernel
theorem dX3_valueOf_127 : decode cX3_valueOf 127 = .ok (.getfield 12, 3) := by decide +kernel
theorem dX3_valueOf_130 : decode cX3_valueOf 130 = .ok (.lload_n 2, 1) := by decide +kernel
theorem dX3_valueOf_131 : decode cX3_valueOf 131 = .ok (.invokestatic 186, 3) := by decide +kernel
theorem dX3_valueOf_134 : decode cX3_valueOf 134 = .ok (.lload 4, 2) := by decide +kernel
theorem dX3_valueOf_136 : decode cX3_valueOf 136 = .ok (.invokevirtual 180, 3) := by decide +kernel
theorem dX3_valueOf_139 : decode cX3_valueOf 139 = .ok (.lconst 0, 1) := by decide +kernel
theorem dX3_valueOf_140 : decode cX3_valueOf 140 = .ok (.lreturn, 1) := by decide +kernel
theorem dX3_valueOf_141 : decode cX3_valueOf 141 = .ok (.aload_n 0, 1) := by decide +kernel
theorem dX3_valueOf_142 : decode cX3_valueOf 142 = .ok (.getfield 12, 3) := by decide +kernel
theorem dX3_valueOf_145 : decode cX3_valueOf 145 = .ok (.lload_n 2, 1) := by decide +kernel
theorem dX3_valueOf_146 : decode cX3_valueOf 146 = .ok (.invokestatic 186, 3) := by decide +kernel
theorem dX3_valueOf_149 : decode cX3_valueOf 149 = .ok (.iconst 1, 1) := by decide +kernel
theorem dX3_valueOf_150 : decode cX3_valueOf 150 = .ok (.iadd, 1) := by decide +kernel
theorem dX3_valueOf_151 : decode cX3_valueOf 151 = .ok (.lload 4, 2) := by decide +kernel
theorem dX3_valueOf_153 : decode cX3_valueOf 153 = .ok (.invokevirtual 180, 3) := by decide +kernel
theorem dX3_valueOf_156 : decode cX3_valueOf 156 = .ok (.lconst 0, 1) := by decide +kernel
theorem dX3_valueOf_157 : decode cX3_valueOf 157 = .ok (.lreturn, 1) := by decide +kernel
theorem dX3_valueOf_158 : decode cX3_valueOf 158 = .ok (.aload_n 0, 1) := by decide +kernel
theorem dX3_valueOf_159 : decode cX3_valueOf 159 = .ok (.getfield 12, 3) := by decide +kernel
theorem dX3_valueOf_162 : decode cX3_valueOf 162 = .ok (.lload_n 2, 1) := by decide +kernel
theorem dX3_valueOf_163 : decode cX3_valueOf 163 = .ok (.lload 4, 2) := by decide +kernel
theorem dX3_valueOf_165 : decode cX3_valueOf 165 = .ok (.invokevirtual 276, 3) := by decide +kernel
theorem dX3_valueOf_168 : decode cX3_valueOf 168 = .ok (.lreturn, 1) := by decide +kernel
theorem dX3_valueOf_169 : decode cX3_valueOf 169 = .ok (.iload 6, 2) := by decide +kernel
theorem dX3_valueOf_171 : decode cX3_valueOf 171 = .ok (.bipush 6, 2) := by decide +kernel
theorem dX3_valueOf_173 : decode cX3_valueOf 173 = .ok (.if_icmp .ne 7, 3) := by decide +kernel
theorem dX3_valueOf_176 : decode cX3_valueOf 176 = .ok (.iconst 1, 1) := by decide +kernel
theorem dX3_valueOf_177 : decode cX3_valueOf 177 = .ok (.goto 4, 3) := by decide +kernel
theorem dX3_valueOf_180 : decode cX3_valueOf 180 = .ok (.iconst 0, 1) := by decide +kernel
theorem dX3_valueOf_181 : decode cX3_valueOf 181 = .ok (.invokestatic 280, 3) := by decide +kernel
theorem dX3_valueOf_184 : decode cX3_valueOf 184 = .ok (.lreturn, 1) := by decide +kernel
theorem dX3_valueOf_185 : decode cX3_valueOf 185 = .ok (.iload 6, 2) := by decide +kernel
theorem dX3_valueOf_187 : decode cX3_valueOf 187 = .ok (.iconst 4, 1) := by decide +kernel
theorem dX3_valueOf_188 : decode cX3_valueOf 188 = .ok (.if_icmp .ne 7, 3) := by decide +kernel
theorem dX3_valueOf_191 : decode cX3_valueOf 191 = .ok (.iconst 1, 1) := by decide +kernel
theorem dX3_valueOf_192 : decode cX3_valueOf 192 = .ok (.goto 4, 3) := by decide +kernel
theorem dX3_valueOf_195 : decode cX3_valueOf 195 = .ok (.iconst 0, 1) := by decide +kernel
theorem dX3_valueOf_196 : decode cX3_valueOf 196 = .ok (.invokestatic 280, 3) := by decide +kernel
theorem dX3_valueOf_199 : decode cX3_valueOf 199 = .ok (.lreturn, 1) := by decide +kernel
theorem dX3_valueOf_200 : decode cX3_valueOf 200 = .ok (.iload 6, 2) := by decide +kernel
theorem dX3_valueOf_202 : decode cX3_valueOf 202 = .ok (.iconst 1, 1) := by decide +kernel
theorem dX3_valueOf_203 : decode cX3_valueOf 203 = .ok (.if_icmp .ne 7, 3) := by decide +kernel
theorem dX3_valueOf_206 : decode cX3_valueOf 206 = .ok (.iconst 1, 1) := by decide +kernel
theorem dX3_valueOf_207 : decode cX3_valueOf 207 = .ok (.goto 4, 3) := by decide +kernel
theorem dX3_valueOf_210 : decode cX3_valueOf 210 = .ok (.iconst 0, 1) := by decide +kernel
theorem dX3_valueOf_211 : decode cX3_valueOf 211 = .ok (.invokestatic 280, 3) := by decide +kernel
theorem dX3_valueOf_214 : decode cX3_valueOf 214 = .ok (.lreturn, 1) := by decide +kernel
theorem dX3_valueOf_215 : decode cX3_valueOf 215 = .ok (.iload 6, 2) := by decide +kernel
theorem dX3_valueOf_217 : decode cX3_valueOf 217 = .ok (.bipush 7, 2) := by decide +kernel
theorem dX3_valueOf_219 : decode cX3_valueOf 219 = .ok (.if_icmp .eq 10, 3) := by decide +kernel
theorem dX3_valueOf_222 : decode cX3_valueOf 222 = .ok (.iload 6, 2) := by decide +kernel
theorem dX3_valueOf_224 : decode cX3_valueOf 224 = .ok (.bipush 8, 2) := by decide +kernel
theorem dX3_valueOf_226 : decode cX3_valueOf 226 = .ok (.if_icmp .ne 7, 3) := by decide +kernel
theorem dX3_valueOf_229 : decode cX3_valueOf 229 = .ok (.iconst 1, 1) := by decide +kernel
theorem dX3_valueOf_230 : decode cX3_valueOf 230 = .ok (.goto 4, 3) := by decide +kernel
theorem dX3_valueOf_233 : decode cX3_valueOf 233 = .ok (.iconst 0, 1) := by decide +kernel
theorem dX3_valueOf_234 : decode cX3_valueOf 234 = .ok (.invokestatic 280, 3) := by decide +kernel
theorem dX3_valueOf_237 : decode cX3_valueOf 237 = .ok (.lreturn, 1) := by decide +kernel
theorem dX3_valueOf_238 : decode cX3_valueOf 238 = .ok (.iload 6, 2) := by decide +kernel
theorem dX3_valueOf_240 : decode cX3_valueOf 240 = .ok (.iconst 2, 1) := by decide +kernel
theorem dX3_valueOf_241 : decode cX3_valueOf 241 = .ok (.if_icmp .ne 7, 3) := by decide +kernel
theorem dX3_valueOf_244 : decode cX3_valueOf 244 = .ok (.iconst 1, 1) := by decide +kernel
theorem dX3_valueOf_245 : decode cX3_valueOf 245 = .ok (.goto 4, 3) := by decide +kernel
theorem dX3_valueOf_248 : decode cX3_valueOf 248 = .ok (.iconst 0, 1) := by decide +kernel
theorem dX3_valueOf_249 : decode cX3_valueOf 249 = .ok (.invokestatic 280, 3) := by decide +kernel
theorem dX3_valueOf_252 : decode cX3_valueOf 252 = .ok (.lreturn, 1) := by decide +kernel
theorem dX3_valueOf_253 : decode cX3_valueOf 253 = .ok (.lload_n 2, 1) := by decide +kernel
theorem dX3_valueOf_254 : decode cX3_valueOf 254 = .ok (.lload 4, 2) := by decide +kernel
theorem dX3_valueOf_256 : decode cX3_valueOf 256 = .ok (.lcmp, 1) := by decide +kernel
theorem dX3_valueOf_257 : decode cX3_valueOf 257 = .ok (.ifCond .ne 7, 3) := by decide +kernel
theorem dX3_valueOf_260 : decode cX3_valueOf 260 = .ok (.iconst 1, 1) := by decide +kernel
theorem dX3_valueOf_261 : decode cX3_valueOf 261 = .ok (.goto 4, 3) := by decide +kernel
theorem dX3_valueOf_264 : decode cX3_valueOf 264 = .ok (.iconst 0, 1) := by decide +kernel
theorem dX3_valueOf_265 : decode cX3_valueOf 265 = .ok (.invokestatic 280, 3) := by decide +kernel
theorem dX3_valueOf_268 : decode cX3_valueOf 268 = .ok (.lreturn, 1) := by decide +kernel
theorem dX3_valueOf_269 : decode cX3_valueOf 269 = .ok (.aload_n 0, 1) := by decide +kernel
theorem dX3_valueOf_270 : decode cX3_valueOf 270 = .ok (.getfield 21, 3) := by decide +kernel
theorem dX3_valueOf_273 : decode cX3_valueOf 273 = .ok (.lload_n 2, 1) := by decide +kernel
theorem dX3_valueOf_274 : decode cX3_valueOf 274 = .ok (.invokestatic 186, 3) := by decide +kernel
theorem dX3_valueOf_277 : decode cX3_valueOf 277 = .ok (.invokevirtual 284, 3) := by decide +kernel
theorem dX3_valueOf_280 : decode cX3_valueOf 280 = .ok (.lconst 0, 1) := by decide +kernel
theorem dX3_valueOf_281 : decode cX3_valueOf 281 = .ok (.lreturn, 1) := by decide +kernel
theorem dX3_valueOf_282 : decode cX3_valueOf 282 = .ok (.iconst 1, 1) := by decide +kernel
theorem dX3_valueOf_283 : decode cX3_valueOf 283 = .ok (.aload_n 0, 1) := by decide +kernel
theorem dX3_valueOf_284 : decode cX3_valueOf 284 = .ok (.getfield 21, 3) := by decide +kernel
theorem dX3_valueOf_287 : decode cX3_valueOf 287 = .ok (.invokevirtual 287, 3) := by decide +kernel
theorem dX3_valueOf_290 : decode cX3_valueOf 290 = .ok (.invokestatic 83, 3) := by decide +kernel
theorem dX3_valueOf_293 : decode cX3_valueOf 293 = .ok (.lreturn, 1) := by decide +kernel
theorem dX3_valueOf_294 : decode cX3_valueOf 294 = .ok (.iload_n 1, 1) := by decide +kernel
theorem dX3_valueOf_295 : decode cX3_valueOf 295 = .ok (.lload_n 2, 1) := by decide +kernel
theorem dX3_valueOf_296 : decode cX3_valueOf 296 = .ok (.invokestatic 186, 3) := by decide +kernel
theorem dX3_valueOf_299 : decode cX3_valueOf 299 = .ok (.lload 4, 2) := by decide +kernel
theorem dX3_valueOf_301 : decode cX3_valueOf 301 = .ok (.invokestatic 186, 3) := by decide +kernel
theorem dX3_valueOf_304 : decode cX3_valueOf 304 = .ok (.invokestatic 291, 3) := by decide +kernel
theorem dX3_valueOf_307 : decode cX3_valueOf 307 = .ok (.lreturn, 1) := by decide +kernel
theorem dX3_reckoned_0 : decode cX3_reckoned 0 = .ok (.iload_n 0, 1) := by decide +kernel
theorem dX3_reckoned_1 : decode cX3_reckoned 1 = .ok (.tableswitch 111 12 18 #[43, 51, 59, 95, 111, 67, 81], 43) := by decide +kernel
theorem dX3_reckoned_44 : decode cX3_reckoned 44 = .ok (.iconst 1, 1) := by decide +kernel
theorem dX3_reckoned_45 : decode cX3_reckoned 45 = .ok (.iload_n 1, 1) := by decide +kernel
theorem dX3_reckoned_46 : decode cX3_reckoned 46 = .ok (.iload_n 2, 1) := by decide +kernel
theorem dX3_reckoned_47 : decode cX3_reckoned 47 = .ok (.iadd, 1) := by decide +kernel
theorem dX3_reckoned_48 : decode cX3_reckoned 48 = .ok (.invokestatic 83, 3) := by decide +kernel
theorem dX3_reckoned_51 : decode cX3_reckoned 51 = .ok (.lreturn, 1) := by decide +kernel
theorem dX3_reckoned_52 : decode cX3_reckoned 52 = .ok (.iconst 1, 1) := by decide +kernel
theorem dX3_reckoned_53 : decode cX3_reckoned 53 = .ok (.iload_n 1, 1) := by decide +kernel
theorem dX3_reckoned_54 : decode cX3_reckoned 54 = .ok (.iload_n 2, 1) := by decide +kernel
theorem dX3_reckoned_55 : decode cX3_reckoned 55 = .ok (.isub, 1) := by decide +kernel
theorem dX3_reckoned_56 : decode cX3_reckoned 56 = .ok (.invokestatic 83, 3) := by decide +kernel
theorem dX3_reckoned_59 : decode cX3_reckoned 59 = .ok (.lreturn, 1) := by decide +kernel
theorem dX3_reckoned_60 : decode cX3_reckoned 60 = .ok (.iconst 1, 1) := by decide +kernel
theorem dX3_reckoned_61 : decode cX3_reckoned 61 = .ok (.iload_n 1, 1) := by decide +kernel
theorem dX3_reckoned_62 : decode cX3_reckoned 62 = .ok (.iload_n 2, 1) := by decide +kernel
theorem dX3_reckoned_63 : decode cX3_reckoned 63 = .ok (.imul, 1) := by decide +kernel
theorem dX3_reckoned_64 : decode cX3_reckoned 64 = .ok (.invokestatic 83, 3) := by decide +kernel
theorem dX3_reckoned_67 : decode cX3_reckoned 67 = .ok (.lreturn, 1) := by decide +kernel
theorem dX3_reckoned_68 : decode cX3_reckoned 68 = .ok (.iload_n 1, 1) := by decide +kernel
theorem dX3_reckoned_69 : decode cX3_reckoned 69 = .ok (.iload_n 2, 1) := by decide +kernel
theorem dX3_reckoned_70 : decode cX3_reckoned 70 = .ok (.if_icmp .ne 7, 3) := by decide +kernel
theorem dX3_reckoned_73 : decode cX3_reckoned 73 = .ok (.iconst 1, 1) := by decide +kernel
theorem dX3_reckoned_74 : decode cX3_reckoned 74 = .ok (.goto 4, 3) := by decide +kernel
theorem dX3_reckoned_77 : decode cX3_reckoned 77 = .ok (.iconst 0, 1) := by decide +kernel
theorem dX3_reckoned_78 : decode cX3_reckoned 78 = .ok (.invokestatic 280, 3) := by decide +kernel
theorem dX3_reckoned_81 : decode cX3_reckoned 81 = .ok (.lreturn, 1) := by decide +kernel
theorem dX3_reckoned_82 : decode cX3_reckoned 82 = .ok (.iload_n 1, 1) := by decide +kernel
theorem dX3_reckoned_83 : decode cX3_reckoned 83 = .ok (.iload_n 2, 1) := by decide +kernel
theorem dX3_reckoned_84 : decode cX3_reckoned 84 = .ok (.if_icmp .ge 7, 3) := by decide +kernel
theorem dX3_reckoned_87 : decode cX3_reckoned 87 = .ok (.iconst 1, 1) := by decide +kernel
theorem dX3_reckoned_88 : decode cX3_reckoned 88 = .ok (.goto 4, 3) := by decide +kernel
theorem dX3_reckoned_91 : decode cX3_reckoned 91 = .ok (.iconst 0, 1) := by decide +kernel
theorem dX3_reckoned_92 : decode cX3_reckoned 92 = .ok (.invokestatic 280, 3) := by decide +kernel
theorem dX3_reckoned_95 : decode cX3_reckoned 95 = .ok (.lreturn, 1) := by decide +kernel
theorem dX3_reckoned_96 : decode cX3_reckoned 96 = .ok (.iconst 1, 1) := by decide +kernel
theorem dX3_reckoned_97 : decode cX3_reckoned 97 = .ok (.iload_n 2, 1) := by decide +kernel
theorem dX3_reckoned_98 : decode cX3_reckoned 98 = .ok (.ifCond .ne 7, 3) := by decide +kernel
theorem dX3_reckoned_101 : decode cX3_reckoned 101 = .ok (.iconst 0, 1) := by decide +kernel
theorem dX3_reckoned_102 : decode cX3_reckoned 102 = .ok (.goto 6, 3) := by decide +kernel
theorem dX3_reckoned_105 : decode cX3_reckoned 105 = .ok (.iload_n 1, 1) := by decide +kernel
theorem dX3_reckoned_106 : decode cX3_reckoned 106 = .ok (.iload_n 2, 1) := by decide +kernel
theorem dX3_reckoned_107 : decode cX3_reckoned 107 = .ok (.idiv, 1) := by decide +kernel
theorem dX3_reckoned_108 : decode cX3_reckoned 108 = .ok (.invokestatic 83, 3) := by decide +kernel
theorem dX3_reckoned_111 : decode cX3_reckoned 111 = .ok (.lreturn, 1) := by decide +kernel
theorem dX3_reckoned_112 : decode cX3_reckoned 112 = .ok (.iconst 1, 1) := by decide +kernel
theorem dX3_reckoned_113 : decode cX3_reckoned 113 = .ok (.iload_n 2, 1) := by decide +kernel
theorem dX3_reckoned_114 : decode cX3_reckoned 114 = .ok (.ifCond .ne 7, 3) := by decide +kernel
theorem dX3_reckoned_117 : decode cX3_reckoned 117 = .ok (.iconst 0, 1) := by decide +kernel
theorem dX3_reckoned_118 : decode cX3_reckoned 118 = .ok (.goto 6, 3) := by decide +kernel
theorem dX3_reckoned_121 : decode cX3_reckoned 121 = .ok (.iload_n 1, 1) := by decide +kernel
theorem dX3_reckoned_122 : decode cX3_reckoned 122 = .ok (.iload_n 2, 1) := by decide +kernel
theorem dX3_reckoned_123 : decode cX3_reckoned 123 = .ok (.irem, 1) := by decide +kernel
theorem dX3_reckoned_124 : decode cX3_reckoned 124 = .ok (.invokestatic 83, 3) := by decide +kernel
theorem dX3_reckoned_127 : decode cX3_reckoned 127 = .ok (.lreturn, 1) := by decide +kernel
theorem dX4_init_0 : decode cX4_init 0 = .ok (.aload_n 0, 1) := by decide +kernel
theorem dX4_init_1 : decode cX4_init 1 = .ok (.invokespecial 3, 3) := by decide +kernel
theorem dX4_init_4 : decode cX4_init 4 = .ok (.aload_n 0, 1) := by decide +kernel
theorem dX4_init_5 : decode cX4_init 5 = .ok (.bipush 64, 2) := by decide +kernel
theorem dX4_init_7 : decode cX4_init 7 = .ok (.newarray .long, 2) := by decide +kernel
theorem dX4_init_9 : decode cX4_init 9 = .ok (.putfield 9, 3) := by decide +kernel
theorem dX4_init_12 : decode cX4_init 12 = .ok (.aload_n 0, 1) := by decide +kernel
theorem dX4_init_13 : decode cX4_init 13 = .ok (.bipush 64, 2) := by decide +kernel
theorem dX4_init_15 : decode cX4_init 15 = .ok (.newarray .long, 2) := by decide +kernel
theorem dX4_init_17 : decode cX4_init 17 = .ok (.putfield 15, 3) := by decide +kernel
theorem dX4_init_20 : decode cX4_init 20 = .ok (.aload_n 0, 1) := by decide +kernel
theorem dX4_init_21 : decode cX4_init 21 = .ok (.bipush 64, 2) := by decide +kernel
theorem dX4_init_23 : decode cX4_init 23 = .ok (.newarray .int, 2) := by decide +kernel
theorem dX4_init_25 : decode cX4_init 25 = .ok (.putfield 18, 3) := by decide +kernel
theorem dX4_init_28 : decode cX4_init 28 = .ok (.aload_n 0, 1) := by decide +kernel
theorem dX4_init_29 : decode cX4_init 29 = .ok (.bipush 64, 2) := by decide +kernel
theorem dX4_init_31 : decode cX4_init 31 = .ok (.newarray .int, 2) := by decide +kernel
theorem dX4_init_33 : decode cX4_init 33 = .ok (.putfield 22, 3) := by decide +kernel
theorem dX4_init_36 : decode cX4_init 36 = .ok (.aload_n 0, 1) := by decide +kernel
theorem dX4_init_37 : decode cX4_init 37 = .ok (.sipush 256, 3) := by decide +kernel
theorem dX4_init_40 : decode cX4_init 40 = .ok (.newarray .int, 2) := by decide +kernel
theorem dX4_init_42 : decode cX4_init 42 = .ok (.putfield 25, 3) := by decide +kernel
theorem dX4_init_45 : decode cX4_init 45 = .ok (.return_, 1) := by decide +kernel
theorem dX4_begin_0 : decode cX4_begin 0 = .ok (.bipush 31, 2) := by decide +kernel
theorem dX4_begin_2 : decode cX4_begin 2 = .ok (.iload_n 1, 1) := by decide +kernel
theorem dX4_begin_3 : decode cX4_begin 3 = .ok (.iconst 2, 1) := by decide +kernel
theorem dX4_begin_4 : decode cX4_begin 4 = .ok (.idiv, 1) := by decide +kernel
theorem dX4_begin_5 : decode cX4_begin 5 = .ok (.iadd, 1) := by decide +kernel
theorem dX4_begin_6 : decode cX4_begin 6 = .ok (.iconst 1, 1) := by decide +kernel
theorem dX4_begin_7 : decode cX4_begin 7 = .ok (.iadd, 1) := by decide +kernel
theorem dX4_begin_8 : decode cX4_begin 8 = .ok (.istore_n 2, 1) := by decide +kernel
theorem dX4_begin_9 : decode cX4_begin 9 = .ok (.aload_n 0, 1) := by decide +kernel
theorem dX4_begin_10 : decode cX4_begin 10 = .ok (.aload_n 0, 1) := by decide +kernel
theorem dX4_begin_11 : decode cX4_begin 11 = .ok (.getfield 9, 3) := by decide +kernel
theorem dX4_begin_14 : decode cX4_begin 14 = .ok (.iload_n 2, 1) := by decide +kernel
theorem dX4_begin_15 : decode cX4_begin 15 = .ok (.invokestatic 28, 3) := by decide +kernel
theorem dX4_begin_18 : decode cX4_begin 18 = .ok (.putfield 9, 3) := by decide +kernel
theorem dX4_begin_21 : decode cX4_begin 21 = .ok (.aload_n 0, 1) := by decide +kernel
theorem dX4_begin_22 : decode cX4_begin 22 = .ok (.aload_n 0, 1) := by decide +kernel
theorem dX4_begin_23 : decode cX4_begin 23 = .ok (.getfield 15, 3) := by decide +kernel
theorem dX4_begin_26 : decode cX4_begin 26 = .ok (.iload_n 2, 1) := by decide +kernel
theorem dX4_begin_27 : decode cX4_begin 27 = .ok (.invokestatic 28, 3) := by decide +kernel
theorem dX4_begin_30 : decode cX4_begin 30 = .ok (.putfield 15, 3) := by decide +kernel
theorem dX4_begin_33 : decode cX4_begin 33 = .ok (.aload_n 0, 1) := by decide +kernel
theorem dX4_begin_34 : decode cX4_begin 34 = .ok (.aload_n 0, 1) := by decide +kernel
theorem dX4_begin_35 : decode cX4_begin 35 = .ok (.getfield 18, 3) := by decide +kernel
theorem dX4_begin_38 : decode cX4_begin 38 = .ok (.iload_n 2, 1) := by decide +kernel
theorem dX4_begin_39 : decode cX4_begin 39 = .ok (.invokestatic 34, 3) := by decide +kernel
theorem dX4_begin_42 : decode cX4_begin 42 = .ok (.putfield 18, 3) := by decide +kernel
theorem dX4_begin_45 : decode cX4_begin 45 = .ok (.aload_n 0, 1) := by decide +kernel
theorem dX4_begin_46 : decode cX4_begin 46 = .ok (.aload_n 0, 1) := by decide +kernel
theorem dX4_begin_47 : decode cX4_begin 47 = .ok (.getfield 22, 3) := by decide +kernel
theorem dX4_begin_50 : decode cX4_begin 50 = .ok (.iload_n 2, 1) := by decide +kernel
theorem dX4_begin_51 : decode cX4_begin 51 = .ok (.invokestatic 34, 3) := by decide +kernel
theorem dX4_begin_54 : decode cX4_begin 54 = .ok (.putfield 22, 3) := by decide +kernel
theorem dX4_begin_57 : decode cX4_begin 57 = .ok (.aload_n 0, 1) := by decide +kernel
theorem dX4_begin_58 : decode cX4_begin 58 = .ok (.getfield 25, 3) := by decide +kernel
theorem dX4_begin_61 : decode cX4_begin 61 = .ok (.iconst (-1), 1) := by decide +kernel
theorem dX4_begin_62 : decode cX4_begin 62 = .ok (.invokestatic 37, 3) := by decide +kernel
theorem dX4_begin_65 : decode cX4_begin 65 = .ok (.aload_n 0, 1) := by decide +kernel
theorem dX4_begin_66 : decode cX4_begin 66 = .ok (.iconst 0, 1) := by decide +kernel
theorem dX4_begin_67 : decode cX4_begin 67 = .ok (.putfield 43, 3) := by decide +kernel
theorem dX4_begin_70 : decode cX4_begin 70 = .ok (.aload_n 0, 1) := by decide +kernel
theorem dX4_begin_71 : decode cX4_begin 71 = .ok (.iconst 0, 1) := by decide +kernel
theorem dX4_begin_72 : decode cX4_begin 72 = .ok (.putfield 47, 3) := by decide +kernel
theorem dX4_begin_75 : decode cX4_begin 75 = .ok (.aload_n 0, 1) := by decide +kernel
theorem dX4_begin_76 : decode cX4_begin 76 = .ok (.ldc 50, 2) := by decide +kernel
theorem dX4_begin_78 : decode cX4_begin 78 = .ok (.invokevirtual 52, 3) := by decide +kernel
theorem dX4_begin_81 : decode cX4_begin 81 = .ok (.aload_n 0, 1) := by decide +kernel
theorem dX4_begin_82 : decode cX4_begin 82 = .ok (.ldc 56, 2) := by decide +kernel
theorem dX4_begin_84 : decode cX4_begin 84 = .ok (.invokevirtual 52, 3) := by decide +kernel
theorem dX4_begin_87 : decode cX4_begin 87 = .ok (.aload_n 0, 1) := by decide +kernel
theorem dX4_begin_88 : decode cX4_begin 88 = .ok (.ldc 58, 2) := by decide +kernel
theorem dX4_begin_90 : decode cX4_begin 90 = .ok (.invokevirtual 52, 3) := by decide +kernel
theorem dX4_begin_93 : decode cX4_begin 93 = .ok (.aload_n 0, 1) := by decide +kernel
theorem dX4_begin_94 : decode cX4_begin 94 = .ok (.ldc 60, 2) := by decide +kernel
theorem dX4_begin_96 : decode cX4_begin 96 = .ok (.invokevirtual 52, 3) := by decide +kernel
theorem dX4_begin_99 : decode cX4_begin 99 = .ok (.return_, 1) := by decide +kernel
theorem dX4_takeWords_0 : decode cX4_takeWords 0 = .ok (.aload_n 0, 1) := by decide +kernel
theorem dX4_takeWords_1 : decode cX4_takeWords 1 = .ok (.invokevirtual 62, 3) := by decide +kernel
theorem dX4_takeWords_4 : decode cX4_takeWords 4 = .ok (.iconst 0, 1) := by decide +kernel
theorem dX4_takeWords_5 : decode cX4_takeWords 5 = .ok (.istore_n 2, 1) := by decide +kernel
theorem dX4_takeWords_6 : decode cX4_takeWords 6 = .ok (.iload_n 2, 1) := by decide +kernel
theorem dX4_takeWords_7 : decode cX4_takeWords 7 = .ok (.aload_n 1, 1) := by decide +kernel
theorem dX4_takeWords_8 : decode cX4_takeWords 8 = .ok (.invokevirtual 65, 3) := by decide +kernel
theorem dX4_takeWords_11 : decode cX4_takeWords 11 = .ok (.if_icmp .ge 38, 3) := by decide +kernel
theorem dX4_takeWords_14 : decode cX4_takeWords 14 = .ok (.aload_n 1, 1) := by decide +kernel
theorem dX4_takeWords_15 : decode cX4_takeWords 15 = .ok (.iload_n 2, 1) := by decide +kernel
theorem dX4_takeWords_16 : decode cX4_takeWords 16 = .ok (.invokevirtual 71, 3) := by decide +kernel
theorem dX4_takeWords_19 : decode cX4_takeWords 19 = .ok (.istore_n 3, 1) := by decide +kernel
theorem dX4_takeWords_20 : decode cX4_takeWords 20 = .ok (.iload_n 3, 1) := by decide +kernel
theorem dX4_takeWords_21 : decode cX4_takeWords 21 = .ok (.bipush 32, 2) := by decide +kernel
theorem dX4_takeWords_23 : decode cX4_takeWords 23 = .ok (.if_icmp .ne 15, 3) := by decide +kernel
theorem dX4_takeWords_26 : decode cX4_takeWords 26 = .ok (.aload_n 0, 1) := by decide +kernel
theorem dX4_takeWords_27 : decode cX4_takeWords 27 = .ok (.invokevirtual 75, 3) := by decide +kernel
theorem dX4_takeWords_30 : decode cX4_takeWords 30 = .ok (.pop, 1) := by decide +kernel
theorem dX4_takeWords_31 : decode cX4_takeWords 31 = .ok (.aload_n 0, 1) := by decide +kernel
theorem dX4_takeWords_32 : decode cX4_takeWords 32 = .ok (.invokevirtual 62, 3) := by decide +kernel
theorem dX4_takeWords_35 : decode cX4_takeWords 35 = .ok (.goto 8, 3) := by decide +kernel
theorem dX4_takeWords_38 : decode cX4_takeWords 38 = .ok (.aload_n 0, 1) := by decide +kernel
theorem dX4_takeWords_39 : decode cX4_takeWords 39 = .ok (.iload_n 3, 1) := by decide +kernel
theorem dX4_takeWords_40 : decode cX4_takeWords 40 = .ok (.invokevirtual 78, 3) := by decide +kernel
theorem dX4_takeWords_43 : decode cX4_takeWords 43 = .ok (.iinc 2 1, 3) := by decide +kernel
theorem dX4_takeWords_46 : decode cX4_takeWords 46 = .ok (.goto (-40), 3) := by decide +kernel
theorem dX4_takeWords_49 : decode cX4_takeWords 49 = .ok (.return_, 1) := by decide +kernel
theorem dX4_startName_0 : decode cX4_startName 0 = .ok (.aload_n 0, 1) := by decide +kernel
theorem dX4_startName_1 : decode cX4_startName 1 = .ok (.lconst 0, 1) := by decide +kernel
theorem dX4_startName_2 : decode cX4_startName 2 = .ok (.putfield 82, 3) := by decide +kernel
theorem dX4_startName_5 : decode cX4_startName 5 = .ok (.aload_n 0, 1) := by decide +kernel
theorem dX4_startName_6 : decode cX4_startName 6 = .ok (.lconst 0, 1) := by decide +kernel
theorem dX4_startName_7 : decode cX4_startName 7 = .ok (.putfield 86, 3) := by decide +kernel
theorem dX4_startName_10 : decode cX4_startName 10 = .ok (.aload_n 0, 1) := by decide +kernel
theorem dX4_startName_11 : decode cX4_startName 11 = .ok (.iconst 0, 1) := by decide +kernel
theorem dX4_startName_12 : decode cX4_startName 12 = .ok (.putfield 89, 3) := by decide +kernel
theorem dX4_startName_15 : decode cX4_startName 15 = .ok (.return_, 1) := by decide +kernel
theorem dX4_takeSign_0 : decode cX4_takeSign 0 = .ok (.aload_n 0, 1) := by decide +kernel
theorem dX4_takeSign_1 : decode cX4_takeSign 1 = .ok (.getfield 89, 3) := by decide +kernel
theorem dX4_takeSign_4 : decode cX4_takeSign 4 = .ok (.bipush 6, 2) := by decide +kernel
theorem dX4_takeSign_6 : decode cX4_takeSign 6 = .ok (.if_icmp .ge 20, 3) := by decide +kernel
theorem dX4_takeSign_9 : decode cX4_takeSign 9 = .ok (.aload_n 0, 1) := by decide +kernel
theorem dX4_takeSign_10 : decode cX4_takeSign 10 = .ok (.aload_n 0, 1) := by decide +kernel
theorem dX4_takeSign_11 : decode cX4_takeSign 11 = .ok (.getfield 82, 3) := by decide +kernel
theorem dX4_takeSign_14 : decode cX4_takeSign 14 = .ok (.bipush 8, 2) := by decide +kernel
theorem dX4_takeSign_16 : decode cX4_takeSign 16 = .ok (.lshl, 1) := by decide +kernel
theorem dX4_takeSign_17 : decode cX4_takeSign 17 = .ok (.iload_n 1, 1) := by decide +kernel
theorem dX4_takeSign_18 : decode cX4_takeSign 18 = .ok (.i2l, 1) := by decide +kernel
theorem dX4_takeSign_19 : decode cX4_takeSign 19 = .ok (.lor, 1) := by decide +kernel
theorem dX4_takeSign_20 : decode cX4_takeSign 20 = .ok (.putfield 82, 3) := by decide +kernel
theorem dX4_takeSign_23 : decode cX4_takeSign 23 = .ok (.goto 17, 3) := by decide +kernel
theorem dX4_takeSign_26 : decode cX4_takeSign 26 = .ok (.aload_n 0, 1) := by decide +kernel
theorem dX4_takeSign_27 : decode cX4_takeSign 27 = .ok (.aload_n 0, 1) := by decide +kernel
theorem dX4_takeSign_28 : decode cX4_takeSign 28 = .ok (.getfield 86, 3) := by decide +kernel
theorem dX4_takeSign_31 : decode cX4_takeSign 31 = .ok (.bipush 8, 2) := by decide +kernel
theorem dX4_takeSign_33 : decode cX4_takeSign 33 = .ok (.lshl, 1) := by decide +kernel
theorem dX4_takeSign_34 : decode cX4_takeSign 34 = .ok (.iload_n 1, 1) := by decide +kernel
theorem dX4_takeSign_35 : decode cX4_takeSign 35 = .ok (.i2l, 1) := by decide +kernel
theorem dX4_takeSign_36 : decode cX4_takeSign 36 = .ok (.lor, 1) := by decide +kernel
theorem dX4_takeSign_37 : decode cX4_takeSign 37 = .ok (.putfield 86, 3) := by decide +kernel
theorem dX4_takeSign_40 : decode cX4_takeSign 40 = .ok (.aload_n 0, 1) := by decide +kernel
theorem dX4_takeSign_41 : decode cX4_takeSign 41 = .ok (.dup, 1) := by decide +kernel
theorem dX4_takeSign_42 : decode cX4_takeSign 42 = .ok (.getfield 89, 3) := by decide +kernel
theorem dX4_takeSign_45 : decode cX4_takeSign 45 = .ok (.iconst 1, 1) := by decide +kernel
theorem dX4_takeSign_46 : decode cX4_takeSign 46 = .ok (.iadd, 1) := by decide +kernel
theorem dX4_takeSign_47 : decode cX4_takeSign 47 = .ok (.putfield 89, 3) := by decide +kernel
theorem dX4_takeSign_50 : decode cX4_takeSign 50 = .ok (.return_, 1) := by decide +kernel
theorem dX4_endName_0 : decode cX4_endName 0 = .ok (.aload_n 0, 1) := by decide +kernel
theorem dX4_endName_1 : decode cX4_endName 1 = .ok (.getfield 82, 3) := by decide +kernel
theorem dX4_endName_4 : decode cX4_endName 4 = .ok (.ldc2_w 92, 3) := by decide +kernel
theorem dX4_endName_7 : decode cX4_endName 7 = .ok (.lmul, 1) := by decide +kernel
theorem dX4_endName_8 : decode cX4_endName 8 = .ok (.aload_n 0, 1) := by decide +kernel
theorem dX4_endName_9 : decode cX4_endName 9 = .ok (.getfield 86, 3) := by decide +kernel
theorem dX4_endName_12 : decode cX4_endName 12 = .ok (.ldc2_w 94, 3) := by decide +kernel
theorem dX4_endName_15 : decode cX4_endName 15 = .ok (.lmul, 1) := by decide +kernel
theorem dX4_endName_16 : decode cX4_endName 16 = .ok (.ladd, 1) := by decide +kernel
theorem dX4_endName_17 : decode cX4_endName 17 = .ok (.bipush 56, 2) := by decide +kernel
theorem dX4_endName_19 : decode cX4_endName 19 = .ok (.lushr, 1) := by decide +kernel
theorem dX4_endName_20 : decode cX4_endName 20 = .ok (.l2i, 1) := by decide +kernel
theorem dX4_endName_21 : decode cX4_endName 21 = .ok (.sipush 255, 3) := by decide +kernel
theorem dX4_endName_24 : decode cX4_endName 24 = .ok (.iand, 1) := by decide +kernel
theorem dX4_endName_25 : decode cX4_endName 25 = .ok (.istore_n 1, 1) := by decide +kernel
theorem dX4_endName_26 : decode cX4_endName 26 = .ok (.aload_n 0, 1) := by decide +kernel
theorem dX4_endName_27 : decode cX4_endName 27 = .ok (.getfield 25, 3) := by decide +kernel
theorem dX4_endName_30 : decode cX4_endName 30 = .ok (.iload_n 1, 1) := by decide +kernel
theorem dX4_endName_31 : decode cX4_endName 31 = .ok (.iaload, 1) := by decide +kernel
theorem dX4_endName_32 : decode cX4_endName 32 = .ok (.istore_n 2, 1) := by decide +kernel
theorem dX4_endName_33 : decode cX4_endName 33 = .ok (.iconst 0, 1) := by decide +kernel
theorem dX4_endName_34 : decode cX4_endName 34 = .ok (.istore_n 3, 1) := by decide +kernel
theorem dX4_endName_35 : decode cX4_endName 35 = .ok (.iload_n 3, 1) := by decide +kernel
theorem dX4_endName_36 : decode cX4_endName 36 = .ok (.aload_n 0, 1) := by decide +kernel
theorem dX4_endName_37 : decode cX4_endName 37 = .ok (.getfield 43, 3) := by decide +kernel
theorem dX4_endName_40 : decode cX4_endName 40 = .ok (.if_icmp .ge 58, 3) := by decide +kernel
theorem dX4_endName_43 : decode cX4_endName 43 = .ok (.iload_n 2, 1) := by decide +kernel
theorem dX4_endName_44 : decode cX4_endName 44 = .ok (.ifCond .lt 54, 3) := by decide +kernel
theorem dX4_endName_47 : decode cX4_endName 47 = .ok (.iload_n 2, 1) := by decide +kernel
theorem dX4_endName_48 : decode cX4_endName 48 = .ok (.aload_n 0, 1) := by decide +kernel
theorem dX4_endName_49 : decode cX4_endName 49 = .ok (.getfield 43, 3) := by decide +kernel
theorem dX4_endName_52 : decode cX4_endName 52 = .ok (.if_icmp .ge 46, 3) := by decide +kernel
theorem dX4_endName_55 : decode cX4_endName 55 = .ok (.aload_n 0, 1) := by decide +kernel
theorem dX4_endName_56 : decode cX4_endName 56 = .ok (.getfield 9, 3) := by decide +kernel
theorem dX4_endName_59 : decode cX4_endName 59 = .ok (.iload_n 2, 1) := by decide +kernel
theorem dX4_endName_60 : decode cX4_endName 60 = .ok (.laload, 1) := by decide +kernel
theorem dX4_endName_61 : decode cX4_endName 61 = .ok (.aload_n 0, 1) := by decide +kernel
theorem dX4_endName_62 : decode cX4_endName 62 = .ok (.getfield 82, 3) := by decide +kernel
theorem dX4_endName_65 : decode cX4_endName 65 = .ok (.lcmp, 1) := by decide +kernel
theorem dX4_endName_66 : decode cX4_endName 66 = .ok (.ifCond .ne 19, 3) := by decide +kernel
theorem dX4_endName_69 : decode cX4_endName 69 = .ok (.aload_n 0, 1) := by decide +kernel
theorem dX4_endName_70 : decode cX4_endName 70 = .ok (.getfield 15, 3) := by decide +kernel
theorem dX4_endName_73 : decode cX4_endName 73 = .ok (.iload_n 2, 1) := by decide +kernel
theorem dX4_endName_74 : decode cX4_endName 74 = .ok (.laload, 1) := by decide +kernel
theorem dX4_endName_75 : decode cX4_endName 75 = .ok (.aload_n 0, 1) := by decide +kernel
theorem dX4_endName_76 : decode cX4_endName 76 = .ok (.getfield 86, 3) := by decide +kernel
theorem dX4_endName_79 : decode cX4_endName 79 = .ok (.lcmp, 1) := by decide +kernel
theorem dX4_endName_80 : decode cX4_endName 80 = .ok (.ifCond .ne 5, 3) := by decide +kernel
theorem dX4_endName_83 : decode cX4_endName 83 = .ok (.iload_n 2, 1) := by decide +kernel
theorem dX4_endName_84 : decode cX4_endName 84 = .ok (.ireturn, 1) := by decide +kernel
theorem dX4_endName_85 : decode cX4_endName 85 = .ok (.aload_n 0, 1) := by decide +kernel
theorem dX4_endName_86 : decode cX4_endName 86 = .ok (.getfield 18, 3) := by decide +kernel
theorem dX4_endName_89 : decode cX4_endName 89 = .ok (.iload_n 2, 1) := by decide +kernel
theorem dX4_endName_90 : decode cX4_endName 90 = .ok (.iaload, 1) := by decide +kernel
theorem dX4_endName_91 : decode cX4_endName 91 = .ok (.istore_n 2, 1) := by decide +kernel
theorem dX4_endName_92 : decode cX4_endName 92 = .ok (.iinc 3 1, 3) := by decide +kernel
theorem dX4_endName_95 : decode cX4_endName 95 = .ok (.goto (-60), 3) := by decide +kernel
theorem dX4_endName_98 : decode cX4_endName 98 = .ok (.aload_n 0, 1) := by decide +kernel
theorem dX4_endName_99 : decode cX4_endName 99 = .ok (.iload_n 1, 1) := by decide +kernel
theorem dX4_endName_100 : decode cX4_endName 100 = .ok (.invokevirtual 96, 3) := by decide +kernel
theorem dX4_endName_103 : decode cX4_endName 103 = .ok (.ireturn, 1) := by decide +kernel
theorem dX4_added_0 : decode cX4_added 0 = .ok (.aload_n 0, 1) := by decide +kernel
theorem dX4_added_1 : decode cX4_added 1 = .ok (.getfield 43, 3) := by decide +kernel
theorem dX4_added_4 : decode cX4_added 4 = .ok (.aload_n 0, 1) := by decide +kernel
theorem dX4_added_5 : decode cX4_added 5 = .ok (.getfield 9, 3) := by decide +kernel
theorem dX4_added_8 : decode cX4_added 8 = .ok (.arraylength, 1) := by decide +kernel
theorem dX4_added_9 : decode cX4_added 9 = .ok (.if_icmp .ge 14, 3) := by decide +kernel
theorem dX4_added_12 : decode cX4_added 12 = .ok (.iload_n 1, 1) := by decide +kernel
theorem dX4_added_13 : decode cX4_added 13 = .ok (.ifCond .lt 10, 3) := by decide +kernel
theorem dX4_added_16 : decode cX4_added 16 = .ok (.iload_n 1, 1) := by decide +kernel
theorem dX4_added_17 : decode cX4_added 17 = .ok (.sipush 256, 3) := by decide +kernel
theorem dX4_added_20 : decode cX4_added 20 = .ok (.if_icmp .lt 5, 3) := by decide +kernel
theorem dX4_added_23 : decode cX4_added 23 = .ok (.iconst (-1), 1) := by decide +kernel
theorem dX4_added_24 : decode cX4_added 24 = .ok (.ireturn, 1) := by decide +kernel
theorem dX4_added_25 : decode cX4_added 25 = .ok (.aload_n 0, 1) := by decide +kernel
theorem dX4_added_26 : decode cX4_added 26 = .ok (.getfield 9, 3) := by decide +kernel
theorem dX4_added_29 : decode cX4_added 29 = .ok (.aload_n 0, 1) := by decide +kernel
theorem dX4_added_30 : decode cX4_added 30 = .ok (.getfield 43, 3) := by decide +kernel
theorem dX4_added_33 : decode cX4_added 33 = .ok (.aload_n 0, 1) := by decide +kernel
theorem dX4_added_34 : decode cX4_added 34 = .ok (.getfield 82, 3) := by decide +kernel
theorem dX4_added_37 : decode cX4_added 37 = .ok (.lastore, 1) := by decide +kernel
theorem dX4_added_38 : decode cX4_added 38 = .ok (.aload_n 0, 1) := by decide +kernel
theorem dX4_added_39 : decode cX4_added 39 = .ok (.getfield 15, 3) := by decide +kernel
theorem dX4_added_42 : decode cX4_added 42 = .ok (.aload_n 0, 1) := by decide +kernel
theorem dX4_added_43 : decode cX4_added 43 = .ok (.getfield 43, 3) := by decide +kernel
theorem dX4_added_46 : decode cX4_added 46 = .ok (.aload_n 0, 1) := by decide +kernel
theorem dX4_added_47 : decode cX4_added 47 = .ok (.getfield 86, 3) := by decide +kernel
theorem dX4_added_50 : decode cX4_added 50 = .ok (.lastore, 1) := by decide +kernel
theorem dX4_added_51 : decode cX4_added 51 = .ok (.aload_n 0, 1) := by decide +kernel
theorem dX4_added_52 : decode cX4_added 52 = .ok (.getfield 18, 3) := by decide +kernel
theorem dX4_added_55 : decode cX4_added 55 = .ok (.aload_n 0, 1) := by decide +kernel
theorem dX4_added_56 : decode cX4_added 56 = .ok (.getfield 43, 3) := by decide +kernel
theorem dX4_added_59 : decode cX4_added 59 = .ok (.aload_n 0, 1) := by decide +kernel
theorem dX4_added_60 : decode cX4_added 60 = .ok (.getfield 25, 3) := by decide +kernel
theorem dX4_added_63 : decode cX4_added 63 = .ok (.iload_n 1, 1) := by decide +kernel
theorem dX4_added_64 : decode cX4_added 64 = .ok (.iaload, 1) := by decide +kernel
theorem dX4_added_65 : decode cX4_added 65 = .ok (.iastore, 1) := by decide +kernel
theorem dX4_added_66 : decode cX4_added 66 = .ok (.aload_n 0, 1) := by decide +kernel
theorem dX4_added_67 : decode cX4_added 67 = .ok (.getfield 22, 3) := by decide +kernel
theorem dX4_added_70 : decode cX4_added 70 = .ok (.aload_n 0, 1) := by decide +kernel
theorem dX4_added_71 : decode cX4_added 71 = .ok (.getfield 43, 3) := by decide +kernel
theorem dX4_added_74 : decode cX4_added 74 = .ok (.iconst (-1), 1) := by decide +kernel
theorem dX4_added_75 : decode cX4_added 75 = .ok (.iastore, 1) := by decide +kernel
theorem dX4_added_76 : decode cX4_added 76 = .ok (.aload_n 0, 1) := by decide +kernel
theorem dX4_added_77 : decode cX4_added 77 = .ok (.getfield 25, 3) := by decide +kernel
theorem dX4_added_80 : decode cX4_added 80 = .ok (.iload_n 1, 1) := by decide +kernel
theorem dX4_added_81 : decode cX4_added 81 = .ok (.aload_n 0, 1) := by decide +kernel
theorem dX4_added_82 : decode cX4_added 82 = .ok (.getfield 43, 3) := by decide +kernel
theorem dX4_added_85 : decode cX4_added 85 = .ok (.iastore, 1) := by decide +kernel
theorem dX4_added_86 : decode cX4_added 86 = .ok (.aload_n 0, 1) := by decide +kernel
theorem dX4_added_87 : decode cX4_added 87 = .ok (.dup, 1) := by decide +kernel
theorem dX4_added_88 : decode cX4_added 88 = .ok (.getfield 43, 3) := by decide +kernel
theorem dX4_added_91 : decode cX4_added 91 = .ok (.iconst 1, 1) := by decide +kernel
theorem dX4_added_92 : decode cX4_added 92 = .ok (.iadd, 1) := by decide +kernel
theorem dX4_added_93 : decode cX4_added 93 = .ok (.putfield 43, 3) := by decide +kernel
theorem dX4_added_96 : decode cX4_added 96 = .ok (.aload_n 0, 1) := by decide +kernel
theorem dX4_added_97 : decode cX4_added 97 = .ok (.getfield 43, 3) := by decide +kernel
theorem dX4_added_100 : decode cX4_added 100 = .ok (.iconst 1, 1) := by decide +kernel
theorem dX4_added_101 : decode cX4_added 101 = .ok (.isub, 1) := by decide +kernel
theorem dX4_added_102 : decode cX4_added 102 = .ok (.ireturn, 1) := by decide +kernel
theorem dX4_meet_0 : decode cX4_meet 0 = .ok (.iload_n 1, 1) := by decide +kernel
theorem dX4_meet_1 : decode cX4_meet 1 = .ok (.ifCond .lt 41, 3) := by decide +kernel
theorem dX4_meet_4 : decode cX4_meet 4 = .ok (.iload_n 1, 1) := by decide +kernel
theorem dX4_meet_5 : decode cX4_meet 5 = .ok (.aload_n 0, 1) := by decide +kernel
theorem dX4_meet_6 : decode cX4_meet 6 = .ok (.getfield 43, 3) := by decide +kernel
theorem dX4_meet_9 : decode cX4_meet 9 = .ok (.if_icmp .ge 33, 3) := by decide +kernel
theorem dX4_meet_12 : decode cX4_meet 12 = .ok (.aload_n 0, 1) := by decide +kernel
theorem dX4_meet_13 : decode cX4_meet 13 = .ok (.getfield 22, 3) := by decide +kernel
theorem dX4_meet_16 : decode cX4_meet 16 = .ok (.iload_n 1, 1) := by decide +kernel
theorem dX4_meet_17 : decode cX4_meet 17 = .ok (.iaload, 1) := by decide +kernel
theorem dX4_meet_18 : decode cX4_meet 18 = .ok (.iconst (-1), 1) := by decide +kernel
theorem dX4_meet_19 : decode cX4_meet 19 = .ok (.if_icmp .ne 23, 3) := by decide +kernel
theorem dX4_meet_22 : decode cX4_meet 22 = .ok (.aload_n 0, 1) := by decide +kernel
theorem dX4_meet_23 : decode cX4_meet 23 = .ok (.getfield 22, 3) := by decide +kernel
theorem dX4_meet_26 : decode cX4_meet 26 = .ok (.iload_n 1, 1) := by decide +kernel
theorem dX4_meet_27 : decode cX4_meet 27 = .ok (.aload_n 0, 1) := by decide +kernel
theorem dX4_meet_28 : decode cX4_meet 28 = .ok (.getfield 47, 3) := by decide +kernel
theorem dX4_meet_31 : decode cX4_meet 31 = .ok (.iastore, 1) := by decide +kernel
theorem dX4_meet_32 : decode cX4_meet 32 = .ok (.aload_n 0, 1) := by decide +kernel
theorem dX4_meet_33 : decode cX4_meet 33 = .ok (.dup, 1) := by decide +kernel
theorem dX4_meet_34 : decode cX4_meet 34 = .ok (.getfield 47, 3) := by decide +kernel
theorem dX4_meet_37 : decode cX4_meet 37 = .ok (.iconst 1, 1) := by decide +kernel
theorem dX4_meet_38 : decode cX4_meet 38 = .ok (.iadd, 1) := by decide +kernel
theorem dX4_meet_39 : decode cX4_meet 39 = .ok (.putfield 47, 3) := by decide +kernel
theorem dX4_meet_42 : decode cX4_meet 42 = .ok (.return_, 1) := by decide +kernel
theorem dX4_numberOf_0 : decode cX4_numberOf 0 = .ok (.iload_n 1, 1) := by decide +kernel
theorem dX4_numberOf_1 : decode cX4_numberOf 1 = .ok (.ifCond .lt 20, 3) := by decide +kernel
theorem dX4_numberOf_4 : decode cX4_numberOf 4 = .ok (.iload_n 1, 1) := by decide +kernel
theorem dX4_numberOf_5 : decode cX4_numberOf 5 = .ok (.aload_n 0, 1) := by decide +kernel
theorem dX4_numberOf_6 : decode cX4_numberOf 6 = .ok (.getfield 43, 3) := by decide +kernel
theorem dX4_numberOf_9 : decode cX4_numberOf 9 = .ok (.if_icmp .ge 12, 3) := by decide +kernel
theorem dX4_numberOf_12 : decode cX4_numberOf 12 = .ok (.aload_n 0, 1) := by decide +kernel
theorem dX4_numberOf_13 : decode cX4_numberOf 13 = .ok (.getfield 22, 3) := by decide +kernel
theorem dX4_numberOf_16 : decode cX4_numberOf 16 = .ok (.iload_n 1, 1) := by decide +kernel
theorem dX4_numberOf_17 : decode cX4_numberOf 17 = .ok (.iaload, 1) := by decide +kernel
theorem dX4_numberOf_18 : decode cX4_numberOf 18 = .ok (.goto 4, 3) := by decide +kernel
theorem dX4_numberOf_21 : decode cX4_numberOf 21 = .ok (.iconst 0, 1) := by decide +kernel
theorem dX4_numberOf_22 : decode cX4_numberOf 22 = .ok (.ireturn, 1) := by decide +kernel
theorem dX4_known_0 : decode cX4_known 0 = .ok (.aload_n 0, 1) := by decide +kernel
theorem dX4_known_1 : decode cX4_known 1 = .ok (.getfield 43, 3) := by decide +kernel
theorem dX4_known_4 : decode cX4_known 4 = .ok (.ireturn, 1) := by decide +kernel
theorem dX5_init_0 : decode cX5_init 0 = .ok (.aload_n 0, 1) := by decide +kernel
theorem dX5_init_1 : decode cX5_init 1 = .ok (.invokespecial 3, 3) := by decide +kernel
theorem dX5_init_4 : decode cX5_init 4 = .ok (.aload_n 0, 1) := by decide +kernel
theorem dX5_init_5 : decode cX5_init 5 = .ok (.sipush 200, 3) := by decide +kernel
theorem dX5_init_8 : decode cX5_init 8 = .ok (.newarray .int, 2) := by decide +kernel
theorem dX5_init_10 : decode cX5_init 10 = .ok (.putfield 9, 3) := by decide +kernel
theorem dX5_init_13 : decode cX5_init 13 = .ok (.aload_n 0, 1) := by decide +kernel
theorem dX5_init_14 : decode cX5_init 14 = .ok (.bipush 16, 2) := by decide +kernel
theorem dX5_init_16 : decode cX5_init 16 = .ok (.newarray .int, 2) := by decide +kernel
theorem dX5_init_18 : decode cX5_init 18 = .ok (.putfield 15, 3) := by decide +kernel
theorem dX5_init_21 : decode cX5_init 21 = .ok (.return_, 1) := by decide +kernel
theorem dX5_forgetAll_0 : decode cX5_forgetAll 0 = .ok (.aload_n 0, 1) := by decide +kernel
theorem dX5_forgetAll_1 : decode cX5_forgetAll 1 = .ok (.iconst 0, 1) := by decide +kernel
theorem dX5_forgetAll_2 : decode cX5_forgetAll 2 = .ok (.putfield 18, 3) := by decide +kernel
theorem dX5_forgetAll_5 : decode cX5_forgetAll 5 = .ok (.aload_n 0, 1) := by decide +kernel
theorem dX5_forgetAll_6 : decode cX5_forgetAll 6 = .ok (.iconst 0, 1) := by decide +kernel
theorem dX5_forgetAll_7 : decode cX5_forgetAll 7 = .ok (.putfield 22, 3) := by decide +kernel
theorem dX5_forgetAll_10 : decode cX5_forgetAll 10 = .ok (.aload_n 0, 1) := by decide +kernel
theorem dX5_forgetAll_11 : decode cX5_forgetAll 11 = .ok (.iconst 0, 1) := by decide +kernel
theorem dX5_forgetAll_12 : decode cX5_forgetAll 12 = .ok (.putfield 25, 3) := by decide +kernel
theorem dX5_forgetAll_15 : decode cX5_forgetAll 15 = .ok (.return_, 1) := by decide +kernel
theorem dX5_take_0 : decode cX5_take 0 = .ok (.aload_n 0, 1) := by decide +kernel
theorem dX5_take_1 : decode cX5_take 1 = .ok (.getfield 22, 3) := by decide +kernel
theorem dX5_take_4 : decode cX5_take 4 = .ok (.sipush 200, 3) := by decide +kernel
theorem dX5_take_7 : decode cX5_take 7 = .ok (.if_icmp .lt 5, 3) := by decide +kernel
theorem dX5_take_10 : decode cX5_take 10 = .ok (.iconst (-1), 1) := by decide +kernel
theorem dX5_take_11 : decode cX5_take 11 = .ok (.ireturn, 1) := by decide +kernel
theorem dX5_take_12 : decode cX5_take 12 = .ok (.aload_n 0, 1) := by decide +kernel
theorem dX5_take_13 : decode cX5_take 13 = .ok (.getfield 9, 3) := by decide +kernel
theorem dX5_take_16 : decode cX5_take 16 = .ok (.aload_n 0, 1) := by decide +kernel
theorem dX5_take_17 : decode cX5_take 17 = .ok (.getfield 18, 3) := by decide +kernel
theorem dX5_take_20 : decode cX5_take 20 = .ok (.aload_n 0, 1) := by decide +kernel
theorem dX5_take_21 : decode cX5_take 21 = .ok (.getfield 22, 3) := by decide +kernel
theorem dX5_take_24 : decode cX5_take 24 = .ok (.iadd, 1) := by decide +kernel
theorem dX5_take_25 : decode cX5_take 25 = .ok (.sipush 200, 3) := by decide +kernel
theorem dX5_take_28 : decode cX5_take 28 = .ok (.invokestatic 28, 3) := by decide +kernel
theorem dX5_take_31 : decode cX5_take 31 = .ok (.iload_n 1, 1) := by decide +kernel
theorem dX5_take_32 : decode cX5_take 32 = .ok (.iastore, 1) := by decide +kernel
theorem dX5_take_33 : decode cX5_take 33 = .ok (.aload_n 0, 1) := by decide +kernel
theorem dX5_take_34 : decode cX5_take 34 = .ok (.dup, 1) := by decide +kernel
theorem dX5_take_35 : decode cX5_take 35 = .ok (.getfield 22, 3) := by decide +kernel
theorem dX5_take_38 : decode cX5_take 38 = .ok (.iconst 1, 1) := by decide +kernel
theorem dX5_take_39 : decode cX5_take 39 = .ok (.iadd, 1) := by decide +kernel
theorem dX5_take_40 : decode cX5_take 40 = .ok (.putfield 22, 3) := by decide +kernel
theorem dX5_take_43 : decode cX5_take 43 = .ok (.aload_n 0, 1) := by decide +kernel
theorem dX5_take_44 : decode cX5_take 44 = .ok (.getfield 22, 3) := by decide +kernel
theorem dX5_take_47 : decode cX5_take 47 = .ok (.ireturn, 1) := by decide +kernel
theorem dX5_nextInput_0 : decode cX5_nextInput 0 = .ok (.aload_n 0, 1) := by decide +kernel
theorem dX5_nextInput_1 : decode cX5_nextInput 1 = .ok (.getfield 22, 3) := by decide +kernel
theorem dX5_nextInput_4 : decode cX5_nextInput 4 = .ok (.ifCond .ne 5, 3) := by decide +kernel
theorem dX5_nextInput_7 : decode cX5_nextInput 7 = .ok (.iconst 0, 1) := by decide +kernel
theorem dX5_nextInput_8 : decode cX5_nextInput 8 = .ok (.ireturn, 1) := by decide +kernel
theorem dX5_nextInput_9 : decode cX5_nextInput 9 = .ok (.aload_n 0, 1) := by decide +kernel
theorem dX5_nextInput_10 : decode cX5_nextInput 10 = .ok (.getfield 9, 3) := by decide +kernel
theorem dX5_nextInput_13 : decode cX5_nextInput 13 = .ok (.aload_n 0, 1) := by decide +kernel
theorem dX5_nextInput_14 : decode cX5_nextInput 14 = .ok (.getfield 18, 3) := by decide +kernel
theorem dX5_nextInput_17 : decode cX5_nextInput 17 = .ok (.sipush 200, 3) := by decide +kernel
theorem dX5_nextInput_20 : decode cX5_nextInput 20 = .ok (.invokestatic 28, 3) := by decide +kernel
theorem dX5_nextInput_23 : decode cX5_nextInput 23 = .ok (.iaload, 1) := by decide +kernel
theorem dX5_nextInput_24 : decode cX5_nextInput 24 = .ok (.istore_n 1, 1) := by decide +kernel
theorem dX5_nextInput_25 : decode cX5_nextInput 25 = .ok (.aload_n 0, 1) := by decide +kernel
theorem dX5_nextInput_26 : decode cX5_nextInput 26 = .ok (.aload_n 0, 1) := by decide +kernel
theorem dX5_nextInput_27 : decode cX5_nextInput 27 = .ok (.getfield 18, 3) := by decide +kernel
theorem dX5_nextInput_30 : decode cX5_nextInput 30 = .ok (.iconst 1, 1) := by decide +kernel
theorem dX5_nextInput_31 : decode cX5_nextInput 31 = .ok (.iadd, 1) := by decide +kernel
theorem dX5_nextInput_32 : decode cX5_nextInput 32 = .ok (.sipush 200, 3) := by decide +kernel
theorem dX5_nextInput_35 : decode cX5_nextInput 35 = .ok (.invokestatic 28, 3) := by decide +kernel
theorem dX5_nextInput_38 : decode cX5_nextInput 38 = .ok (.putfield 18, 3) := by decide +kernel
theorem dX5_nextInput_41 : decode cX5_nextInput 41 = .ok (.aload_n 0, 1) := by decide +kernel
theorem dX5_nextInput_42 : decode cX5_nextInput 42 = .ok (.dup, 1) := by decide +kernel
theorem dX5_nextInput_43 : decode cX5_nextInput 43 = .ok (.getfield 22, 3) := by decide +kernel
theorem dX5_nextInput_46 : decode cX5_nextInput 46 = .ok (.iconst 1, 1) := by decide +kernel
theorem dX5_nextInput_47 : decode cX5_nextInput 47 = .ok (.isub, 1) := by decide +kernel
theorem dX5_nextInput_48 : decode cX5_nextInput 48 = .ok (.putfield 22, 3) := by decide +kernel
theorem dX5_nextInput_51 : decode cX5_nextInput 51 = .ok (.iload_n 1, 1) := by decide +kernel
theorem dX5_nextInput_52 : decode cX5_nextInput 52 = .ok (.ireturn, 1) := by decide +kernel
theorem dX5_give_0 : decode cX5_give 0 = .ok (.aload_n 0, 1) := by decide +kernel
theorem dX5_give_1 : decode cX5_give 1 = .ok (.getfield 25, 3) := by decide +kernel
theorem dX5_give_4 : decode cX5_give 4 = .ok (.sipush 1000, 3) := by decide +kernel
theorem dX5_give_7 : decode cX5_give 7 = .ok (.if_icmp .ge 40, 3) := by decide +kernel
theorem dX5_give_10 : decode cX5_give 10 = .ok (.aload_n 0, 1) := by decide +kernel
theorem dX5_give_11 : decode cX5_give 11 = .ok (.aload_n 0, 1) := by decide +kernel
theorem dX5_give_12 : decode cX5_give 12 = .ok (.getfield 15, 3) := by decide +kernel
theorem dX5_give_15 : decode cX5_give 15 = .ok (.aload_n 0, 1) := by decide +kernel
theorem dX5_give_16 : decode cX5_give 16 = .ok (.getfield 25, 3) := by decide +kernel
theorem dX5_give_19 : decode cX5_give 19 = .ok (.iconst 1, 1) := by decide +kernel
theorem dX5_give_20 : decode cX5_give 20 = .ok (.iadd, 1) := by decide +kernel
theorem dX5_give_21 : decode cX5_give 21 = .ok (.invokestatic 34, 3) := by decide +kernel
theorem dX5_give_24 : decode cX5_give 24 = .ok (.putfield 15, 3) := by decide +kernel
theorem dX5_give_27 : decode cX5_give 27 = .ok (.aload_n 0, 1) := by decide +kernel
theorem dX5_give_28 : decode cX5_give 28 = .ok (.getfield 15, 3) := by decide +kernel
theorem dX5_give_31 : decode cX5_give 31 = .ok (.aload_n 0, 1) := by decide +kernel
theorem dX5_give_32 : decode cX5_give 32 = .ok (.getfield 25, 3) := by decide +kernel
theorem dX5_give_35 : decode cX5_give 35 = .ok (.iload_n 1, 1) := by decide +kernel
theorem dX5_give_36 : decode cX5_give 36 = .ok (.iastore, 1) := by decide +kernel
theorem dX5_give_37 : decode cX5_give 37 = .ok (.aload_n 0, 1) := by decide +kernel
theorem dX5_give_38 : decode cX5_give 38 = .ok (.dup, 1) := by decide +kernel
theorem dX5_give_39 : decode cX5_give 39 = .ok (.getfield 25, 3) := by decide +kernel
theorem dX5_give_42 : decode cX5_give 42 = .ok (.iconst 1, 1) := by decide +kernel
theorem dX5_give_43 : decode cX5_give 43 = .ok (.iadd, 1) := by decide +kernel
theorem dX5_give_44 : decode cX5_give 44 = .ok (.putfield 25, 3) := by decide +kernel
theorem dX5_give_47 : decode cX5_give 47 = .ok (.return_, 1) := by decide +kernel
theorem dX5_outputAt_0 : decode cX5_outputAt 0 = .ok (.iload_n 1, 1) := by decide +kernel
theorem dX5_outputAt_1 : decode cX5_outputAt 1 = .ok (.ifCond .lt 20, 3) := by decide +kernel
theorem dX5_outputAt_4 : decode cX5_outputAt 4 = .ok (.iload_n 1, 1) := by decide +kernel
theorem dX5_outputAt_5 : decode cX5_outputAt 5 = .ok (.aload_n 0, 1) := by decide +kernel
theorem dX5_outputAt_6 : decode cX5_outputAt 6 = .ok (.getfield 25, 3) := by decide +kernel
theorem dX5_outputAt_9 : decode cX5_outputAt 9 = .ok (.if_icmp .ge 12, 3) := by decide +kernel
theorem dX5_outputAt_12 : decode cX5_outputAt 12 = .ok (.aload_n 0, 1) := by decide +kernel
theorem dX5_outputAt_13 : decode cX5_outputAt 13 = .ok (.getfield 15, 3) := by decide +kernel
theorem dX5_outputAt_16 : decode cX5_outputAt 16 = .ok (.iload_n 1, 1) := by decide +kernel
theorem dX5_outputAt_17 : decode cX5_outputAt 17 = .ok (.iaload, 1) := by decide +kernel
theorem dX5_outputAt_18 : decode cX5_outputAt 18 = .ok (.goto 4, 3) := by decide +kernel
theorem dX5_outputAt_21 : decode cX5_outputAt 21 = .ok (.iconst 0, 1) := by decide +kernel
theorem dX5_outputAt_22 : decode cX5_outputAt 22 = .ok (.ireturn, 1) := by decide +kernel
theorem dX5_dropOutputs_0 : decode cX5_dropOutputs 0 = .ok (.aload_n 0, 1) := by decide +kernel
theorem dX5_dropOutputs_1 : decode cX5_dropOutputs 1 = .ok (.getfield 25, 3) := by decide +kernel
theorem dX5_dropOutputs_4 : decode cX5_dropOutputs 4 = .ok (.istore_n 1, 1) := by decide +kernel
theorem dX5_dropOutputs_5 : decode cX5_dropOutputs 5 = .ok (.aload_n 0, 1) := by decide +kernel
theorem dX5_dropOutputs_6 : decode cX5_dropOutputs 6 = .ok (.iconst 0, 1) := by decide +kernel
theorem dX5_dropOutputs_7 : decode cX5_dropOutputs 7 = .ok (.putfield 25, 3) := by decide +kernel
theorem dX5_dropOutputs_10 : decode cX5_dropOutputs 10 = .ok (.iload_n 1, 1) := by decide +kernel
theorem dX5_dropOutputs_11 : decode cX5_dropOutputs 11 = .ok (.ireturn, 1) := by decide +kernel
theorem dX6_init_0 : decode cX6_init 0 = .ok (.aload_n 0, 1) := by decide +kernel
theorem dX6_init_1 : decode cX6_init 1 = .ok (.invokespecial 3, 3) := by decide +kernel
theorem dX6_init_4 : decode cX6_init 4 = .ok (.aload_n 0, 1) := by decide +kernel
theorem dX6_init_5 : decode cX6_init 5 = .ok (.bipush 64, 2) := by decide +kernel
theorem dX6_init_7 : decode cX6_init 7 = .ok (.newarray .int, 2) := by decide +kernel
theorem dX6_init_9 : decode cX6_init 9 = .ok (.putfield 9, 3) := by decide +kernel
theorem dX6_init_12 : decode cX6_init 12 = .ok (.aload_n 0, 1) := by decide +kernel
theorem dX6_init_13 : decode cX6_init 13 = .ok (.bipush 64, 2) := by decide +kernel
theorem dX6_init_15 : decode cX6_init 15 = .ok (.newarray .int, 2) := by decide +kernel
theorem dX6_init_17 : decode cX6_init 17 = .ok (.putfield 15, 3) := by decide +kernel
theorem dX6_init_20 : decode cX6_init 20 = .ok (.aload_n 0, 1) := by decide +kernel
theorem dX6_init_21 : decode cX6_init 21 = .ok (.bipush 16, 2) := by decide +kernel
theorem dX6_init_23 : decode cX6_init 23 = .ok (.newarray .long, 2) := by decide +kernel
theorem dX6_init_25 : decode cX6_init 25 = .ok (.putfield 18, 3) := by decide +kernel
theorem dX6_init_28 : decode cX6_init 28 = .ok (.aload_n 0, 1) := by decide +kernel
theorem dX6_init_29 : decode cX6_init 29 = .ok (.bipush 120, 2) := by decide +kernel
theorem dX6_init_31 : decode cX6_init 31 = .ok (.newarray .int, 2) := by decide +kernel
theorem dX6_init_33 : decode cX6_init 33 = .ok (.putfield 22, 3) := by decide +kernel
theorem dX6_init_36 : decode cX6_init 36 = .ok (.aload_n 0, 1) := by decide +kernel
theorem dX6_init_37 : decode cX6_init 37 = .ok (.bipush 120, 2) := by decide +kernel
theorem dX6_init_39 : decode cX6_init 39 = .ok (.newarray .int, 2) := by decide +kernel
theorem dX6_init_41 : decode cX6_init 41 = .ok (.putfield 25, 3) := by decide +kernel
theorem dX6_init_44 : decode cX6_init 44 = .ok (.aload_n 0, 1) := by decide +kernel
theorem dX6_init_45 : decode cX6_init 45 = .ok (.bipush 120, 2) := by decide +kernel
theorem dX6_init_47 : decode cX6_init 47 = .ok (.newarray .int, 2) := by decide +kernel
theorem dX6_init_49 : decode cX6_init 49 = .ok (.putfield 28, 3) := by decide +kernel
theorem dX6_init_52 : decode cX6_init 52 = .ok (.aload_n 0, 1) := by decide +kernel
theorem dX6_init_53 : decode cX6_init 53 = .ok (.bipush 120, 2) := by decide +kernel
theorem dX6_init_55 : decode cX6_init 55 = .ok (.newarray .int, 2) := by decide +kernel
theorem dX6_init_57 : decode cX6_init 57 = .ok (.putfield 31, 3) := by decide +kernel
theorem dX6_init_60 : decode cX6_init 60 = .ok (.aload_n 0, 1) := by decide +kernel
theorem dX6_init_61 : decode cX6_init 61 = .ok (.bipush 120, 2) := by decide +kernel
theorem dX6_init_63 : decode cX6_init 63 = .ok (.newarray .int, 2) := by decide +kernel
theorem dX6_init_65 : decode cX6_init 65 = .ok (.putfield 34, 3) := by decide +kernel
theorem dX6_init_68 : decode cX6_init 68 = .ok (.aload_n 0, 1) := by decide +kernel
theorem dX6_init_69 : decode cX6_init 69 = .ok (.bipush 16, 2) := by decide +kernel
theorem dX6_init_71 : decode cX6_init 71 = .ok (.newarray .int, 2) := by decide +kernel
theorem dX6_init_73 : decode cX6_init 73 = .ok (.putfield 37, 3) := by decide +kernel
theorem dX6_init_76 : decode cX6_init 76 = .ok (.return_, 1) := by decide +kernel
theorem dX6_begin_0 : decode cX6_begin 0 = .ok (.iconst 5, 1) := by decide +kernel
theorem dX6_begin_1 : decode cX6_begin 1 = .ok (.iload_n 1, 1) := by decide +kernel
theorem dX6_begin_2 : decode cX6_begin 2 = .ok (.sipush 1500, 3) := by decide +kernel
theorem dX6_begin_5 : decode cX6_begin 5 = .ok (.invokestatic 40, 3) := by decide +kernel
theorem dX6_begin_8 : decode cX6_begin 8 = .ok (.imul, 1) := by decide +kernel
theorem dX6_begin_9 : decode cX6_begin 9 = .ok (.iconst 1, 1) := by decide +kernel
theorem dX6_begin_10 : decode cX6_begin 10 = .ok (.iadd, 1) := by decide +kernel
theorem dX6_begin_11 : decode cX6_begin 11 = .ok (.istore_n 2, 1) := by decide +kernel
theorem dX6_begin_12 : decode cX6_begin 12 = .ok (.aload_n 0, 1) := by decide +kernel
theorem dX6_begin_13 : decode cX6_begin 13 = .ok (.aload_n 0, 1) := by decide +kernel
theorem dX6_begin_14 : decode cX6_begin 14 = .ok (.getfield 9, 3) := by decide +kernel
theorem dX6_begin_17 : decode cX6_begin 17 = .ok (.iload_n 2, 1) := by decide +kernel
theorem dX6_begin_18 : decode cX6_begin 18 = .ok (.invokestatic 46, 3) := by decide +kernel
theorem dX6_begin_21 : decode cX6_begin 21 = .ok (.putfield 9, 3) := by decide +kernel
theorem dX6_begin_24 : decode cX6_begin 24 = .ok (.aload_n 0, 1) := by decide +kernel
theorem dX6_begin_25 : decode cX6_begin 25 = .ok (.aload_n 0, 1) := by decide +kernel
theorem dX6_begin_26 : decode cX6_begin 26 = .ok (.getfield 15, 3) := by decide +kernel
theorem dX6_begin_29 : decode cX6_begin 29 = .ok (.iload_n 2, 1) := by decide +kernel
theorem dX6_begin_30 : decode cX6_begin 30 = .ok (.invokestatic 46, 3) := by decide +kernel
theorem dX6_begin_33 : decode cX6_begin 33 = .ok (.putfield 15, 3) := by decide +kernel
theorem dX6_begin_36 : decode cX6_begin 36 = .ok (.aload_n 0, 1) := by decide +kernel
theorem dX6_begin_37 : decode cX6_begin 37 = .ok (.aload_n 0, 1) := by decide +kernel
theorem dX6_begin_38 : decode cX6_begin 38 = .ok (.getfield 18, 3) := by decide +kernel
theorem dX6_begin_41 : decode cX6_begin 41 = .ok (.iconst 2, 1) := by decide +kernel
theorem dX6_begin_42 : decode cX6_begin 42 = .ok (.iload_n 1, 1) := by decide +kernel
theorem dX6_begin_43 : decode cX6_begin 43 = .ok (.imul, 1) := by decide +kernel
theorem dX6_begin_44 : decode cX6_begin 44 = .ok (.invokestatic 52, 3) := by decide +kernel
theorem dX6_begin_47 : decode cX6_begin 47 = .ok (.putfield 18, 3) := by decide +kernel
theorem dX6_begin_50 : decode cX6_begin 50 = .ok (.aload_n 0, 1) := by decide +kernel
theorem dX6_begin_51 : decode cX6_begin 51 = .ok (.iconst 0, 1) := by decide +kernel
theorem dX6_begin_52 : decode cX6_begin 52 = .ok (.putfield 55, 3) := by decide +kernel
theorem dX6_begin_55 : decode cX6_begin 55 = .ok (.aload_n 0, 1) := by decide +kernel
theorem dX6_begin_56 : decode cX6_begin 56 = .ok (.iconst 0, 1) := by decide +kernel
theorem dX6_begin_57 : decode cX6_begin 57 = .ok (.putfield 59, 3) := by decide +kernel
theorem dX6_begin_60 : decode cX6_begin 60 = .ok (.aload_n 0, 1) := by decide +kernel
theorem dX6_begin_61 : decode cX6_begin 61 = .ok (.iconst 0, 1) := by decide +kernel
theorem dX6_begin_62 : decode cX6_begin 62 = .ok (.putfield 62, 3) := by decide +kernel
theorem dX6_begin_65 : decode cX6_begin 65 = .ok (.aload_n 0, 1) := by decide +kernel
theorem dX6_begin_66 : decode cX6_begin 66 = .ok (.iconst 0, 1) := by decide +kernel
theorem dX6_begin_67 : decode cX6_begin 67 = .ok (.putfield 65, 3) := by decide +kernel
theorem dX6_begin_70 : decode cX6_begin 70 = .ok (.aload_n 0, 1) := by decide +kernel
theorem dX6_begin_71 : decode cX6_begin 71 = .ok (.iconst 0, 1) := by decide +kernel
theorem dX6_begin_72 : decode cX6_begin 72 = .ok (.putfield 68, 3) := by decide +kernel
theorem dX6_begin_75 : decode cX6_begin 75 = .ok (.aload_n 0, 1) := by decide +kernel
theorem dX6_begin_76 : decode cX6_begin 76 = .ok (.iconst 0, 1) := by decide +kernel
theorem dX6_begin_77 : decode cX6_begin 77 = .ok (.putfield 71, 3) := by decide +kernel
theorem dX6_begin_80 : decode cX6_begin 80 = .ok (.aload_n 0, 1) := by decide +kernel
theorem dX6_begin_81 : decode cX6_begin 81 = .ok (.iconst 0, 1) := by decide +kernel
theorem dX6_begin_82 : decode cX6_begin 82 = .ok (.putfield 74, 3) := by decide +kernel
theorem dX6_begin_85 : decode cX6_begin 85 = .ok (.return_, 1) := by decide +kernel
theorem dX6_add_0 : decode cX6_add 0 = .ok (.aload_n 0, 1) := by decide +kernel
theorem dX6_add_1 : decode cX6_add 1 = .ok (.getfield 55, 3) := by decide +kernel
theorem dX6_add_4 : decode cX6_add 4 = .ok (.aload_n 0, 1) := by decide +kernel
theorem dX6_add_5 : decode cX6_add 5 = .ok (.getfield 9, 3) := by decide +kernel
theorem dX6_add_8 : decode cX6_add 8 = .ok (.arraylength, 1) := by decide +kernel
theorem dX6_add_9 : decode cX6_add 9 = .ok (.if_icmp .lt 5, 3) := by decide +kernel
theorem dX6_add_12 : decode cX6_add 12 = .ok (.iconst (-1), 1) := by decide +kernel
theorem dX6_add_13 : decode cX6_add 13 = .ok (.ireturn, 1) := by decide +kernel
theorem dX6_add_14 : decode cX6_add 14 = .ok (.aload_n 0, 1) := by decide +kernel
theorem dX6_add_15 : decode cX6_add 15 = .ok (.getfield 9, 3) := by decide +kernel
theorem dX6_add_18 : decode cX6_add 18 = .ok (.aload_n 0, 1) := by decide +kernel
theorem dX6_add_19 : decode cX6_add 19 = .ok (.getfield 55, 3) := by decide +kernel
theorem dX6_add_22 : decode cX6_add 22 = .ok (.iload_n 1, 1) := by decide +kernel
theorem dX6_add_23 : decode cX6_add 23 = .ok (.iastore, 1) := by decide +kernel
theorem dX6_add_24 : decode cX6_add 24 = .ok (.aload_n 0, 1) := by decide +kernel
theorem dX6_add_25 : decode cX6_add 25 = .ok (.getfield 15, 3) := by decide +kernel
theorem dX6_add_28 : decode cX6_add 28 = .ok (.aload_n 0, 1) := by decide +kernel
theorem dX6_add_29 : decode cX6_add 29 = .ok (.getfield 55, 3) := by decide +kernel
theorem dX6_add_32 : decode cX6_add 32 = .ok (.iload_n 2, 1) := by decide +kernel
theorem dX6_add_33 : decode cX6_add 33 = .ok (.iastore, 1) := by decide +kernel
theorem dX6_add_34 : decode cX6_add 34 = .ok (.aload_n 0, 1) := by decide +kernel
theorem dX6_add_35 : decode cX6_add 35 = .ok (.dup, 1) := by decide +kernel
theorem dX6_add_36 : decode cX6_add 36 = .ok (.getfield 55, 3) := by decide +kernel
theorem dX6_add_39 : decode cX6_add 39 = .ok (.iconst 1, 1) := by decide +kernel
theorem dX6_add_40 : decode cX6_add 40 = .ok (.iadd, 1) := by decide +kernel
theorem dX6_add_41 : decode cX6_add 41 = .ok (.putfield 55, 3) := by decide +kernel
theorem dX6_add_44 : decode cX6_add 44 = .ok (.aload_n 0, 1) := by decide +kernel
theorem dX6_add_45 : decode cX6_add 45 = .ok (.getfield 55, 3) := by decide +kernel
theorem dX6_add_48 : decode cX6_add 48 = .ok (.iconst 1, 1) := by decide +kernel
theorem dX6_add_49 : decode cX6_add 49 = .ok (.isub, 1) := by decide +kernel
theorem dX6_add_50 : decode cX6_add 50 = .ok (.ireturn, 1) := by decide +kernel
theorem dX6_operationAt_0 : decode cX6_operationAt 0 = .ok (.iload_n 1, 1) := by decide +kernel
theorem dX6_operationAt_1 : decode cX6_operationAt 1 = .ok (.ifCond .lt 20, 3) := by decide +kernel
theorem dX6_operationAt_4 : decode cX6_operationAt 4 = .ok (.iload_n 1, 1) := by decide +kernel
theorem dX6_operationAt_5 : decode cX6_operationAt 5 = .ok (.aload_n 0, 1) := by decide +kernel
theorem dX6_operationAt_6 : decode cX6_operationAt 6 = .ok (.getfield 55, 3) := by decide +kernel
theorem dX6_operationAt_9 : decode cX6_operationAt 9 = .ok (.if_icmp .ge 12, 3) := by decide +kernel
theorem dX6_operationAt_12 : decode cX6_operationAt 12 = .ok (.aload_n 0, 1) := by decide +kernel
theorem dX6_operationAt_13 : decode cX6_operationAt 13 = .ok (.getfield 9, 3) := by decide +kernel
theorem dX6_operationAt_16 : decode cX6_operationAt 16 = .ok (.iload_n 1, 1) := by decide +kernel
theorem dX6_operationAt_17 : decode cX6_operationAt 17 = .ok (.iaload, 1) := by decide +kernel
theorem dX6_operationAt_18 : decode cX6_operationAt 18 = .ok (.goto 5, 3) := by decide +kernel
theorem dX6_operationAt_21 : decode cX6_operationAt 21 = .ok (.bipush 36, 2) := by decide +kernel
theorem dX6_operationAt_23 : decode cX6_operationAt 23 = .ok (.ireturn, 1) := by decide +kernel
theorem dX6_operandAt_0 : decode cX6_operandAt 0 = .ok (.iload_n 1, 1) := by decide +kernel
theorem dX6_operandAt_1 : decode cX6_operandAt 1 = .ok (.ifCond .lt 20, 3) := by decide +kernel
theorem dX6_operandAt_4 : decode cX6_operandAt 4 = .ok (.iload_n 1, 1) := by decide +kernel
theorem dX6_operandAt_5 : decode cX6_operandAt 5 = .ok (.aload_n 0, 1) := by decide +kernel
theorem dX6_operandAt_6 : decode cX6_operandAt 6 = .ok (.getfield 55, 3) := by decide +kernel
theorem dX6_operandAt_9 : decode cX6_operandAt 9 = .ok (.if_icmp .ge 12, 3) := by decide +kernel
theorem dX6_operandAt_12 : decode cX6_operandAt 12 = .ok (.aload_n 0, 1) := by decide +kernel
theorem dX6_operandAt_13 : decode cX6_operandAt 13 = .ok (.getfield 15, 3) := by decide +kernel
theorem dX6_operandAt_16 : decode cX6_operandAt 16 = .ok (.iload_n 1, 1) := by decide +kernel
theorem dX6_operandAt_17 : decode cX6_operandAt 17 = .ok (.iaload, 1) := by decide +kernel
theorem dX6_operandAt_18 : decode cX6_operandAt 18 = .ok (.goto 4, 3) := by decide +kernel
theorem dX6_operandAt_21 : decode cX6_operandAt 21 = .ok (.iconst 0, 1) := by decide +kernel
theorem dX6_operandAt_22 : decode cX6_operandAt 22 = .ok (.ireturn, 1) := by decide +kernel
theorem dX6_landHere_0 : decode cX6_landHere 0 = .ok (.iload_n 1, 1) := by decide +kernel
theorem dX6_landHere_1 : decode cX6_landHere 1 = .ok (.ifCond .lt 11, 3) := by decide +kernel
theorem dX6_landHere_4 : decode cX6_landHere 4 = .ok (.iload_n 1, 1) := by decide +kernel
theorem dX6_landHere_5 : decode cX6_landHere 5 = .ok (.aload_n 0, 1) := by decide +kernel
theorem dX6_landHere_6 : decode cX6_landHere 6 = .ok (.getfield 55, 3) := by decide +kernel
theorem dX6_landHere_9 : decode cX6_landHere 9 = .ok (.if_icmp .lt 5, 3) := by decide +kernel
theorem dX6_landHere_12 : decode cX6_landHere 12 = .ok (.iconst (-1), 1) := by decide +kernel
theorem dX6_landHere_13 : decode cX6_landHere 13 = .ok (.ireturn, 1) := by decide +kernel
theorem dX6_landHere_14 : decode cX6_landHere 14 = .ok (.aload_n 0, 1) := by decide +kernel
theorem dX6_landHere_15 : decode cX6_landHere 15 = .ok (.getfield 15, 3) := by decide +kernel
theorem dX6_landHere_18 : decode cX6_landHere 18 = .ok (.iload_n 1, 1) := by decide +kernel
theorem dX6_landHere_19 : decode cX6_landHere 19 = .ok (.iaload, 1) := by decide +kernel
theorem dX6_landHere_20 : decode cX6_landHere 20 = .ok (.istore_n 2, 1) := by decide +kernel
theorem dX6_landHere_21 : decode cX6_landHere 21 = .ok (.aload_n 0, 1) := by decide +kernel
theorem dX6_landHere_22 : decode cX6_landHere 22 = .ok (.getfield 15, 3) := by decide +kernel
theorem dX6_landHere_25 : decode cX6_landHere 25 = .ok (.iload_n 1, 1) := by decide +kernel
theorem dX6_landHere_26 : decode cX6_landHere 26 = .ok (.aload_n 0, 1) := by decide +kernel
theorem dX6_landHere_27 : decode cX6_landHere 27 = .ok (.getfield 55, 3) := by decide +kernel
theorem dX6_landHere_30 : decode cX6_landHere 30 = .ok (.iastore, 1) := by decide +kernel
theorem dX6_landHere_31 : decode cX6_landHere 31 = .ok (.iload_n 2, 1) := by decide +kernel
theorem dX6_landHere_32 : decode cX6_landHere 32 = .ok (.ireturn, 1) := by decide +kernel
theorem dX6_reserve_0 : decode cX6_reserve 0 = .ok (.aload_n 0, 1) := by decide +kernel
theorem dX6_reserve_1 : decode cX6_reserve 1 = .ok (.getfield 59, 3) := by decide +kernel
theorem dX6_reserve_4 : decode cX6_reserve 4 = .ok (.istore_n 2, 1) := by decide +kernel
theorem dX6_reserve_5 : decode cX6_reserve 5 = .ok (.aload_n 0, 1) := by decide +kernel
theorem dX6_reserve_6 : decode cX6_reserve 6 = .ok (.iload_n 2, 1) := by decide +kernel
theorem dX6_reserve_7 : decode cX6_reserve 7 = .ok (.iconst 2, 1) := by decide +kernel
theorem dX6_reserve_8 : decode cX6_reserve 8 = .ok (.iload_n 1, 1) := by decide +kernel
theorem dX6_reserve_9 : decode cX6_reserve 9 = .ok (.imul, 1) := by decide +kernel
theorem dX6_reserve_10 : decode cX6_reserve 10 = .ok (.iadd, 1) := by decide +kernel
theorem dX6_reserve_11 : decode cX6_reserve 11 = .ok (.aload_n 0, 1) := by decide +kernel
theorem dX6_reserve_12 : decode cX6_reserve 12 = .ok (.getfield 18, 3) := by decide +kernel
theorem dX6_reserve_15 : decode cX6_reserve 15 = .ok (.arraylength, 1) := by decide +kernel
theorem dX6_reserve_16 : decode cX6_reserve 16 = .ok (.invokestatic 40, 3) := by decide +kernel
theorem dX6_reserve_19 : decode cX6_reserve 19 = .ok (.putfield 59, 3) := by decide +kernel
theorem dX6_reserve_22 : decode cX6_reserve 22 = .ok (.iload_n 2, 1) := by decide +kernel
theorem dX6_reserve_23 : decode cX6_reserve 23 = .ok (.ireturn, 1) := by decide +kernel
theorem dX6_putDatum_0 : decode cX6_putDatum 0 = .ok (.iload_n 1, 1) := by decide +kernel
theorem dX6_putDatum_1 : decode cX6_putDatum 1 = .ok (.ifCond .lt 18, 3) := by decide +kernel
theorem dX6_putDatum_4 : decode cX6_putDatum 4 = .ok (.iload_n 1, 1) := by decide +kernel
theorem dX6_putDatum_5 : decode cX6_putDatum 5 = .ok (.aload_n 0, 1) := by decide +kernel
theorem dX6_putDatum_6 : decode cX6_putDatum 6 = .ok (.getfield 59, 3) := by decide +kernel
theorem dX6_putDatum_9 : decode cX6_putDatum 9 = .ok (.if_icmp .ge 10, 3) := by decide +kernel
theorem dX6_putDatum_12 : decode cX6_putDatum 12 = .ok (.aload_n 0, 1) := by decide +kernel
theorem dX6_putDatum_13 : decode cX6_putDatum 13 = .ok (.getfield 18, 3) := by decide +kernel
theorem dX6_putDatum_16 : decode cX6_putDatum 16 = .ok (.iload_n 1, 1) := by decide +kernel
theorem dX6_putDatum_17 : decode cX6_putDatum 17 = .ok (.lload_n 2, 1) := by decide +kernel
theorem dX6_putDatum_18 : decode cX6_putDatum 18 = .ok (.lastore, 1) := by decide +kernel
theorem dX6_putDatum_19 : decode cX6_putDatum 19 = .ok (.return_, 1) := by decide +kernel
theorem dX6_addLambda_0 : decode cX6_addLambda 0 = .ok (.aload_n 0, 1) := by decide +kernel
theorem dX6_addLambda_1 : decode cX6_addLambda 1 = .ok (.getfield 65, 3) := by decide +kernel
theorem dX6_addLambda_4 : decode cX6_addLambda 4 = .ok (.bipush 120, 2) := by decide +kernel
theorem dX6_addLambda_6 : decode cX6_addLambda 6 = .ok (.if_icmp .lt 5, 3) := by decide +kernel
theorem dX6_addLambda_9 : decode cX6_addLambda 9 = .ok (.iconst (-1), 1) := by decide +kernel
theorem dX6_addLambda_10 : decode cX6_addLambda 10 = .ok (.ireturn, 1) := by decide +kernel
theorem dX6_addLambda_11 : decode cX6_addLambda 11 = .ok (.aload_n 0, 1) := by decide +kernel
theorem dX6_addLambda_12 : decode cX6_addLambda 12 = .ok (.getfield 25, 3) := by decide +kernel
theorem dX6_addLambda_15 : decode cX6_addLambda 15 = .ok (.aload_n 0, 1) := by decide +kernel
theorem dX6_addLambda_16 : decode cX6_addLambda 16 = .ok (.getfield 65, 3) := by decide +kernel
theorem dX6_addLambda_19 : decode cX6_addLambda 19 = .ok (.iload_n 1, 1) := by decide +kernel
theorem dX6_addLambda_20 : decode cX6_addLambda 20 = .ok (.iastore, 1) := by decide +kernel
theorem dX6_addLambda_21 : decode cX6_addLambda 21 = .ok (.aload_n 0, 1) := by decide +kernel
theorem dX6_addLambda_22 : decode cX6_addLambda 22 = .ok (.dup, 1) := by decide +kernel
theorem dX6_addLambda_23 : decode cX6_addLambda 23 = .ok (.getfield 65, 3) := by decide +kernel
theorem dX6_addLambda_26 : decode cX6_addLambda 26 = .ok (.iconst 1, 1) := by decide +kernel
theorem dX6_addLambda_27 : decode cX6_addLambda 27 = .ok (.iadd, 1) := by decide +kernel
theorem dX6_addLambda_28 : decode cX6_addLambda 28 = .ok (.putfield 65, 3) := by decide +kernel
theorem dX6_addLambda_31 : decode cX6_addLambda 31 = .ok (.aload_n 0, 1) := by decide +kernel
theorem dX6_addLambda_32 : decode cX6_addLambda 32 = .ok (.getfield 65, 3) := by decide +kernel
theorem dX6_addLambda_35 : decode cX6_addLambda 35 = .ok (.iconst 1, 1) := by decide +kernel
theorem dX6_addLambda_36 : decode cX6_addLambda 36 = .ok (.isub, 1) := by decide +kernel
theorem dX6_addLambda_37 : decode cX6_addLambda 37 = .ok (.ireturn, 1) := by decide +kernel
theorem dX6_endLambda_0 : decode cX6_endLambda 0 = .ok (.iload_n 1, 1) := by decide +kernel
theorem dX6_endLambda_1 : decode cX6_endLambda 1 = .ok (.ifCond .lt 11, 3) := by decide +kernel
theorem dX6_endLambda_4 : decode cX6_endLambda 4 = .ok (.iload_n 1, 1) := by decide +kernel
theorem dX6_endLambda_5 : decode cX6_endLambda 5 = .ok (.aload_n 0, 1) := by decide +kernel
theorem dX6_endLambda_6 : decode cX6_endLambda 6 = .ok (.getfield 65, 3) := by decide +kernel
theorem dX6_endLambda_9 : decode cX6_endLambda 9 = .ok (.if_icmp .lt 4, 3) := by decide +kernel
theorem dX6_endLambda_12 : decode cX6_endLambda 12 = .ok (.return_, 1) := by decide +kernel
theorem dX6_endLambda_13 : decode cX6_endLambda 13 = .ok (.aload_n 0, 1) := by decide +kernel
theorem dX6_endLambda_14 : decode cX6_endLambda 14 = .ok (.getfield 22, 3) := by decide +kernel
theorem dX6_endLambda_17 : decode cX6_endLambda 17 = .ok (.iload_n 1, 1) := by decide +kernel
theorem dX6_endLambda_18 : decode cX6_endLambda 18 = .ok (.iload_n 2, 1) := by decide +kernel
theorem dX6_endLambda_19 : decode cX6_endLambda 19 = .ok (.iastore, 1) := by decide +kernel
theorem dX6_endLambda_20 : decode cX6_endLambda 20 = .ok (.aload_n 0, 1) := by decide +kernel
theorem dX6_endLambda_21 : decode cX6_endLambda 21 = .ok (.getfield 28, 3) := by decide +kernel
theorem dX6_endLambda_24 : decode cX6_endLambda 24 = .ok (.iload_n 1, 1) := by decide +kernel
theorem dX6_endLambda_25 : decode cX6_endLambda 25 = .ok (.iload_n 3, 1) := by decide +kernel
theorem dX6_endLambda_26 : decode cX6_endLambda 26 = .ok (.iastore, 1) := by decide +kernel
theorem dX6_endLambda_27 : decode cX6_endLambda 27 = .ok (.aload_n 0, 1) := by decide +kernel
theorem dX6_endLambda_28 : decode cX6_endLambda 28 = .ok (.getfield 31, 3) := by decide +kernel
theorem dX6_endLambda_31 : decode cX6_endLambda 31 = .ok (.iload_n 1, 1) := by decide +kernel
theorem dX6_endLambda_32 : decode cX6_endLambda 32 = .ok (.aload_n 0, 1) := by decide +kernel
theorem dX6_endLambda_33 : decode cX6_endLambda 33 = .ok (.getfield 62, 3) := by decide +kernel
theorem dX6_endLambda_36 : decode cX6_endLambda 36 = .ok (.iastore, 1) := by decide +kernel
theorem dX6_endLambda_37 : decode cX6_endLambda 37 = .ok (.aload_n 0, 1) := by decide +kernel
theorem dX6_endLambda_38 : decode cX6_endLambda 38 = .ok (.getfield 34, 3) := by decide +kernel
theorem dX6_endLambda_41 : decode cX6_endLambda 41 = .ok (.iload_n 1, 1) := by decide +kernel
theorem dX6_endLambda_42 : decode cX6_endLambda 42 = .ok (.aload 4, 2) := by decide +kernel
theorem dX6_endLambda_44 : decode cX6_endLambda 44 = .ok (.invokevirtual 77, 3) := by decide +kernel
theorem dX6_endLambda_47 : decode cX6_endLambda 47 = .ok (.iastore, 1) := by decide +kernel
theorem dX6_endLambda_48 : decode cX6_endLambda 48 = .ok (.aload_n 0, 1) := by decide +kernel
theorem dX6_endLambda_49 : decode cX6_endLambda 49 = .ok (.aload_n 0, 1) := by decide +kernel
theorem dX6_endLambda_50 : decode cX6_endLambda 50 = .ok (.getfield 37, 3) := by decide +kernel
theorem dX6_endLambda_53 : decode cX6_endLambda 53 = .ok (.aload_n 0, 1) := by decide +kernel
theorem dX6_endLambda_54 : decode cX6_endLambda 54 = .ok (.getfield 62, 3) := by decide +kernel
theorem dX6_endLambda_57 : decode cX6_endLambda 57 = .ok (.aload 4, 2) := by decide +kernel
theorem dX6_endLambda_59 : decode cX6_endLambda 59 = .ok (.invokevirtual 77, 3) := by decide +kernel
theorem dX6_endLambda_62 : decode cX6_endLambda 62 = .ok (.iadd, 1) := by decide +kernel
theorem dX6_endLambda_63 : decode cX6_endLambda 63 = .ok (.invokestatic 46, 3) := by decide +kernel
theorem dX6_endLambda_66 : decode cX6_endLambda 66 = .ok (.putfield 37, 3) := by decide +kernel
theorem dX6_endLambda_69 : decode cX6_endLambda 69 = .ok (.iconst 0, 1) := by decide +kernel
theorem dX6_endLambda_70 : decode cX6_endLambda 70 = .ok (.istore 5, 2) := by decide +kernel
theorem dX6_endLambda_72 : decode cX6_endLambda 72 = .ok (.iload 5, 2) := by decide +kernel
theorem dX6_endLambda_74 : decode cX6_endLambda 74 = .ok (.aload 4, 2) := by decide +kernel
theorem dX6_endLambda_76 : decode cX6_endLambda 76 = .ok (.invokevirtual 77, 3) := by decide +kernel
theorem dX6_endLambda_79 : decode cX6_endLambda 79 = .ok (.if_icmp .ge 35, 3) := by decide +kernel
theorem dX6_endLambda_82 : decode cX6_endLambda 82 = .ok (.aload_n 0, 1) := by decide +kernel
theorem dX6_endLambda_83 : decode cX6_endLambda 83 = .ok (.getfield 37, 3) := by decide +kernel
theorem dX6_endLambda_86 : decode cX6_endLambda 86 = .ok (.aload_n 0, 1) := by decide +kernel
theorem dX6_endLambda_87 : decode cX6_endLambda 87 = .ok (.getfield 62, 3) := by decide +kernel
theorem dX6_endLambda_90 : decode cX6_endLambda 90 = .ok (.aload 4, 2) := by decide +kernel
theorem dX6_endLambda_92 : decode cX6_endLambda 92 = .ok (.iload 5, 2) := by decide +kernel
theorem dX6_endLambda_94 : decode cX6_endLambda 94 = .ok (.invokevirtual 83, 3) := by decide +kernel
theorem dX6_endLambda_97 : decode cX6_endLambda 97 = .ok (.iastore, 1) := by decide +kernel
theorem dX6_endLambda_98 : decode cX6_endLambda 98 = .ok (.aload_n 0, 1) := by decide +kernel
theorem dX6_endLambda_99 : decode cX6_endLambda 99 = .ok (.dup, 1) := by decide +kernel
theorem dX6_endLambda_100 : decode cX6_endLambda 100 = .ok (.getfield 62, 3) := by decide +kernel
theorem dX6_endLambda_103 : decode cX6_endLambda 103 = .ok (.iconst 1, 1) := by decide +kernel
theorem dX6_endLambda_104 : decode cX6_endLambda 104 = .ok (.iadd, 1) := by decide +kernel
theorem dX6_endLambda_105 : decode cX6_endLambda 105 = .ok (.putfield 62, 3) := by decide +kernel
theorem dX6_endLambda_108 : decode cX6_endLambda 108 = .ok (.iinc 5 1, 3) := by decide +kernel
theorem dX6_endLambda_111 : decode cX6_endLambda 111 = .ok (.goto (-39), 3) := by decide +kernel
theorem dX6_endLambda_114 : decode cX6_endLambda 114 = .ok (.return_, 1) := by decide +kernel
theorem dX6_wantedBy_0 : decode cX6_wantedBy 0 = .ok (.iload_n 1, 1) := by decide +kernel
theorem dX6_wantedBy_1 : decode cX6_wantedBy 1 = .ok (.ifCond .lt 20, 3) := by decide +kernel
theorem dX6_wantedBy_4 : decode cX6_wantedBy 4 = .ok (.iload_n 1, 1) := by decide +kernel
theorem dX6_wantedBy_5 : decode cX6_wantedBy 5 = .ok (.aload_n 0, 1) := by decide +kernel
theorem dX6_wantedBy_6 : decode cX6_wantedBy 6 = .ok (.getfield 65, 3) := by decide +kernel
theorem dX6_wantedBy_9 : decode cX6_wantedBy 9 = .ok (.if_icmp .ge 12, 3) := by decide +kernel
theorem dX6_wantedBy_12 : decode cX6_wantedBy 12 = .ok (.aload_n 0, 1) := by decide +kernel
theorem dX6_wantedBy_13 : decode cX6_wantedBy 13 = .ok (.getfield 25, 3) := by decide +kernel
theorem dX6_wantedBy_16 : decode cX6_wantedBy 16 = .ok (.iload_n 1, 1) := by decide +kernel
theorem dX6_wantedBy_17 : decode cX6_wantedBy 17 = .ok (.iaload, 1) := by decide +kernel
theorem dX6_wantedBy_18 : decode cX6_wantedBy 18 = .ok (.goto 4, 3) := by decide +kernel
theorem dX6_wantedBy_21 : decode cX6_wantedBy 21 = .ok (.iconst 0, 1) := by decide +kernel
theorem dX6_wantedBy_22 : decode cX6_wantedBy 22 = .ok (.ireturn, 1) := by decide +kernel
theorem dX6_entryOf_0 : decode cX6_entryOf 0 = .ok (.iload_n 1, 1) := by decide +kernel
theorem dX6_entryOf_1 : decode cX6_entryOf 1 = .ok (.ifCond .lt 20, 3) := by decide +kernel
theorem dX6_entryOf_4 : decode cX6_entryOf 4 = .ok (.iload_n 1, 1) := by decide +kernel
theorem dX6_entryOf_5 : decode cX6_entryOf 5 = .ok (.aload_n 0, 1) := by decide +kernel
theorem dX6_entryOf_6 : decode cX6_entryOf 6 = .ok (.getfield 65, 3) := by decide +kernel
theorem dX6_entryOf_9 : decode cX6_entryOf 9 = .ok (.if_icmp .ge 12, 3) := by decide +kernel
theorem dX6_entryOf_12 : decode cX6_entryOf 12 = .ok (.aload_n 0, 1) := by decide +kernel
theorem dX6_entryOf_13 : decode cX6_entryOf 13 = .ok (.getfield 22, 3) := by decide +kernel
theorem dX6_entryOf_16 : decode cX6_entryOf 16 = .ok (.iload_n 1, 1) := by decide +kernel
theorem dX6_entryOf_17 : decode cX6_entryOf 17 = .ok (.iaload, 1) := by decide +kernel
theorem dX6_entryOf_18 : decode cX6_entryOf 18 = .ok (.goto 4, 3) := by decide +kernel
theorem dX6_entryOf_21 : decode cX6_entryOf 21 = .ok (.iconst 0, 1) := by decide +kernel
theorem dX6_entryOf_22 : decode cX6_entryOf 22 = .ok (.ireturn, 1) := by decide +kernel
theorem dX6_depthOf_0 : decode cX6_depthOf 0 = .ok (.iload_n 1, 1) := by decide +kernel
theorem dX6_depthOf_1 : decode cX6_depthOf 1 = .ok (.ifCond .lt 20, 3) := by decide +kernel
theorem dX6_depthOf_4 : decode cX6_depthOf 4 = .ok (.iload_n 1, 1) := by decide +kernel
theorem dX6_depthOf_5 : decode cX6_depthOf 5 = .ok (.aload_n 0, 1) := by decide +kernel
theorem dX6_depthOf_6 : decode cX6_depthOf 6 = .ok (.getfield 65, 3) := by decide +kernel
theorem dX6_depthOf_9 : decode cX6_depthOf 9 = .ok (.if_icmp .ge 12, 3) := by decide +kernel
theorem dX6_depthOf_12 : decode cX6_depthOf 12 = .ok (.aload_n 0, 1) := by decide +kernel
theorem dX6_depthOf_13 : decode cX6_depthOf 13 = .ok (.getfield 28, 3) := by decide +kernel
theorem dX6_depthOf_16 : decode cX6_depthOf 16 = .ok (.iload_n 1, 1) := by decide +kernel
theorem dX6_depthOf_17 : decode cX6_depthOf 17 = .ok (.iaload, 1) := by decide +kernel
theorem dX6_depthOf_18 : decode cX6_depthOf 18 = .ok (.goto 4, 3) := by decide +kernel
theorem dX6_depthOf_21 : decode cX6_depthOf 21 = .ok (.iconst 0, 1) := by decide +kernel
theorem dX6_depthOf_22 : decode cX6_depthOf 22 = .ok (.ireturn, 1) := by decide +kernel
theorem dX6_keptBy_0 : decode cX6_keptBy 0 = .ok (.iload_n 1, 1) := by decide +kernel
theorem dX6_keptBy_1 : decode cX6_keptBy 1 = .ok (.ifCond .lt 20, 3) := by decide +kernel
theorem dX6_keptBy_4 : decode cX6_keptBy 4 = .ok (.iload_n 1, 1) := by decide +kernel
theorem dX6_keptBy_5 : decode cX6_keptBy 5 = .ok (.aload_n 0, 1) := by decide +kernel
theorem dX6_keptBy_6 : decode cX6_keptBy 6 = .ok (.getfield 65, 3) := by decide +kernel
theorem dX6_keptBy_9 : decode cX6_keptBy 9 = .ok (.if_icmp .ge 12, 3) := by decide +kernel
theorem dX6_keptBy_12 : decode cX6_keptBy 12 = .ok (.aload_n 0, 1) := by decide +kernel
theorem dX6_keptBy_13 : decode cX6_keptBy 13 = .ok (.getfield 34, 3) := by decide +kernel
theorem dX6_keptBy_16 : decode cX6_keptBy 16 = .ok (.iload_n 1, 1) := by decide +kernel
theorem dX6_keptBy_17 : decode cX6_keptBy 17 = .ok (.iaload, 1) := by decide +kernel
theorem dX6_keptBy_18 : decode cX6_keptBy 18 = .ok (.goto 4, 3) := by decide +kernel
theorem dX6_keptBy_21 : decode cX6_keptBy 21 = .ok (.iconst 0, 1) := by decide +kernel
theorem dX6_keptBy_22 : decode cX6_keptBy 22 = .ok (.ireturn, 1) := by decide +kernel
theorem dX6_sourceOf_0 : decode cX6_sourceOf 0 = .ok (.iload_n 1, 1) := by decide +kernel
theorem dX6_sourceOf_1 : decode cX6_sourceOf 1 = .ok (.ifCond .lt 22, 3) := by decide +kernel
theorem dX6_sourceOf_4 : decode cX6_sourceOf 4 = .ok (.iload_n 1, 1) := by decide +kernel
theorem dX6_sourceOf_5 : decode cX6_sourceOf 5 = .ok (.aload_n 0, 1) := by decide +kernel
theorem dX6_sourceOf_6 : decode cX6_sourceOf 6 = .ok (.getfield 65, 3) := by decide +kernel
theorem dX6_sourceOf_9 : decode cX6_sourceOf 9 = .ok (.if_icmp .ge 14, 3) := by decide +kernel
theorem dX6_sourceOf_12 : decode cX6_sourceOf 12 = .ok (.aload_n 0, 1) := by decide +kernel
theorem dX6_sourceOf_13 : decode cX6_sourceOf 13 = .ok (.getfield 31, 3) := by decide +kernel
theorem dX6_sourceOf_16 : decode cX6_sourceOf 16 = .ok (.iload_n 1, 1) := by decide +kernel
theorem dX6_sourceOf_17 : decode cX6_sourceOf 17 = .ok (.iaload, 1) := by decide +kernel
theorem dX6_sourceOf_18 : decode cX6_sourceOf 18 = .ok (.iload_n 2, 1) := by decide +kernel
theorem dX6_sourceOf_19 : decode cX6_sourceOf 19 = .ok (.iadd, 1) := by decide +kernel
theorem dX6_sourceOf_20 : decode cX6_sourceOf 20 = .ok (.goto 4, 3) := by decide +kernel
theorem dX6_sourceOf_23 : decode cX6_sourceOf 23 = .ok (.iconst (-1), 1) := by decide +kernel
theorem dX6_sourceOf_24 : decode cX6_sourceOf 24 = .ok (.istore_n 3, 1) := by decide +kernel
theorem dX6_sourceOf_25 : decode cX6_sourceOf 25 = .ok (.iload_n 3, 1) := by decide +kernel
theorem dX6_sourceOf_26 : decode cX6_sourceOf 26 = .ok (.ifCond .lt 20, 3) := by decide +kernel
theorem dX6_sourceOf_29 : decode cX6_sourceOf 29 = .ok (.iload_n 3, 1) := by decide +kernel
theorem dX6_sourceOf_30 : decode cX6_sourceOf 30 = .ok (.aload_n 0, 1) := by decide +kernel
theorem dX6_sourceOf_31 : decode cX6_sourceOf 31 = .ok (.getfield 62, 3) := by decide +kernel
theorem dX6_sourceOf_34 : decode cX6_sourceOf 34 = .ok (.if_icmp .ge 12, 3) := by decide +kernel
theorem dX6_sourceOf_37 : decode cX6_sourceOf 37 = .ok (.aload_n 0, 1) := by decide +kernel
theorem dX6_sourceOf_38 : decode cX6_sourceOf 38 = .ok (.getfield 37, 3) := by decide +kernel
theorem dX6_sourceOf_41 : decode cX6_sourceOf 41 = .ok (.iload_n 3, 1) := by decide +kernel
theorem dX6_sourceOf_42 : decode cX6_sourceOf 42 = .ok (.iaload, 1) := by decide +kernel
theorem dX6_sourceOf_43 : decode cX6_sourceOf 43 = .ok (.goto 4, 3) := by decide +kernel
theorem dX6_sourceOf_46 : decode cX6_sourceOf 46 = .ok (.iconst 0, 1) := by decide +kernel
theorem dX6_sourceOf_47 : decode cX6_sourceOf 47 = .ok (.ireturn, 1) := by decide +kernel
theorem dX7_init_0 : decode cX7_init 0 = .ok (.aload_n 0, 1) := by decide +kernel
theorem dX7_init_1 : decode cX7_init 1 = .ok (.invokespecial 3, 3) := by decide +kernel
theorem dX7_init_4 : decode cX7_init 4 = .ok (.aload_n 0, 1) := by decide +kernel
theorem dX7_init_5 : decode cX7_init 5 = .ok (.new 9, 3) := by decide +kernel
theorem dX7_init_8 : decode cX7_init 8 = .ok (.dup, 1) := by decide +kernel
theorem dX7_init_9 : decode cX7_init 9 = .ok (.invokespecial 11, 3) := by decide +kernel
theorem dX7_init_12 : decode cX7_init 12 = .ok (.putfield 12, 3) := by decide +kernel
theorem dX7_init_15 : decode cX7_init 15 = .ok (.aload_n 0, 1) := by decide +kernel
theorem dX7_init_16 : decode cX7_init 16 = .ok (.bipush 64, 2) := by decide +kernel
theorem dX7_init_18 : decode cX7_init 18 = .ok (.newarray .int, 2) := by decide +kernel
theorem dX7_init_20 : decode cX7_init 20 = .ok (.putfield 18, 3) := by decide +kernel
theorem dX7_init_23 : decode cX7_init 23 = .ok (.aload_n 0, 1) := by decide +kernel
theorem dX7_init_24 : decode cX7_init 24 = .ok (.bipush 64, 2) := by decide +kernel
theorem dX7_init_26 : decode cX7_init 26 = .ok (.newarray .int, 2) := by decide +kernel
theorem dX7_init_28 : decode cX7_init 28 = .ok (.putfield 22, 3) := by decide +kernel
theorem dX7_init_31 : decode cX7_init 31 = .ok (.aload_n 0, 1) := by decide +kernel
theorem dX7_init_32 : decode cX7_init 32 = .ok (.bipush 64, 2) := by decide +kernel
theorem dX7_init_34 : decode cX7_init 34 = .ok (.newarray .int, 2) := by decide +kernel
theorem dX7_init_36 : decode cX7_init 36 = .ok (.putfield 25, 3) := by decide +kernel
theorem dX7_init_39 : decode cX7_init 39 = .ok (.aload_n 0, 1) := by decide +kernel
theorem dX7_init_40 : decode cX7_init 40 = .ok (.bipush 64, 2) := by decide +kernel
theorem dX7_init_42 : decode cX7_init 42 = .ok (.newarray .int, 2) := by decide +kernel
theorem dX7_init_44 : decode cX7_init 44 = .ok (.putfield 28, 3) := by decide +kernel
theorem dX7_init_47 : decode cX7_init 47 = .ok (.aload_n 0, 1) := by decide +kernel
theorem dX7_init_48 : decode cX7_init 48 = .ok (.bipush 64, 2) := by decide +kernel
theorem dX7_init_50 : decode cX7_init 50 = .ok (.newarray .int, 2) := by decide +kernel
theorem dX7_init_52 : decode cX7_init 52 = .ok (.putfield 31, 3) := by decide +kernel
theorem dX7_init_55 : decode cX7_init 55 = .ok (.aload_n 0, 1) := by decide +kernel
theorem dX7_init_56 : decode cX7_init 56 = .ok (.bipush 31, 2) := by decide +kernel
theorem dX7_init_58 : decode cX7_init 58 = .ok (.newarray .int, 2) := by decide +kernel
theorem dX7_init_60 : decode cX7_init 60 = .ok (.putfield 34, 3) := by decide +kernel
theorem dX7_init_63 : decode cX7_init 63 = .ok (.aload_n 0, 1) := by decide +kernel
theorem dX7_init_64 : decode cX7_init 64 = .ok (.bipush 31, 2) := by decide +kernel
theorem dX7_init_66 : decode cX7_init 66 = .ok (.newarray .int, 2) := by decide +kernel
theorem dX7_init_68 : decode cX7_init 68 = .ok (.putfield 37, 3) := by decide +kernel
theorem dX7_init_71 : decode cX7_init 71 = .ok (.aload_n 0, 1) := by decide +kernel
theorem dX7_init_72 : decode cX7_init 72 = .ok (.bipush 31, 2) := by decide +kernel
theorem dX7_init_74 : decode cX7_init 74 = .ok (.newarray .boolean, 2) := by decide +kernel
theorem dX7_init_76 : decode cX7_init 76 = .ok (.putfield 40, 3) := by decide +kernel
theorem dX7_init_79 : decode cX7_init 79 = .ok (.aload_n 0, 1) := by decide +kernel
theorem dX7_init_80 : decode cX7_init 80 = .ok (.aload_n 1, 1) := by decide +kernel
theorem dX7_init_81 : decode cX7_init 81 = .ok (.putfield 44, 3) := by decide +kernel
theorem dX7_init_84 : decode cX7_init 84 = .ok (.aload_n 0, 1) := by decide +kernel
theorem dX7_init_85 : decode cX7_init 85 = .ok (.iconst 0, 1) := by decide +kernel
theorem dX7_init_86 : decode cX7_init 86 = .ok (.newarray .byte, 2) := by decide +kernel
theorem dX7_init_88 : decode cX7_init 88 = .ok (.putfield 48, 3) := by decide +kernel
theorem dX7_init_91 : decode cX7_init 91 = .ok (.return_, 1) := by decide +kernel
theorem dX7_readText_0 : decode cX7_readText 0 = .ok (.aload_n 0, 1) := by decide +kernel
theorem dX7_readText_1 : decode cX7_readText 1 = .ok (.aload_n 1, 1) := by decide +kernel
theorem dX7_readText_2 : decode cX7_readText 2 = .ok (.putfield 48, 3) := by decide +kernel
theorem dX7_readText_5 : decode cX7_readText 5 = .ok (.aload_n 0, 1) := by decide +kernel
theorem dX7_readText_6 : decode cX7_readText 6 = .ok (.iload_n 2, 1) := by decide +kernel
theorem dX7_readText_7 : decode cX7_readText 7 = .ok (.aload_n 1, 1) := by decide +kernel
theorem dX7_readText_8 : decode cX7_readText 8 = .ok (.arraylength, 1) := by decide +kernel
theorem dX7_readText_9 : decode cX7_readText 9 = .ok (.invokestatic 52, 3) := by decide +kernel
theorem dX7_readText_12 : decode cX7_readText 12 = .ok (.putfield 58, 3) := by decide +kernel
theorem dX7_readText_15 : decode cX7_readText 15 = .ok (.aload_n 0, 1) := by decide +kernel
theorem dX7_readText_16 : decode cX7_readText 16 = .ok (.getfield 12, 3) := by decide +kernel
theorem dX7_readText_19 : decode cX7_readText 19 = .ok (.aload_n 0, 1) := by decide +kernel
theorem dX7_readText_20 : decode cX7_readText 20 = .ok (.getfield 58, 3) := by decide +kernel
theorem dX7_readText_23 : decode cX7_readText 23 = .ok (.invokevirtual 62, 3) := by decide +kernel
theorem dX7_readText_26 : decode cX7_readText 26 = .ok (.aload_n 0, 1) := by decide +kernel
theorem dX7_readText_27 : decode cX7_readText 27 = .ok (.invokevirtual 66, 3) := by decide +kernel
theorem dX7_readText_30 : decode cX7_readText 30 = .ok (.aload_n 0, 1) := by decide +kernel
theorem dX7_readText_31 : decode cX7_readText 31 = .ok (.iconst 0, 1) := by decide +kernel
theorem dX7_readText_32 : decode cX7_readText 32 = .ok (.putfield 69, 3) := by decide +kernel
theorem dX7_readText_35 : decode cX7_readText 35 = .ok (.aload_n 0, 1) := by decide +kernel
theorem dX7_readText_36 : decode cX7_readText 36 = .ok (.getfield 34, 3) := by decide +kernel
theorem dX7_readText_39 : decode cX7_readText 39 = .ok (.iconst 0, 1) := by decide +kernel
theorem dX7_readText_40 : decode cX7_readText 40 = .ok (.aload_n 0, 1) := by decide +kernel
theorem dX7_readText_41 : decode cX7_readText 41 = .ok (.bipush 6, 2) := by decide +kernel
theorem dX7_readText_43 : decode cX7_readText 43 = .ok (.iconst 0, 1) := by decide +kernel
theorem dX7_readText_44 : decode cX7_readText 44 = .ok (.iconst 0, 1) := by decide +kernel
theorem dX7_readText_45 : decode cX7_readText 45 = .ok (.invokevirtual 72, 3) := by decide +kernel
theorem dX7_readText_48 : decode cX7_readText 48 = .ok (.iastore, 1) := by decide +kernel
theorem dX7_readText_49 : decode cX7_readText 49 = .ok (.aload_n 0, 1) := by decide +kernel
theorem dX7_readText_50 : decode cX7_readText 50 = .ok (.getfield 37, 3) := by decide +kernel
theorem dX7_readText_53 : decode cX7_readText 53 = .ok (.iconst 0, 1) := by decide +kernel
theorem dX7_readText_54 : decode cX7_readText 54 = .ok (.iconst (-1), 1) := by decide +kernel
theorem dX7_readText_55 : decode cX7_readText 55 = .ok (.iastore, 1) := by decide +kernel
theorem dX7_readText_56 : decode cX7_readText 56 = .ok (.aload_n 0, 1) := by decide +kernel
theorem dX7_readText_57 : decode cX7_readText 57 = .ok (.getfield 40, 3) := by decide +kernel
theorem dX7_readText_60 : decode cX7_readText 60 = .ok (.iconst 0, 1) := by decide +kernel
theorem dX7_readText_61 : decode cX7_readText 61 = .ok (.iconst 0, 1) := by decide +kernel
theorem dX7_readText_62 : decode cX7_readText 62 = .ok (.bastore, 1) := by decide +kernel
theorem dX7_readText_63 : decode cX7_readText 63 = .ok (.iconst 0, 1) := by decide +kernel
theorem dX7_readText_64 : decode cX7_readText 64 = .ok (.istore_n 3, 1) := by decide +kernel
theorem dX7_readText_65 : decode cX7_readText 65 = .ok (.iconst 0, 1) := by decide +kernel
theorem dX7_readText_66 : decode cX7_readText 66 = .ok (.istore 4, 2) := by decide +kernel
theorem dX7_readText_68 : decode cX7_readText 68 = .ok (.iload 4, 2) := by decide +kernel
theorem dX7_readText_70 : decode cX7_readText 70 = .ok (.aload_n 0, 1) := by decide +kernel
theorem dX7_readText_71 : decode cX7_readText 71 = .ok (.getfield 58, 3) := by decide +kernel
theorem dX7_readText_74 : decode cX7_readText 74 = .ok (.if_icmp .ge 33, 3) := by decide +kernel
theorem dX7_readText_77 : decode cX7_readText 77 = .ok (.iload_n 3, 1) := by decide +kernel
theorem dX7_readText_78 : decode cX7_readText 78 = .ok (.aload_n 0, 1) := by decide +kernel
theorem dX7_readText_79 : decode cX7_readText 79 = .ok (.getfield 58, 3) := by decide +kernel
theorem dX7_readText_82 : decode cX7_readText 82 = .ok (.if_icmp .ge 25, 3) := by decide +kernel
theorem dX7_readText_85 : decode cX7_readText 85 = .ok (.aload_n 0, 1) := by decide +kernel
theorem dX7_readText_86 : decode cX7_readText 86 = .ok (.getfield 44, 3) := by decide +kernel
theorem dX7_readText_89 : decode cX7_readText 89 = .ok (.invokevirtual 76, 3) := by decide +kernel
theorem dX7_readText_92 : decode cX7_readText 92 = .ok (.ifCond .eq 15, 3) := by decide +kernel
theorem dX7_readText_95 : decode cX7_readText 95 = .ok (.aload_n 0, 1) := by decide +kernel
theorem dX7_readText_96 : decode cX7_readText 96 = .ok (.iload_n 3, 1) := by decide +kernel
theorem dX7_readText_97 : decode cX7_readText 97 = .ok (.invokevirtual 82, 3) := by decide +kernel
theorem dX7_readText_100 : decode cX7_readText 100 = .ok (.istore_n 3, 1) := by decide +kernel
theorem dX7_readText_101 : decode cX7_readText 101 = .ok (.iinc 4 1, 3) := by decide +kernel
theorem dX7_readText_104 : decode cX7_readText 104 = .ok (.goto (-36), 3) := by decide +kernel
theorem dX7_readText_107 : decode cX7_readText 107 = .ok (.aload_n 0, 1) := by decide +kernel
theorem dX7_readText_108 : decode cX7_readText 108 = .ok (.getfield 69, 3) := by decide +kernel
theorem dX7_readText_111 : decode cX7_readText 111 = .ok (.ifCond .le 15, 3) := by decide +kernel
theorem dX7_readText_114 : decode cX7_readText 114 = .ok (.aload_n 0, 1) := by decide +kernel
theorem dX7_readText_115 : decode cX7_readText 115 = .ok (.getfield 44, 3) := by decide +kernel
theorem dX7_readText_118 : decode cX7_readText 118 = .ok (.iconst 1, 1) := by decide +kernel
theorem dX7_readText_119 : decode cX7_readText 119 = .ok (.aload_n 0, 1) := by decide +kernel
theorem dX7_readText_120 : decode cX7_readText 120 = .ok (.getfield 58, 3) := by decide +kernel
theorem dX7_readText_123 : decode cX7_readText 123 = .ok (.invokevirtual 86, 3) := by decide +kernel
theorem dX7_readText_126 : decode cX7_readText 126 = .ok (.return_, 1) := by decide +kernel
theorem dX7_beginNodes_0 : decode cX7_beginNodes 0 = .ok (.iconst 1, 1) := by decide +kernel
theorem dX7_beginNodes_1 : decode cX7_beginNodes 1 = .ok (.iconst 2, 1) := by decide +kernel
theorem dX7_beginNodes_2 : decode cX7_beginNodes 2 = .ok (.aload_n 0, 1) := by decide +kernel
theorem dX7_beginNodes_3 : decode cX7_beginNodes 3 = .ok (.getfield 58, 3) := by decide +kernel
theorem dX7_beginNodes_6 : decode cX7_beginNodes 6 = .ok (.imul, 1) := by decide +kernel
theorem dX7_beginNodes_7 : decode cX7_beginNodes 7 = .ok (.iadd, 1) := by decide +kernel
theorem dX7_beginNodes_8 : decode cX7_beginNodes 8 = .ok (.istore_n 1, 1) := by decide +kernel
theorem dX7_beginNodes_9 : decode cX7_beginNodes 9 = .ok (.aload_n 0, 1) := by decide +kernel
theorem dX7_beginNodes_10 : decode cX7_beginNodes 10 = .ok (.aload_n 0, 1) := by decide +kernel
theorem dX7_beginNodes_11 : decode cX7_beginNodes 11 = .ok (.getfield 18, 3) := by decide +kernel
theorem dX7_beginNodes_14 : decode cX7_beginNodes 14 = .ok (.iload_n 1, 1) := by decide +kernel
theorem dX7_beginNodes_15 : decode cX7_beginNodes 15 = .ok (.invokestatic 90, 3) := by decide +kernel
theorem dX7_beginNodes_18 : decode cX7_beginNodes 18 = .ok (.putfield 18, 3) := by decide +kernel
theorem dX7_beginNodes_21 : decode cX7_beginNodes 21 = .ok (.aload_n 0, 1) := by decide +kernel
theorem dX7_beginNodes_22 : decode cX7_beginNodes 22 = .ok (.aload_n 0, 1) := by decide +kernel
theorem dX7_beginNodes_23 : decode cX7_beginNodes 23 = .ok (.getfield 22, 3) := by decide +kernel
theorem dX7_beginNodes_26 : decode cX7_beginNodes 26 = .ok (.iload_n 1, 1) := by decide +kernel
theorem dX7_beginNodes_27 : decode cX7_beginNodes 27 = .ok (.invokestatic 90, 3) := by decide +kernel
theorem dX7_beginNodes_30 : decode cX7_beginNodes 30 = .ok (.putfield 22, 3) := by decide +kernel
theorem dX7_beginNodes_33 : decode cX7_beginNodes 33 = .ok (.aload_n 0, 1) := by decide +kernel
theorem dX7_beginNodes_34 : decode cX7_beginNodes 34 = .ok (.aload_n 0, 1) := by decide +kernel
theorem dX7_beginNodes_35 : decode cX7_beginNodes 35 = .ok (.getfield 25, 3) := by decide +kernel
theorem dX7_beginNodes_38 : decode cX7_beginNodes 38 = .ok (.iload_n 1, 1) := by decide +kernel
theorem dX7_beginNodes_39 : decode cX7_beginNodes 39 = .ok (.invokestatic 90, 3) := by decide +kernel
theorem dX7_beginNodes_42 : decode cX7_beginNodes 42 = .ok (.putfield 25, 3) := by decide +kernel
theorem dX7_beginNodes_45 : decode cX7_beginNodes 45 = .ok (.aload_n 0, 1) := by decide +kernel
theorem dX7_beginNodes_46 : decode cX7_beginNodes 46 = .ok (.aload_n 0, 1) := by decide +kernel
theorem dX7_beginNodes_47 : decode cX7_beginNodes 47 = .ok (.getfield 28, 3) := by decide +kernel
theorem dX7_beginNodes_50 : decode cX7_beginNodes 50 = .ok (.iload_n 1, 1) := by decide +kernel
theorem dX7_beginNodes_51 : decode cX7_beginNodes 51 = .ok (.invokestatic 90, 3) := by decide +kernel
theorem dX7_beginNodes_54 : decode cX7_beginNodes 54 = .ok (.putfield 28, 3) := by decide +kernel
theorem dX7_beginNodes_57 : decode cX7_beginNodes 57 = .ok (.aload_n 0, 1) := by decide +kernel
theorem dX7_beginNodes_58 : decode cX7_beginNodes 58 = .ok (.aload_n 0, 1) := by decide +kernel
theorem dX7_beginNodes_59 : decode cX7_beginNodes 59 = .ok (.getfield 31, 3) := by decide +kernel
theorem dX7_beginNodes_62 : decode cX7_beginNodes 62 = .ok (.iload_n 1, 1) := by decide +kernel
theorem dX7_beginNodes_63 : decode cX7_beginNodes 63 = .ok (.invokestatic 90, 3) := by decide +kernel
theorem dX7_beginNodes_66 : decode cX7_beginNodes 66 = .ok (.putfield 31, 3) := by decide +kernel
theorem dX7_beginNodes_69 : decode cX7_beginNodes 69 = .ok (.aload_n 0, 1) := by decide +kernel
theorem dX7_beginNodes_70 : decode cX7_beginNodes 70 = .ok (.iconst 0, 1) := by decide +kernel
theorem dX7_beginNodes_71 : decode cX7_beginNodes 71 = .ok (.putfield 96, 3) := by decide +kernel
theorem dX7_beginNodes_74 : decode cX7_beginNodes 74 = .ok (.return_, 1) := by decide +kernel
theorem dX7_signAt_0 : decode cX7_signAt 0 = .ok (.iload_n 1, 1) := by decide +kernel
theorem dX7_signAt_1 : decode cX7_signAt 1 = .ok (.ifCond .lt 24, 3) := by decide +kernel
theorem dX7_signAt_4 : decode cX7_signAt 4 = .ok (.iload_n 1, 1) := by decide +kernel
theorem dX7_signAt_5 : decode cX7_signAt 5 = .ok (.aload_n 0, 1) := by decide +kernel
theorem dX7_signAt_6 : decode cX7_signAt 6 = .ok (.getfield 58, 3) := by decide +kernel
theorem dX7_signAt_9 : decode cX7_signAt 9 = .ok (.if_icmp .ge 16, 3) := by decide +kernel
theorem dX7_signAt_12 : decode cX7_signAt 12 = .ok (.aload_n 0, 1) := by decide +kernel
theorem dX7_signAt_13 : decode cX7_signAt 13 = .ok (.getfield 48, 3) := by decide +kernel
theorem dX7_signAt_16 : decode cX7_signAt 16 = .ok (.iload_n 1, 1) := by decide +kernel
theorem dX7_signAt_17 : decode cX7_signAt 17 = .ok (.baload, 1) := by decide +kernel
theorem dX7_signAt_18 : decode cX7_signAt 18 = .ok (.sipush 255, 3) := by decide +kernel
theorem dX7_signAt_21 : decode cX7_signAt 21 = .ok (.iand, 1) := by decide +kernel
theorem dX7_signAt_22 : decode cX7_signAt 22 = .ok (.goto 4, 3) := by decide +kernel
theorem dX7_signAt_25 : decode cX7_signAt 25 = .ok (.iconst 0, 1) := by decide +kernel
theorem dX7_signAt_26 : decode cX7_signAt 26 = .ok (.ireturn, 1) := by decide +kernel
theorem dX7_behindToken_0 : decode cX7_behindToken 0 = .ok (.aload_n 0, 1) := by decide +kernel
theorem dX7_behindToken_1 : decode cX7_behindToken 1 = .ok (.iload_n 1, 1) := by decide +kernel
theorem dX7_behindToken_2 : decode cX7_behindToken 2 = .ok (.invokevirtual 99, 3) := by decide +kernel
theorem dX7_behindToken_5 : decode cX7_behindToken 5 = .ok (.istore_n 2, 1) := by decide +kernel
theorem dX7_behindToken_6 : decode cX7_behindToken 6 = .ok (.iload_n 2, 1) := by decide +kernel
theorem dX7_behindToken_7 : decode cX7_behindToken 7 = .ok (.bipush 32, 2) := by decide +kernel
theorem dX7_behindToken_9 : decode cX7_behindToken 9 = .ok (.if_icmp .eq 15, 3) := by decide +kernel
theorem dX7_behindToken_12 : decode cX7_behindToken 12 = .ok (.iload_n 2, 1) := by decide +kernel
theorem dX7_behindToken_13 : decode cX7_behindToken 13 = .ok (.bipush 10, 2) := by decide +kernel
theorem dX7_behindToken_15 : decode cX7_behindToken 15 = .ok (.if_icmp .eq 9, 3) := by decide +kernel
theorem dX7_behindToken_18 : decode cX7_behindToken 18 = .ok (.iload_n 2, 1) := by decide +kernel
theorem dX7_behindToken_19 : decode cX7_behindToken 19 = .ok (.bipush 9, 2) := by decide +kernel
theorem dX7_behindToken_21 : decode cX7_behindToken 21 = .ok (.if_icmp .ne 7, 3) := by decide +kernel
theorem dX7_behindToken_24 : decode cX7_behindToken 24 = .ok (.iload_n 1, 1) := by decide +kernel
theorem dX7_behindToken_25 : decode cX7_behindToken 25 = .ok (.iconst 1, 1) := by decide +kernel
theorem dX7_behindToken_26 : decode cX7_behindToken 26 = .ok (.iadd, 1) := by decide +kernel
theorem dX7_behindToken_27 : decode cX7_behindToken 27 = .ok (.ireturn, 1) := by decide +kernel
theorem dX7_behindToken_28 : decode cX7_behindToken 28 = .ok (.iload_n 2, 1) := by decide +kernel
theorem dX7_behindToken_29 : decode cX7_behindToken 29 = .ok (.bipush 59, 2) := by decide +kernel
theorem dX7_behindToken_31 : decode cX7_behindToken 31 = .ok (.if_icmp .ne 9, 3) := by decide +kernel
theorem dX7_behindToken_34 : decode cX7_behindToken 34 = .ok (.aload_n 0, 1) := by decide +kernel
theorem dX7_behindToken_35 : decode cX7_behindToken 35 = .ok (.iload_n 1, 1) := by decide +kernel
theorem dX7_behindToken_36 : decode cX7_behindToken 36 = .ok (.invokevirtual 102, 3) := by decide +kernel
theorem dX7_behindToken_39 : decode cX7_behindToken 39 = .ok (.ireturn, 1) := by decide +kernel
theorem dX7_behindToken_40 : decode cX7_behindToken 40 = .ok (.iload_n 2, 1) := by decide +kernel
theorem dX7_behindToken_41 : decode cX7_behindToken 41 = .ok (.invokestatic 105, 3) := by decide +kernel
theorem dX7_behindToken_44 : decode cX7_behindToken 44 = .ok (.ifCond .eq 17, 3) := by decide +kernel
theorem dX7_behindToken_47 : decode cX7_behindToken 47 = .ok (.aload_n 0, 1) := by decide +kernel
theorem dX7_behindToken_48 : decode cX7_behindToken 48 = .ok (.iload_n 1, 1) := by decide +kernel
theorem dX7_behindToken_49 : decode cX7_behindToken 49 = .ok (.invokevirtual 109, 3) := by decide +kernel
theorem dX7_behindToken_52 : decode cX7_behindToken 52 = .ok (.istore_n 3, 1) := by decide +kernel
theorem dX7_behindToken_53 : decode cX7_behindToken 53 = .ok (.aload_n 0, 1) := by decide +kernel
theorem dX7_behindToken_54 : decode cX7_behindToken 54 = .ok (.iload_n 1, 1) := by decide +kernel
theorem dX7_behindToken_55 : decode cX7_behindToken 55 = .ok (.iload_n 3, 1) := by decide +kernel
theorem dX7_behindToken_56 : decode cX7_behindToken 56 = .ok (.invokevirtual 112, 3) := by decide +kernel
theorem dX7_behindToken_59 : decode cX7_behindToken 59 = .ok (.iload_n 3, 1) := by decide +kernel
theorem dX7_behindToken_60 : decode cX7_behindToken 60 = .ok (.ireturn, 1) := by decide +kernel
theorem dX7_behindToken_61 : decode cX7_behindToken 61 = .ok (.iload_n 2, 1) := by decide +kernel
theorem dX7_behindToken_62 : decode cX7_behindToken 62 = .ok (.bipush 40, 2) := by decide +kernel
theorem dX7_behindToken_64 : decode cX7_behindToken 64 = .ok (.if_icmp .ne 13, 3) := by decide +kernel
theorem dX7_behindToken_67 : decode cX7_behindToken 67 = .ok (.aload_n 0, 1) := by decide +kernel
theorem dX7_behindToken_68 : decode cX7_behindToken 68 = .ok (.iload_n 1, 1) := by decide +kernel
theorem dX7_behindToken_69 : decode cX7_behindToken 69 = .ok (.iconst 0, 1) := by decide +kernel
theorem dX7_behindToken_70 : decode cX7_behindToken 70 = .ok (.invokevirtual 115, 3) := by decide +kernel
theorem dX7_behindToken_73 : decode cX7_behindToken 73 = .ok (.pop, 1) := by decide +kernel
theorem dX7_behindToken_74 : decode cX7_behindToken 74 = .ok (.goto 63, 3) := by decide +kernel
theorem dX7_behindToken_77 : decode cX7_behindToken 77 = .ok (.iload_n 2, 1) := by decide +kernel
theorem dX7_behindToken_78 : decode cX7_behindToken 78 = .ok (.bipush 39, 2) := by decide +kernel
theorem dX7_behindToken_80 : decode cX7_behindToken 80 = .ok (.if_icmp .ne 11, 3) := by decide +kernel
theorem dX7_behindToken_83 : decode cX7_behindToken 83 = .ok (.aload_n 0, 1) := by decide +kernel
theorem dX7_behindToken_84 : decode cX7_behindToken 84 = .ok (.iload_n 1, 1) := by decide +kernel
theorem dX7_behindToken_85 : decode cX7_behindToken 85 = .ok (.invokevirtual 119, 3) := by decide +kernel
theorem dX7_behindToken_88 : decode cX7_behindToken 88 = .ok (.goto 49, 3) := by decide +kernel
theorem dX7_behindToken_91 : decode cX7_behindToken 91 = .ok (.iload_n 2, 1) := by decide +kernel
theorem dX7_behindToken_92 : decode cX7_behindToken 92 = .ok (.bipush 41, 2) := by decide +kernel
theorem dX7_behindToken_94 : decode cX7_behindToken 94 = .ok (.if_icmp .ne 34, 3) := by decide +kernel
theorem dX7_behindToken_97 : decode cX7_behindToken 97 = .ok (.aload_n 0, 1) := by decide +kernel
theorem dX7_behindToken_98 : decode cX7_behindToken 98 = .ok (.getfield 69, 3) := by decide +kernel
theorem dX7_behindToken_101 : decode cX7_behindToken 101 = .ok (.ifCond .le 27, 3) := by decide +kernel
theorem dX7_behindToken_104 : decode cX7_behindToken 104 = .ok (.aload_n 0, 1) := by decide +kernel
theorem dX7_behindToken_105 : decode cX7_behindToken 105 = .ok (.invokevirtual 122, 3) := by decide +kernel
theorem dX7_behindToken_108 : decode cX7_behindToken 108 = .ok (.ifCond .ne 20, 3) := by decide +kernel
theorem dX7_behindToken_111 : decode cX7_behindToken 111 = .ok (.aload_n 0, 1) := by decide +kernel
theorem dX7_behindToken_112 : decode cX7_behindToken 112 = .ok (.dup, 1) := by decide +kernel
theorem dX7_behindToken_113 : decode cX7_behindToken 113 = .ok (.getfield 69, 3) := by decide +kernel
theorem dX7_behindToken_116 : decode cX7_behindToken 116 = .ok (.iconst 1, 1) := by decide +kernel
theorem dX7_behindToken_117 : decode cX7_behindToken 117 = .ok (.isub, 1) := by decide +kernel
theorem dX7_behindToken_118 : decode cX7_behindToken 118 = .ok (.putfield 69, 3) := by decide +kernel
theorem dX7_behindToken_121 : decode cX7_behindToken 121 = .ok (.aload_n 0, 1) := by decide +kernel
theorem dX7_behindToken_122 : decode cX7_behindToken 122 = .ok (.invokevirtual 125, 3) := by decide +kernel
theorem dX7_behindToken_125 : decode cX7_behindToken 125 = .ok (.goto 12, 3) := by decide +kernel
theorem dX7_behindToken_128 : decode cX7_behindToken 128 = .ok (.aload_n 0, 1) := by decide +kernel
theorem dX7_behindToken_129 : decode cX7_behindToken 129 = .ok (.getfield 44, 3) := by decide +kernel
theorem dX7_behindToken_132 : decode cX7_behindToken 132 = .ok (.iconst 1, 1) := by decide +kernel
theorem dX7_behindToken_133 : decode cX7_behindToken 133 = .ok (.iload_n 1, 1) := by decide +kernel
theorem dX7_behindToken_134 : decode cX7_behindToken 134 = .ok (.invokevirtual 86, 3) := by decide +kernel
theorem dX7_behindToken_137 : decode cX7_behindToken 137 = .ok (.iload_n 1, 1) := by decide +kernel
theorem dX7_behindToken_138 : decode cX7_behindToken 138 = .ok (.iconst 1, 1) := by decide +kernel
theorem dX7_behindToken_139 : decode cX7_behindToken 139 = .ok (.iadd, 1) := by decide +kernel
theorem dX7_behindToken_140 : decode cX7_behindToken 140 = .ok (.ireturn, 1) := by decide +kernel
theorem dX7_behindLine_0 : decode cX7_behindLine 0 = .ok (.iload_n 1, 1) := by decide +kernel
theorem dX7_behindLine_1 : decode cX7_behindLine 1 = .ok (.istore_n 2, 1) := by decide +kernel
theorem dX7_behindLine_2 : decode cX7_behindLine 2 = .ok (.iload_n 2, 1) := by decide +kernel
theorem dX7_behindLine_3 : decode cX7_behindLine 3 = .ok (.aload_n 0, 1) := by decide +kernel
theorem dX7_behindLine_4 : decode cX7_behindLine 4 = .ok (.getfield 58, 3) := by decide +kernel
theorem dX7_behindLine_7 : decode cX7_behindLine 7 = .ok (.if_icmp .ge 23, 3) := by decide +kernel
theorem dX7_behindLine_10 : decode cX7_behindLine 10 = .ok (.aload_n 0, 1) := by decide +kernel
theorem dX7_behindLine_11 : decode cX7_behindLine 11 = .ok (.iload_n 2, 1) := by decide +kernel
theorem dX7_behindLine_12 : decode cX7_behindLine 12 = .ok (.invokevirtual 99, 3) := by decide +kernel
theorem dX7_behindLine_15 : decode cX7_behindLine 15 = .ok (.bipush 10, 2) := by decide +kernel
theorem dX7_behindLine_17 : decode cX7_behindLine 17 = .ok (.if_icmp .ne 7, 3) := by decide +kernel
theorem dX7_behindLine_20 : decode cX7_behindLine 20 = .ok (.iload_n 2, 1) := by decide +kernel
theorem dX7_behindLine_21 : decode cX7_behindLine 21 = .ok (.iconst 1, 1) := by decide +kernel
theorem dX7_behindLine_22 : decode cX7_behindLine 22 = .ok (.iadd, 1) := by decide +kernel
theorem dX7_behindLine_23 : decode cX7_behindLine 23 = .ok (.ireturn, 1) := by decide +kernel
theorem dX7_behindLine_24 : decode cX7_behindLine 24 = .ok (.iinc 2 1, 3) := by decide +kernel
theorem dX7_behindLine_27 : decode cX7_behindLine 27 = .ok (.goto (-25), 3) := by decide +kernel
theorem dX7_behindLine_30 : decode cX7_behindLine 30 = .ok (.aload_n 0, 1) := by decide +kernel
theorem dX7_behindLine_31 : decode cX7_behindLine 31 = .ok (.getfield 58, 3) := by decide +kernel
theorem dX7_behindLine_34 : decode cX7_behindLine 34 = .ok (.ireturn, 1) := by decide +kernel
theorem dX7_isDigit_0 : decode cX7_isDigit 0 = .ok (.iload_n 0, 1) := by decide +kernel
theorem dX7_isDigit_1 : decode cX7_isDigit 1 = .ok (.bipush 48, 2) := by decide +kernel
theorem dX7_isDigit_3 : decode cX7_isDigit 3 = .ok (.if_icmp .lt 13, 3) := by decide +kernel
theorem dX7_isDigit_6 : decode cX7_isDigit 6 = .ok (.iload_n 0, 1) := by decide +kernel
theorem dX7_isDigit_7 : decode cX7_isDigit 7 = .ok (.bipush 57, 2) := by decide +kernel
theorem dX7_isDigit_9 : decode cX7_isDigit 9 = .ok (.if_icmp .gt 7, 3) := by decide +kernel
theorem dX7_isDigit_12 : decode cX7_isDigit 12 = .ok (.iconst 1, 1) := by decide +kernel
theorem dX7_isDigit_13 : decode cX7_isDigit 13 = .ok (.goto 4, 3) := by decide +kernel
theorem dX7_isDigit_16 : decode cX7_isDigit 16 = .ok (.iconst 0, 1) := by decide +kernel
theorem dX7_isDigit_17 : decode cX7_isDigit 17 = .ok (.ireturn, 1) := by decide +kernel
theorem dX7_isWordSign_0 : decode cX7_isWordSign 0 = .ok (.iload_n 0, 1) := by decide +kernel
theorem dX7_isWordSign_1 : decode cX7_isWordSign 1 = .ok (.bipush 97, 2) := by decide +kernel
theorem dX7_isWordSign_3 : decode cX7_isWordSign 3 = .ok (.if_icmp .lt 9, 3) := by decide +kernel
theorem dX7_isWordSign_6 : decode cX7_isWordSign 6 = .ok (.iload_n 0, 1) := by decide +kernel
theorem dX7_isWordSign_7 : decode cX7_isWordSign 7 = .ok (.bipush 122, 2) := by decide +kernel
theorem dX7_isWordSign_9 : decode cX7_isWordSign 9 = .ok (.if_icmp .le 20, 3) := by decide +kernel
theorem dX7_isWordSign_12 : decode cX7_isWordSign 12 = .ok (.iload_n 0, 1) := by decide +kernel
theorem dX7_isWordSign_13 : decode cX7_isWordSign 13 = .ok (.invokestatic 128, 3) := by decide +kernel
theorem dX7_isWordSign_16 : decode cX7_isWordSign 16 = .ok (.ifCond .ne 13, 3) := by decide +kernel
theorem dX7_isWordSign_19 : decode cX7_isWordSign 19 = .ok (.ldc 131, 2) := by decide +kernel
theorem dX7_isWordSign_21 : decode cX7_isWordSign 21 = .ok (.iload_n 0, 1) := by decide +kernel
theorem dX7_isWordSign_22 : decode cX7_isWordSign 22 = .ok (.i2c, 1) := by decide +kernel
theorem dX7_isWordSign_23 : decode cX7_isWordSign 23 = .ok (.invokevirtual 133, 3) := by decide +kernel
theorem dX7_isWordSign_26 : decode cX7_isWordSign 26 = .ok (.ifCond .lt 7, 3) := by decide +kernel
theorem dX7_isWordSign_29 : decode cX7_isWordSign 29 = .ok (.iconst 1, 1) := by decide +kernel
theorem dX7_isWordSign_30 : decode cX7_isWordSign 30 = .ok (.goto 4, 3) := by decide +kernel
theorem dX7_isWordSign_33 : decode cX7_isWordSign 33 = .ok (.iconst 0, 1) := by decide +kernel
theorem dX7_isWordSign_34 : decode cX7_isWordSign 34 = .ok (.ireturn, 1) := by decide +kernel
theorem dX7_behindWord_0 : decode cX7_behindWord 0 = .ok (.iload_n 1, 1) := by decide +kernel
theorem dX7_behindWord_1 : decode cX7_behindWord 1 = .ok (.iconst 1, 1) := by decide +kernel
theorem dX7_behindWord_2 : decode cX7_behindWord 2 = .ok (.iadd, 1) := by decide +kernel
theorem dX7_behindWord_3 : decode cX7_behindWord 3 = .ok (.istore_n 2, 1) := by decide +kernel
theorem dX7_behindWord_4 : decode cX7_behindWord 4 = .ok (.iload_n 2, 1) := by decide +kernel
theorem dX7_behindWord_5 : decode cX7_behindWord 5 = .ok (.aload_n 0, 1) := by decide +kernel
theorem dX7_behindWord_6 : decode cX7_behindWord 6 = .ok (.getfield 58, 3) := by decide +kernel
theorem dX7_behindWord_9 : decode cX7_behindWord 9 = .ok (.if_icmp .ge 20, 3) := by decide +kernel
theorem dX7_behindWord_12 : decode cX7_behindWord 12 = .ok (.aload_n 0, 1) := by decide +kernel
theorem dX7_behindWord_13 : decode cX7_behindWord 13 = .ok (.iload_n 2, 1) := by decide +kernel
theorem dX7_behindWord_14 : decode cX7_behindWord 14 = .ok (.invokevirtual 99, 3) := by decide +kernel
theorem dX7_behindWord_17 : decode cX7_behindWord 17 = .ok (.invokestatic 105, 3) := by decide +kernel
theorem dX7_behindWord_20 : decode cX7_behindWord 20 = .ok (.ifCond .eq 9, 3) := by decide +kernel
theorem dX7_behindWord_23 : decode cX7_behindWord 23 = .ok (.iinc 2 1, 3) := by decide +kernel
theorem dX7_behindWord_26 : decode cX7_behindWord 26 = .ok (.goto (-22), 3) := by decide +kernel
theorem dX7_behindWord_29 : decode cX7_behindWord 29 = .ok (.iload_n 2, 1) := by decide +kernel
theorem dX7_behindWord_30 : decode cX7_behindWord 30 = .ok (.ireturn, 1) := by decide +kernel
theorem dX7_takeWord_0 : decode cX7_takeWord 0 = .ok (.aload_n 0, 1) := by decide +kernel
theorem dX7_takeWord_1 : decode cX7_takeWord 1 = .ok (.iload_n 1, 1) := by decide +kernel
theorem dX7_takeWord_2 : decode cX7_takeWord 2 = .ok (.invokevirtual 99, 3) := by decide +kernel
theorem dX7_takeWord_5 : decode cX7_takeWord 5 = .ok (.istore_n 3, 1) := by decide +kernel
theorem dX7_takeWord_6 : decode cX7_takeWord 6 = .ok (.iload_n 2, 1) := by decide +kernel
theorem dX7_takeWord_7 : decode cX7_takeWord 7 = .ok (.iload_n 1, 1) := by decide +kernel
theorem dX7_takeWord_8 : decode cX7_takeWord 8 = .ok (.isub, 1) := by decide +kernel
theorem dX7_takeWord_9 : decode cX7_takeWord 9 = .ok (.iconst 1, 1) := by decide +kernel
theorem dX7_takeWord_10 : decode cX7_takeWord 10 = .ok (.if_icmp .le 13, 3) := by decide +kernel
theorem dX7_takeWord_13 : decode cX7_takeWord 13 = .ok (.aload_n 0, 1) := by decide +kernel
theorem dX7_takeWord_14 : decode cX7_takeWord 14 = .ok (.iload_n 1, 1) := by decide +kernel
theorem dX7_takeWord_15 : decode cX7_takeWord 15 = .ok (.iconst 1, 1) := by decide +kernel
theorem dX7_takeWord_16 : decode cX7_takeWord 16 = .ok (.iadd, 1) := by decide +kernel
theorem dX7_takeWord_17 : decode cX7_takeWord 17 = .ok (.invokevirtual 99, 3) := by decide +kernel
theorem dX7_takeWord_20 : decode cX7_takeWord 20 = .ok (.goto 4, 3) := by decide +kernel
theorem dX7_takeWord_23 : decode cX7_takeWord 23 = .ok (.iconst 0, 1) := by decide +kernel
theorem dX7_takeWord_24 : decode cX7_takeWord 24 = .ok (.istore 4, 2) := by decide +kernel
theorem dX7_takeWord_26 : decode cX7_takeWord 26 = .ok (.iload_n 3, 1) := by decide +kernel
theorem dX7_takeWord_27 : decode cX7_takeWord 27 = .ok (.invokestatic 128, 3) := by decide +kernel
theorem dX7_takeWord_30 : decode cX7_takeWord 30 = .ok (.ifCond .ne 17, 3) := by decide +kernel
theorem dX7_takeWord_33 : decode cX7_takeWord 33 = .ok (.iload_n 3, 1) := by decide +kernel
theorem dX7_takeWord_34 : decode cX7_takeWord 34 = .ok (.bipush 45, 2) := by decide +kernel
theorem dX7_takeWord_36 : decode cX7_takeWord 36 = .ok (.if_icmp .ne 20, 3) := by decide +kernel
theorem dX7_takeWord_39 : decode cX7_takeWord 39 = .ok (.iload 4, 2) := by decide +kernel
theorem dX7_takeWord_41 : decode cX7_takeWord 41 = .ok (.invokestatic 128, 3) := by decide +kernel
theorem dX7_takeWord_44 : decode cX7_takeWord 44 = .ok (.ifCond .eq 12, 3) := by decide +kernel
theorem dX7_takeWord_47 : decode cX7_takeWord 47 = .ok (.aload_n 0, 1) := by decide +kernel
theorem dX7_takeWord_48 : decode cX7_takeWord 48 = .ok (.iload_n 1, 1) := by decide +kernel
theorem dX7_takeWord_49 : decode cX7_takeWord 49 = .ok (.iload_n 2, 1) := by decide +kernel
theorem dX7_takeWord_50 : decode cX7_takeWord 50 = .ok (.invokevirtual 138, 3) := by decide +kernel
theorem dX7_takeWord_53 : decode cX7_takeWord 53 = .ok (.goto 50, 3) := by decide +kernel
theorem dX7_takeWord_56 : decode cX7_takeWord 56 = .ok (.iload_n 3, 1) := by decide +kernel
theorem dX7_takeWord_57 : decode cX7_takeWord 57 = .ok (.bipush 35, 2) := by decide +kernel
theorem dX7_takeWord_59 : decode cX7_takeWord 59 = .ok (.if_icmp .ne 12, 3) := by decide +kernel
theorem dX7_takeWord_62 : decode cX7_takeWord 62 = .ok (.aload_n 0, 1) := by decide +kernel
theorem dX7_takeWord_63 : decode cX7_takeWord 63 = .ok (.iload_n 1, 1) := by decide +kernel
theorem dX7_takeWord_64 : decode cX7_takeWord 64 = .ok (.iload_n 2, 1) := by decide +kernel
theorem dX7_takeWord_65 : decode cX7_takeWord 65 = .ok (.invokevirtual 141, 3) := by decide +kernel
theorem dX7_takeWord_68 : decode cX7_takeWord 68 = .ok (.goto 35, 3) := by decide +kernel
theorem dX7_takeWord_71 : decode cX7_takeWord 71 = .ok (.iload_n 2, 1) := by decide +kernel
theorem dX7_takeWord_72 : decode cX7_takeWord 72 = .ok (.iload_n 1, 1) := by decide +kernel
theorem dX7_takeWord_73 : decode cX7_takeWord 73 = .ok (.isub, 1) := by decide +kernel
theorem dX7_takeWord_74 : decode cX7_takeWord 74 = .ok (.bipush 12, 2) := by decide +kernel
theorem dX7_takeWord_76 : decode cX7_takeWord 76 = .ok (.if_icmp .le 15, 3) := by decide +kernel
theorem dX7_takeWord_79 : decode cX7_takeWord 79 = .ok (.aload_n 0, 1) := by decide +kernel
theorem dX7_takeWord_80 : decode cX7_takeWord 80 = .ok (.getfield 44, 3) := by decide +kernel
theorem dX7_takeWord_83 : decode cX7_takeWord 83 = .ok (.iconst 1, 1) := by decide +kernel
theorem dX7_takeWord_84 : decode cX7_takeWord 84 = .ok (.iload_n 1, 1) := by decide +kernel
theorem dX7_takeWord_85 : decode cX7_takeWord 85 = .ok (.invokevirtual 86, 3) := by decide +kernel
theorem dX7_takeWord_88 : decode cX7_takeWord 88 = .ok (.goto 15, 3) := by decide +kernel
theorem dX7_takeWord_91 : decode cX7_takeWord 91 = .ok (.aload_n 0, 1) := by decide +kernel
theorem dX7_takeWord_92 : decode cX7_takeWord 92 = .ok (.iconst 5, 1) := by decide +kernel
theorem dX7_takeWord_93 : decode cX7_takeWord 93 = .ok (.aload_n 0, 1) := by decide +kernel
theorem dX7_takeWord_94 : decode cX7_takeWord 94 = .ok (.iload_n 1, 1) := by decide +kernel
theorem dX7_takeWord_95 : decode cX7_takeWord 95 = .ok (.iload_n 2, 1) := by decide +kernel
theorem dX7_takeWord_96 : decode cX7_takeWord 96 = .ok (.invokevirtual 144, 3) := by decide +kernel
theorem dX7_takeWord_99 : decode cX7_takeWord 99 = .ok (.iload_n 1, 1) := by decide +kernel
theorem dX7_takeWord_100 : decode cX7_takeWord 100 = .ok (.invokevirtual 147, 3) := by decide +kernel
theorem dX7_takeWord_103 : decode cX7_takeWord 103 = .ok (.return_, 1) := by decide +kernel
theorem dX7_takeInteger_0 : decode cX7_takeInteger 0 = .ok (.aload_n 0, 1) := by decide +kernel
theorem dX7_takeInteger_1 : decode cX7_takeInteger 1 = .ok (.iload_n 1, 1) := by decide +kernel
theorem dX7_takeInteger_2 : decode cX7_takeInteger 2 = .ok (.invokevirtual 99, 3) := by decide +kernel
theorem dX7_takeInteger_5 : decode cX7_takeInteger 5 = .ok (.bipush 45, 2) := by decide +kernel
theorem dX7_takeInteger_7 : decode cX7_takeInteger 7 = .ok (.if_icmp .ne 7, 3) := by decide +kernel
theorem dX7_takeInteger_10 : decode cX7_takeInteger 10 = .ok (.iconst 1, 1) := by decide +kernel
theorem dX7_takeInteger_11 : decode cX7_takeInteger 11 = .ok (.goto 4, 3) := by decide +kernel
theorem dX7_takeInteger_14 : decode cX7_takeInteger 14 = .ok (.iconst 0, 1) := by decide +kernel
theorem dX7_takeInteger_15 : decode cX7_takeInteger 15 = .ok (.istore_n 3, 1) := by decide +kernel
theorem dX7_takeInteger_16 : decode cX7_takeInteger 16 = .ok (.lconst 0, 1) := by decide +kernel
theorem dX7_takeInteger_17 : decode cX7_takeInteger 17 = .ok (.lstore 4, 2) := by decide +kernel
theorem dX7_takeInteger_19 : decode cX7_takeInteger 19 = .ok (.iload_n 3, 1) := by decide +kernel
theorem dX7_takeInteger_20 : decode cX7_takeInteger 20 = .ok (.ifCond .eq 9, 3) := by decide +kernel
theorem dX7_takeInteger_23 : decode cX7_takeInteger 23 = .ok (.iload_n 1, 1) := by decide +kernel
theorem dX7_takeInteger_24 : decode cX7_takeInteger 24 = .ok (.iconst 1, 1) := by decide +kernel
theorem dX7_takeInteger_25 : decode cX7_takeInteger 25 = .ok (.iadd, 1) := by decide +kernel
theorem dX7_takeInteger_26 : decode cX7_takeInteger 26 = .ok (.goto 4, 3) := by decide +kernel
theorem dX7_takeInteger_29 : decode cX7_takeInteger 29 = .ok (.iload_n 1, 1) := by decide +kernel
theorem dX7_takeInteger_30 : decode cX7_takeInteger 30 = .ok (.istore 6, 2) := by decide +kernel
theorem dX7_takeInteger_32 : decode cX7_takeInteger 32 = .ok (.iload 6, 2) := by decide +kernel
theorem dX7_takeInteger_34 : decode cX7_takeInteger 34 = .ok (.iload_n 2, 1) := by decide +kernel
theorem dX7_takeInteger_35 : decode cX7_takeInteger 35 = .ok (.if_icmp .ge 56, 3) := by decide +kernel
theorem dX7_takeInteger_38 : decode cX7_takeInteger 38 = .ok (.aload_n 0, 1) := by decide +kernel
theorem dX7_takeInteger_39 : decode cX7_takeInteger 39 = .ok (.iload 6, 2) := by decide +kernel
theorem dX7_takeInteger_41 : decode cX7_takeInteger 41 = .ok (.invokevirtual 99, 3) := by decide +kernel
theorem dX7_takeInteger_44 : decode cX7_takeInteger 44 = .ok (.istore 7, 2) := by decide +kernel
theorem dX7_takeInteger_46 : decode cX7_takeInteger 46 = .ok (.iload 7, 2) := by decide +kernel
theorem dX7_takeInteger_48 : decode cX7_takeInteger 48 = .ok (.invokestatic 128, 3) := by decide +kernel
theorem dX7_takeInteger_51 : decode cX7_takeInteger 51 = .ok (.ifCond .ne 13, 3) := by decide +kernel
theorem dX7_takeInteger_54 : decode cX7_takeInteger 54 = .ok (.aload_n 0, 1) := by decide +kernel
theorem dX7_takeInteger_55 : decode cX7_takeInteger 55 = .ok (.getfield 44, 3) := by decide +kernel
theorem dX7_takeInteger_58 : decode cX7_takeInteger 58 = .ok (.iconst 1, 1) := by decide +kernel
theorem dX7_takeInteger_59 : decode cX7_takeInteger 59 = .ok (.iload_n 1, 1) := by decide +kernel
theorem dX7_takeInteger_60 : decode cX7_takeInteger 60 = .ok (.invokevirtual 86, 3) := by decide +kernel
theorem dX7_takeInteger_63 : decode cX7_takeInteger 63 = .ok (.return_, 1) := by decide +kernel
theorem dX7_takeInteger_64 : decode cX7_takeInteger 64 = .ok (.lload 4, 2) := by decide +kernel
theorem dX7_takeInteger_66 : decode cX7_takeInteger 66 = .ok (.ldc2_w 151, 3) := by decide +kernel
theorem dX7_takeInteger_69 : decode cX7_takeInteger 69 = .ok (.lmul, 1) := by decide +kernel
theorem dX7_takeInteger_70 : decode cX7_takeInteger 70 = .ok (.iload 7, 2) := by decide +kernel
theorem dX7_takeInteger_72 : decode cX7_takeInteger 72 = .ok (.bipush 48, 2) := by decide +kernel
theorem dX7_takeInteger_74 : decode cX7_takeInteger 74 = .ok (.isub, 1) := by decide +kernel
theorem dX7_takeInteger_75 : decode cX7_takeInteger 75 = .ok (.i2l, 1) := by decide +kernel
theorem dX7_takeInteger_76 : decode cX7_takeInteger 76 = .ok (.ladd, 1) := by decide +kernel
theorem dX7_takeInteger_77 : decode cX7_takeInteger 77 = .ok (.ldc2_w 153, 3) := by decide +kernel
theorem dX7_takeInteger_80 : decode cX7_takeInteger 80 = .ok (.invokestatic 155, 3) := by decide +kernel
theorem dX7_takeInteger_83 : decode cX7_takeInteger 83 = .ok (.lstore 4, 2) := by decide +kernel
theorem dX7_takeInteger_85 : decode cX7_takeInteger 85 = .ok (.iinc 6 1, 3) := by decide +kernel
theorem dX7_takeInteger_88 : decode cX7_takeInteger 88 = .ok (.goto (-56), 3) := by decide +kernel
theorem dX7_takeInteger_91 : decode cX7_takeInteger 91 = .ok (.lload 4, 2) := by decide +kernel
theorem dX7_takeInteger_93 : decode cX7_takeInteger 93 = .ok (.iload_n 3, 1) := by decide +kernel
theorem dX7_takeInteger_94 : decode cX7_takeInteger 94 = .ok (.ifCond .eq 9, 3) := by decide +kernel
theorem dX7_takeInteger_97 : decode cX7_takeInteger 97 = .ok (.ldc2_w 158, 3) := by decide +kernel
theorem dX7_takeInteger_100 : decode cX7_takeInteger 100 = .ok (.goto 6, 3) := by decide +kernel
theorem dX7_takeInteger_103 : decode cX7_takeInteger 103 = .ok (.ldc2_w 160, 3) := by decide +kernel
theorem dX7_takeInteger_106 : decode cX7_takeInteger 106 = .ok (.lcmp, 1) := by decide +kernel
theorem dX7_takeInteger_107 : decode cX7_takeInteger 107 = .ok (.ifCond .le 13, 3) := by decide +kernel
theorem dX7_takeInteger_110 : decode cX7_takeInteger 110 = .ok (.aload_n 0, 1) := by decide +kernel
theorem dX7_takeInteger_111 : decode cX7_takeInteger 111 = .ok (.getfield 44, 3) := by decide +kernel
theorem dX7_takeInteger_114 : decode cX7_takeInteger 114 = .ok (.iconst 1, 1) := by decide +kernel
theorem dX7_takeInteger_115 : decode cX7_takeInteger 115 = .ok (.iload_n 1, 1) := by decide +kernel
theorem dX7_takeInteger_116 : decode cX7_takeInteger 116 = .ok (.invokevirtual 86, 3) := by decide +kernel
theorem dX7_takeInteger_119 : decode cX7_takeInteger 119 = .ok (.return_, 1) := by decide +kernel
theorem dX7_takeInteger_120 : decode cX7_takeInteger 120 = .ok (.aload_n 0, 1) := by decide +kernel
theorem dX7_takeInteger_121 : decode cX7_takeInteger 121 = .ok (.iconst 1, 1) := by decide +kernel
theorem dX7_takeInteger_122 : decode cX7_takeInteger 122 = .ok (.iload_n 3, 1) := by decide +kernel
theorem dX7_takeInteger_123 : decode cX7_takeInteger 123 = .ok (.ifCond .eq 9, 3) := by decide +kernel
theorem dX7_takeInteger_126 : decode cX7_takeInteger 126 = .ok (.lload 4, 2) := by decide +kernel
theorem dX7_takeInteger_128 : decode cX7_takeInteger 128 = .ok (.lneg, 1) := by decide +kernel
theorem dX7_takeInteger_129 : decode cX7_takeInteger 129 = .ok (.goto 5, 3) := by decide +kernel
theorem dX7_takeInteger_132 : decode cX7_takeInteger 132 = .ok (.lload 4, 2) := by decide +kernel
theorem dX7_takeInteger_134 : decode cX7_takeInteger 134 = .ok (.l2i, 1) := by decide +kernel
theorem dX7_takeInteger_135 : decode cX7_takeInteger 135 = .ok (.iload_n 1, 1) := by decide +kernel
theorem dX7_takeInteger_136 : decode cX7_takeInteger 136 = .ok (.invokevirtual 147, 3) := by decide +kernel
theorem dX7_takeInteger_139 : decode cX7_takeInteger 139 = .ok (.return_, 1) := by decide +kernel
theorem dX7_takeTruth_0 : decode cX7_takeTruth 0 = .ok (.aload_n 0, 1) := by decide +kernel
theorem dX7_takeTruth_1 : decode cX7_takeTruth 1 = .ok (.iload_n 1, 1) := by decide +kernel
theorem dX7_takeTruth_2 : decode cX7_takeTruth 2 = .ok (.iconst 1, 1) := by decide +kernel
theorem dX7_takeTruth_3 : decode cX7_takeTruth 3 = .ok (.iadd, 1) := by decide +kernel
theorem dX7_takeTruth_4 : decode cX7_takeTruth 4 = .ok (.invokevirtual 99, 3) := by decide +kernel
theorem dX7_takeTruth_7 : decode cX7_takeTruth 7 = .ok (.istore_n 3, 1) := by decide +kernel
theorem dX7_takeTruth_8 : decode cX7_takeTruth 8 = .ok (.iload_n 2, 1) := by decide +kernel
theorem dX7_takeTruth_9 : decode cX7_takeTruth 9 = .ok (.iload_n 1, 1) := by decide +kernel
theorem dX7_takeTruth_10 : decode cX7_takeTruth 10 = .ok (.isub, 1) := by decide +kernel
theorem dX7_takeTruth_11 : decode cX7_takeTruth 11 = .ok (.iconst 2, 1) := by decide +kernel
theorem dX7_takeTruth_12 : decode cX7_takeTruth 12 = .ok (.if_icmp .ne 35, 3) := by decide +kernel
theorem dX7_takeTruth_15 : decode cX7_takeTruth 15 = .ok (.iload_n 3, 1) := by decide +kernel
theorem dX7_takeTruth_16 : decode cX7_takeTruth 16 = .ok (.bipush 116, 2) := by decide +kernel
theorem dX7_takeTruth_18 : decode cX7_takeTruth 18 = .ok (.if_icmp .eq 9, 3) := by decide +kernel
theorem dX7_takeTruth_21 : decode cX7_takeTruth 21 = .ok (.iload_n 3, 1) := by decide +kernel
theorem dX7_takeTruth_22 : decode cX7_takeTruth 22 = .ok (.bipush 102, 2) := by decide +kernel
theorem dX7_takeTruth_24 : decode cX7_takeTruth 24 = .ok (.if_icmp .ne 23, 3) := by decide +kernel
theorem dX7_takeTruth_27 : decode cX7_takeTruth 27 = .ok (.aload_n 0, 1) := by decide +kernel
theorem dX7_takeTruth_28 : decode cX7_takeTruth 28 = .ok (.iload_n 3, 1) := by decide +kernel
theorem dX7_takeTruth_29 : decode cX7_takeTruth 29 = .ok (.bipush 116, 2) := by decide +kernel
theorem dX7_takeTruth_31 : decode cX7_takeTruth 31 = .ok (.if_icmp .ne 7, 3) := by decide +kernel
theorem dX7_takeTruth_34 : decode cX7_takeTruth 34 = .ok (.iconst 3, 1) := by decide +kernel
theorem dX7_takeTruth_35 : decode cX7_takeTruth 35 = .ok (.goto 4, 3) := by decide +kernel
theorem dX7_takeTruth_38 : decode cX7_takeTruth 38 = .ok (.iconst 2, 1) := by decide +kernel
theorem dX7_takeTruth_39 : decode cX7_takeTruth 39 = .ok (.iconst 0, 1) := by decide +kernel
theorem dX7_takeTruth_40 : decode cX7_takeTruth 40 = .ok (.iload_n 1, 1) := by decide +kernel
theorem dX7_takeTruth_41 : decode cX7_takeTruth 41 = .ok (.invokevirtual 147, 3) := by decide +kernel
theorem dX7_takeTruth_44 : decode cX7_takeTruth 44 = .ok (.goto 12, 3) := by decide +kernel
theorem dX7_takeTruth_47 : decode cX7_takeTruth 47 = .ok (.aload_n 0, 1) := by decide +kernel
theorem dX7_takeTruth_48 : decode cX7_takeTruth 48 = .ok (.getfield 44, 3) := by decide +kernel
theorem dX7_takeTruth_51 : decode cX7_takeTruth 51 = .ok (.iconst 1, 1) := by decide +kernel
theorem dX7_takeTruth_52 : decode cX7_takeTruth 52 = .ok (.iload_n 1, 1) := by decide +kernel
theorem dX7_takeTruth_53 : decode cX7_takeTruth 53 = .ok (.invokevirtual 86, 3) := by decide +kernel
theorem dX7_takeTruth_56 : decode cX7_takeTruth 56 = .ok (.return_, 1) := by decide +kernel
theorem dX7_nameFrom_0 : decode cX7_nameFrom 0 = .ok (.aload_n 0, 1) := by decide +kernel
theorem dX7_nameFrom_1 : decode cX7_nameFrom 1 = .ok (.getfield 12, 3) := by decide +kernel
theorem dX7_nameFrom_4 : decode cX7_nameFrom 4 = .ok (.invokevirtual 162, 3) := by decide +kernel
theorem dX7_nameFrom_7 : decode cX7_nameFrom 7 = .ok (.iload_n 1, 1) := by decide +kernel
theorem dX7_nameFrom_8 : decode cX7_nameFrom 8 = .ok (.istore_n 3, 1) := by decide +kernel
theorem dX7_nameFrom_9 : decode cX7_nameFrom 9 = .ok (.iload_n 3, 1) := by decide +kernel
theorem dX7_nameFrom_10 : decode cX7_nameFrom 10 = .ok (.iload_n 2, 1) := by decide +kernel
theorem dX7_nameFrom_11 : decode cX7_nameFrom 11 = .ok (.if_icmp .ge 21, 3) := by decide +kernel
theorem dX7_nameFrom_14 : decode cX7_nameFrom 14 = .ok (.aload_n 0, 1) := by decide +kernel
theorem dX7_nameFrom_15 : decode cX7_nameFrom 15 = .ok (.getfield 12, 3) := by decide +kernel
theorem dX7_nameFrom_18 : decode cX7_nameFrom 18 = .ok (.aload_n 0, 1) := by decide +kernel
theorem dX7_nameFrom_19 : decode cX7_nameFrom 19 = .ok (.iload_n 3, 1) := by decide +kernel
theorem dX7_nameFrom_20 : decode cX7_nameFrom 20 = .ok (.invokevirtual 99, 3) := by decide +kernel
theorem dX7_nameFrom_23 : decode cX7_nameFrom 23 = .ok (.invokevirtual 165, 3) := by decide +kernel
theorem dX7_nameFrom_26 : decode cX7_nameFrom 26 = .ok (.iinc 3 1, 3) := by decide +kernel
theorem dX7_nameFrom_29 : decode cX7_nameFrom 29 = .ok (.goto (-20), 3) := by decide +kernel
theorem dX7_nameFrom_32 : decode cX7_nameFrom 32 = .ok (.aload_n 0, 1) := by decide +kernel
theorem dX7_nameFrom_33 : decode cX7_nameFrom 33 = .ok (.getfield 12, 3) := by decide +kernel
theorem dX7_nameFrom_36 : decode cX7_nameFrom 36 = .ok (.invokevirtual 168, 3) := by decide +kernel
theorem dX7_nameFrom_39 : decode cX7_nameFrom 39 = .ok (.istore_n 3, 1) := by decide +kernel
theorem dX7_nameFrom_40 : decode cX7_nameFrom 40 = .ok (.aload_n 0, 1) := by decide +kernel
theorem dX7_nameFrom_41 : decode cX7_nameFrom 41 = .ok (.getfield 12, 3) := by decide +kernel
theorem dX7_nameFrom_44 : decode cX7_nameFrom 44 = .ok (.iload_n 3, 1) := by decide +kernel
theorem dX7_nameFrom_45 : decode cX7_nameFrom 45 = .ok (.invokevirtual 172, 3) := by decide +kernel
theorem dX7_nameFrom_48 : decode cX7_nameFrom 48 = .ok (.iload_n 3, 1) := by decide +kernel
theorem dX7_nameFrom_49 : decode cX7_nameFrom 49 = .ok (.ireturn, 1) := by decide +kernel
theorem dX7_takeDatum_0 : decode cX7_takeDatum 0 = .ok (.aload_n 0, 1) := by decide +kernel
theorem dX7_takeDatum_1 : decode cX7_takeDatum 1 = .ok (.aload_n 0, 1) := by decide +kernel
theorem dX7_takeDatum_2 : decode cX7_takeDatum 2 = .ok (.iload_n 1, 1) := by decide +kernel
theorem dX7_takeDatum_3 : decode cX7_takeDatum 3 = .ok (.iload_n 2, 1) := by decide +kernel
theorem dX7_takeDatum_4 : decode cX7_takeDatum 4 = .ok (.iload_n 3, 1) := by decide +kernel
theorem dX7_takeDatum_5 : decode cX7_takeDatum 5 = .ok (.invokevirtual 72, 3) := by decide +kernel
theorem dX7_takeDatum_8 : decode cX7_takeDatum 8 = .ok (.invokevirtual 175, 3) := by decide +kernel
theorem dX7_takeDatum_11 : decode cX7_takeDatum 11 = .ok (.aload_n 0, 1) := by decide +kernel
theorem dX7_takeDatum_12 : decode cX7_takeDatum 12 = .ok (.invokevirtual 125, 3) := by decide +kernel
theorem dX7_takeDatum_15 : decode cX7_takeDatum 15 = .ok (.return_, 1) := by decide +kernel
theorem dX7_openList_0 : decode cX7_openList 0 = .ok (.aload_n 0, 1) := by decide +kernel
theorem dX7_openList_1 : decode cX7_openList 1 = .ok (.getfield 69, 3) := by decide +kernel
theorem dX7_openList_4 : decode cX7_openList 4 = .ok (.bipush 30, 2) := by decide +kernel
theorem dX7_openList_6 : decode cX7_openList 6 = .ok (.if_icmp .lt 14, 3) := by decide +kernel
theorem dX7_openList_9 : decode cX7_openList 9 = .ok (.aload_n 0, 1) := by decide +kernel
theorem dX7_openList_10 : decode cX7_openList 10 = .ok (.getfield 44, 3) := by decide +kernel
theorem dX7_openList_13 : decode cX7_openList 13 = .ok (.iconst 2, 1) := by decide +kernel
theorem dX7_openList_14 : decode cX7_openList 14 = .ok (.iload_n 1, 1) := by decide +kernel
theorem dX7_openList_15 : decode cX7_openList 15 = .ok (.invokevirtual 86, 3) := by decide +kernel
theorem dX7_openList_18 : decode cX7_openList 18 = .ok (.iconst 0, 1) := by decide +kernel
theorem dX7_openList_19 : decode cX7_openList 19 = .ok (.ireturn, 1) := by decide +kernel
theorem dX7_openList_20 : decode cX7_openList 20 = .ok (.aload_n 0, 1) := by decide +kernel
theorem dX7_openList_21 : decode cX7_openList 21 = .ok (.bipush 6, 2) := by decide +kernel
theorem dX7_openList_23 : decode cX7_openList 23 = .ok (.iconst 0, 1) := by decide +kernel
theorem dX7_openList_24 : decode cX7_openList 24 = .ok (.iload_n 1, 1) := by decide +kernel
theorem dX7_openList_25 : decode cX7_openList 25 = .ok (.invokevirtual 72, 3) := by decide +kernel
theorem dX7_openList_28 : decode cX7_openList 28 = .ok (.istore_n 3, 1) := by decide +kernel
theorem dX7_openList_29 : decode cX7_openList 29 = .ok (.aload_n 0, 1) := by decide +kernel
theorem dX7_openList_30 : decode cX7_openList 30 = .ok (.iload_n 3, 1) := by decide +kernel
theorem dX7_openList_31 : decode cX7_openList 31 = .ok (.invokevirtual 175, 3) := by decide +kernel
theorem dX7_openList_34 : decode cX7_openList 34 = .ok (.aload_n 0, 1) := by decide +kernel
theorem dX7_openList_35 : decode cX7_openList 35 = .ok (.dup, 1) := by decide +kernel
theorem dX7_openList_36 : decode cX7_openList 36 = .ok (.getfield 69, 3) := by decide +kernel
theorem dX7_openList_39 : decode cX7_openList 39 = .ok (.iconst 1, 1) := by decide +kernel
theorem dX7_openList_40 : decode cX7_openList 40 = .ok (.iadd, 1) := by decide +kernel
theorem dX7_openList_41 : decode cX7_openList 41 = .ok (.putfield 69, 3) := by decide +kernel
theorem dX7_openList_44 : decode cX7_openList 44 = .ok (.aload_n 0, 1) := by decide +kernel
theorem dX7_openList_45 : decode cX7_openList 45 = .ok (.getfield 34, 3) := by decide +kernel
theorem dX7_openList_48 : decode cX7_openList 48 = .ok (.aload_n 0, 1) := by decide +kernel
theorem dX7_openList_49 : decode cX7_openList 49 = .ok (.getfield 69, 3) := by decide +kernel
theorem dX7_openList_52 : decode cX7_openList 52 = .ok (.iload_n 3, 1) := by decide +kernel
theorem dX7_openList_53 : decode cX7_openList 53 = .ok (.iastore, 1) := by decide +kernel
theorem dX7_openList_54 : decode cX7_openList 54 = .ok (.aload_n 0, 1) := by decide +kernel
theorem dX7_openList_55 : decode cX7_openList 55 = .ok (.getfield 37, 3) := by decide +kernel
theorem dX7_openList_58 : decode cX7_openList 58 = .ok (.aload_n 0, 1) := by decide +kernel
theorem dX7_openList_59 : decode cX7_openList 59 = .ok (.getfield 69, 3) := by decide +kernel
theorem dX7_openList_62 : decode cX7_openList 62 = .ok (.iconst (-1), 1) := by decide +kernel
theorem dX7_openList_63 : decode cX7_openList 63 = .ok (.iastore, 1) := by decide +kernel
theorem dX7_openList_64 : decode cX7_openList 64 = .ok (.aload_n 0, 1) := by decide +kernel
theorem dX7_openList_65 : decode cX7_openList 65 = .ok (.getfield 40, 3) := by decide +kernel
theorem dX7_openList_68 : decode cX7_openList 68 = .ok (.aload_n 0, 1) := by decide +kernel
theorem dX7_openList_69 : decode cX7_openList 69 = .ok (.getfield 69, 3) := by decide +kernel
theorem dX7_openList_72 : decode cX7_openList 72 = .ok (.iload_n 2, 1) := by decide +kernel
theorem dX7_openList_73 : decode cX7_openList 73 = .ok (.bastore, 1) := by decide +kernel
theorem dX7_openList_74 : decode cX7_openList 74 = .ok (.iconst 1, 1) := by decide +kernel
theorem dX7_openList_75 : decode cX7_openList 75 = .ok (.ireturn, 1) := by decide +kernel
theorem dX7_openQuote_0 : decode cX7_openQuote 0 = .ok (.aload_n 0, 1) := by decide +kernel
theorem dX7_openQuote_1 : decode cX7_openQuote 1 = .ok (.iload_n 1, 1) := by decide +kernel
theorem dX7_openQuote_2 : decode cX7_openQuote 2 = .ok (.iconst 1, 1) := by decide +kernel
theorem dX7_openQuote_3 : decode cX7_openQuote 3 = .ok (.invokevirtual 115, 3) := by decide +kernel
theorem dX7_openQuote_6 : decode cX7_openQuote 6 = .ok (.ifCond .eq 22, 3) := by decide +kernel
theorem dX7_openQuote_9 : decode cX7_openQuote 9 = .ok (.aload_n 0, 1) := by decide +kernel
theorem dX7_openQuote_10 : decode cX7_openQuote 10 = .ok (.getfield 12, 3) := by decide +kernel
theorem dX7_openQuote_13 : decode cX7_openQuote 13 = .ok (.iconst 0, 1) := by decide +kernel
theorem dX7_openQuote_14 : decode cX7_openQuote 14 = .ok (.invokevirtual 172, 3) := by decide +kernel
theorem dX7_openQuote_17 : decode cX7_openQuote 17 = .ok (.aload_n 0, 1) := by decide +kernel
theorem dX7_openQuote_18 : decode cX7_openQuote 18 = .ok (.aload_n 0, 1) := by decide +kernel
theorem dX7_openQuote_19 : decode cX7_openQuote 19 = .ok (.iconst 5, 1) := by decide +kernel
theorem dX7_openQuote_20 : decode cX7_openQuote 20 = .ok (.iconst 0, 1) := by decide +kernel
theorem dX7_openQuote_21 : decode cX7_openQuote 21 = .ok (.iload_n 1, 1) := by decide +kernel
theorem dX7_openQuote_22 : decode cX7_openQuote 22 = .ok (.invokevirtual 72, 3) := by decide +kernel
theorem dX7_openQuote_25 : decode cX7_openQuote 25 = .ok (.invokevirtual 175, 3) := by decide +kernel
theorem dX7_openQuote_28 : decode cX7_openQuote 28 = .ok (.return_, 1) := by decide +kernel
theorem dX7_closeQuotes_0 : decode cX7_closeQuotes 0 = .ok (.iconst 0, 1) := by decide +kernel
theorem dX7_closeQuotes_1 : decode cX7_closeQuotes 1 = .ok (.istore_n 1, 1) := by decide +kernel
theorem dX7_closeQuotes_2 : decode cX7_closeQuotes 2 = .ok (.iload_n 1, 1) := by decide +kernel
theorem dX7_closeQuotes_3 : decode cX7_closeQuotes 3 = .ok (.bipush 30, 2) := by decide +kernel
theorem dX7_closeQuotes_5 : decode cX7_closeQuotes 5 = .ok (.if_icmp .ge 26, 3) := by decide +kernel
theorem dX7_closeQuotes_8 : decode cX7_closeQuotes 8 = .ok (.aload_n 0, 1) := by decide +kernel
theorem dX7_closeQuotes_9 : decode cX7_closeQuotes 9 = .ok (.invokevirtual 122, 3) := by decide +kernel
theorem dX7_closeQuotes_12 : decode cX7_closeQuotes 12 = .ok (.ifCond .eq 19, 3) := by decide +kernel
theorem dX7_closeQuotes_15 : decode cX7_closeQuotes 15 = .ok (.aload_n 0, 1) := by decide +kernel
theorem dX7_closeQuotes_16 : decode cX7_closeQuotes 16 = .ok (.dup, 1) := by decide +kernel
theorem dX7_closeQuotes_17 : decode cX7_closeQuotes 17 = .ok (.getfield 69, 3) := by decide +kernel
theorem dX7_closeQuotes_20 : decode cX7_closeQuotes 20 = .ok (.iconst 1, 1) := by decide +kernel
theorem dX7_closeQuotes_21 : decode cX7_closeQuotes 21 = .ok (.isub, 1) := by decide +kernel
theorem dX7_closeQuotes_22 : decode cX7_closeQuotes 22 = .ok (.putfield 69, 3) := by decide +kernel
theorem dX7_closeQuotes_25 : decode cX7_closeQuotes 25 = .ok (.iinc 1 1, 3) := by decide +kernel
theorem dX7_closeQuotes_28 : decode cX7_closeQuotes 28 = .ok (.goto (-26), 3) := by decide +kernel
theorem dX7_closeQuotes_31 : decode cX7_closeQuotes 31 = .ok (.return_, 1) := by decide +kernel
theorem dX7_newNode_0 : decode cX7_newNode 0 = .ok (.aload_n 0, 1) := by decide +kernel
theorem dX7_newNode_1 : decode cX7_newNode 1 = .ok (.getfield 96, 3) := by decide +kernel
theorem dX7_newNode_4 : decode cX7_newNode 4 = .ok (.aload_n 0, 1) := by decide +kernel
theorem dX7_newNode_5 : decode cX7_newNode 5 = .ok (.getfield 18, 3) := by decide +kernel
theorem dX7_newNode_8 : decode cX7_newNode 8 = .ok (.arraylength, 1) := by decide +kernel
theorem dX7_newNode_9 : decode cX7_newNode 9 = .ok (.if_icmp .lt 5, 3) := by decide +kernel
theorem dX7_newNode_12 : decode cX7_newNode 12 = .ok (.iconst 0, 1) := by decide +kernel
theorem dX7_newNode_13 : decode cX7_newNode 13 = .ok (.ireturn, 1) := by decide +kernel
theorem dX7_newNode_14 : decode cX7_newNode 14 = .ok (.aload_n 0, 1) := by decide +kernel
theorem dX7_newNode_15 : decode cX7_newNode 15 = .ok (.getfield 18, 3) := by decide +kernel
theorem dX7_newNode_18 : decode cX7_newNode 18 = .ok (.aload_n 0, 1) := by decide +kernel
theorem dX7_newNode_19 : decode cX7_newNode 19 = .ok (.getfield 96, 3) := by decide +kernel
theorem dX7_newNode_22 : decode cX7_newNode 22 = .ok (.iload_n 1, 1) := by decide +kernel
theorem dX7_newNode_23 : decode cX7_newNode 23 = .ok (.iastore, 1) := by decide +kernel
theorem dX7_newNode_24 : decode cX7_newNode 24 = .ok (.aload_n 0, 1) := by decide +kernel
theorem dX7_newNode_25 : decode cX7_newNode 25 = .ok (.getfield 22, 3) := by decide +kernel
theorem dX7_newNode_28 : decode cX7_newNode 28 = .ok (.aload_n 0, 1) := by decide +kernel
theorem dX7_newNode_29 : decode cX7_newNode 29 = .ok (.getfield 96, 3) := by decide +kernel
theorem dX7_newNode_32 : decode cX7_newNode 32 = .ok (.iload_n 2, 1) := by decide +kernel
theorem dX7_newNode_33 : decode cX7_newNode 33 = .ok (.iastore, 1) := by decide +kernel
theorem dX7_newNode_34 : decode cX7_newNode 34 = .ok (.aload_n 0, 1) := by decide +kernel
theorem dX7_newNode_35 : decode cX7_newNode 35 = .ok (.getfield 25, 3) := by decide +kernel
theorem dX7_newNode_38 : decode cX7_newNode 38 = .ok (.aload_n 0, 1) := by decide +kernel
theorem dX7_newNode_39 : decode cX7_newNode 39 = .ok (.getfield 96, 3) := by decide +kernel
theorem dX7_newNode_42 : decode cX7_newNode 42 = .ok (.iload_n 3, 1) := by decide +kernel
theorem dX7_newNode_43 : decode cX7_newNode 43 = .ok (.iastore, 1) := by decide +kernel
theorem dX7_newNode_44 : decode cX7_newNode 44 = .ok (.aload_n 0, 1) := by decide +kernel
theorem dX7_newNode_45 : decode cX7_newNode 45 = .ok (.getfield 28, 3) := by decide +kernel
theorem dX7_newNode_48 : decode cX7_newNode 48 = .ok (.aload_n 0, 1) := by decide +kernel
theorem dX7_newNode_49 : decode cX7_newNode 49 = .ok (.getfield 96, 3) := by decide +kernel
theorem dX7_newNode_52 : decode cX7_newNode 52 = .ok (.iconst (-1), 1) := by decide +kernel
theorem dX7_newNode_53 : decode cX7_newNode 53 = .ok (.iastore, 1) := by decide +kernel
theorem dX7_newNode_54 : decode cX7_newNode 54 = .ok (.aload_n 0, 1) := by decide +kernel
theorem dX7_newNode_55 : decode cX7_newNode 55 = .ok (.getfield 31, 3) := by decide +kernel
theorem dX7_newNode_58 : decode cX7_newNode 58 = .ok (.aload_n 0, 1) := by decide +kernel
theorem dX7_newNode_59 : decode cX7_newNode 59 = .ok (.getfield 96, 3) := by decide +kernel
theorem dX7_newNode_62 : decode cX7_newNode 62 = .ok (.iconst (-1), 1) := by decide +kernel
theorem dX7_newNode_63 : decode cX7_newNode 63 = .ok (.iastore, 1) := by decide +kernel
theorem dX7_newNode_64 : decode cX7_newNode 64 = .ok (.aload_n 0, 1) := by decide +kernel
theorem dX7_newNode_65 : decode cX7_newNode 65 = .ok (.dup, 1) := by decide +kernel
theorem dX7_newNode_66 : decode cX7_newNode 66 = .ok (.getfield 96, 3) := by decide +kernel
theorem dX7_newNode_69 : decode cX7_newNode 69 = .ok (.iconst 1, 1) := by decide +kernel
theorem dX7_newNode_70 : decode cX7_newNode 70 = .ok (.iadd, 1) := by decide +kernel
theorem dX7_newNode_71 : decode cX7_newNode 71 = .ok (.putfield 96, 3) := by decide +kernel
theorem dX7_newNode_74 : decode cX7_newNode 74 = .ok (.aload_n 0, 1) := by decide +kernel
theorem dX7_newNode_75 : decode cX7_newNode 75 = .ok (.getfield 96, 3) := by decide +kernel
theorem dX7_newNode_78 : decode cX7_newNode 78 = .ok (.iconst 1, 1) := by decide +kernel
theorem dX7_newNode_79 : decode cX7_newNode 79 = .ok (.isub, 1) := by decide +kernel
theorem dX7_newNode_80 : decode cX7_newNode 80 = .ok (.ireturn, 1) := by decide +kernel
theorem dX7_addPart_0 : decode cX7_addPart 0 = .ok (.aload_n 0, 1) := by decide +kernel
theorem dX7_addPart_1 : decode cX7_addPart 1 = .ok (.getfield 69, 3) := by decide +kernel
theorem dX7_addPart_4 : decode cX7_addPart 4 = .ok (.ifCond .lt 24, 3) := by decide +kernel
theorem dX7_addPart_7 : decode cX7_addPart 7 = .ok (.aload_n 0, 1) := by decide +kernel
theorem dX7_addPart_8 : decode cX7_addPart 8 = .ok (.getfield 69, 3) := by decide +kernel
theorem dX7_addPart_11 : decode cX7_addPart 11 = .ok (.bipush 30, 2) := by decide +kernel
theorem dX7_addPart_13 : decode cX7_addPart 13 = .ok (.if_icmp .gt 15, 3) := by decide +kernel
theorem dX7_addPart_16 : decode cX7_addPart 16 = .ok (.aload_n 0, 1) := by decide +kernel
theorem dX7_addPart_17 : decode cX7_addPart 17 = .ok (.getfield 34, 3) := by decide +kernel
theorem dX7_addPart_20 : decode cX7_addPart 20 = .ok (.aload_n 0, 1) := by decide +kernel
theorem dX7_addPart_21 : decode cX7_addPart 21 = .ok (.getfield 69, 3) := by decide +kernel
theorem dX7_addPart_24 : decode cX7_addPart 24 = .ok (.iaload, 1) := by decide +kernel
theorem dX7_addPart_25 : decode cX7_addPart 25 = .ok (.goto 4, 3) := by decide +kernel
theorem dX7_addPart_28 : decode cX7_addPart 28 = .ok (.iconst (-1), 1) := by decide +kernel
theorem dX7_addPart_29 : decode cX7_addPart 29 = .ok (.istore_n 2, 1) := by decide +kernel
theorem dX7_addPart_30 : decode cX7_addPart 30 = .ok (.iload_n 2, 1) := by decide +kernel
theorem dX7_addPart_31 : decode cX7_addPart 31 = .ok (.ifCond .lt 11, 3) := by decide +kernel
theorem dX7_addPart_34 : decode cX7_addPart 34 = .ok (.iload_n 2, 1) := by decide +kernel
theorem dX7_addPart_35 : decode cX7_addPart 35 = .ok (.aload_n 0, 1) := by decide +kernel
theorem dX7_addPart_36 : decode cX7_addPart 36 = .ok (.getfield 96, 3) := by decide +kernel
theorem dX7_addPart_39 : decode cX7_addPart 39 = .ok (.if_icmp .lt 4, 3) := by decide +kernel
theorem dX7_addPart_42 : decode cX7_addPart 42 = .ok (.return_, 1) := by decide +kernel
theorem dX7_addPart_43 : decode cX7_addPart 43 = .ok (.aload_n 0, 1) := by decide +kernel
theorem dX7_addPart_44 : decode cX7_addPart 44 = .ok (.getfield 37, 3) := by decide +kernel
theorem dX7_addPart_47 : decode cX7_addPart 47 = .ok (.aload_n 0, 1) := by decide +kernel
theorem dX7_addPart_48 : decode cX7_addPart 48 = .ok (.getfield 69, 3) := by decide +kernel
theorem dX7_addPart_51 : decode cX7_addPart 51 = .ok (.iaload, 1) := by decide +kernel
theorem dX7_addPart_52 : decode cX7_addPart 52 = .ok (.istore_n 3, 1) := by decide +kernel
theorem dX7_addPart_53 : decode cX7_addPart 53 = .ok (.iload_n 3, 1) := by decide +kernel
theorem dX7_addPart_54 : decode cX7_addPart 54 = .ok (.ifCond .lt 21, 3) := by decide +kernel
theorem dX7_addPart_57 : decode cX7_addPart 57 = .ok (.iload_n 3, 1) := by decide +kernel
theorem dX7_addPart_58 : decode cX7_addPart 58 = .ok (.aload_n 0, 1) := by decide +kernel
theorem dX7_addPart_59 : decode cX7_addPart 59 = .ok (.getfield 96, 3) := by decide +kernel
theorem dX7_addPart_62 : decode cX7_addPart 62 = .ok (.if_icmp .ge 13, 3) := by decide +kernel
theorem dX7_addPart_65 : decode cX7_addPart 65 = .ok (.aload_n 0, 1) := by decide +kernel
theorem dX7_addPart_66 : decode cX7_addPart 66 = .ok (.getfield 31, 3) := by decide +kernel
theorem dX7_addPart_69 : decode cX7_addPart 69 = .ok (.iload_n 3, 1) := by decide +kernel
theorem dX7_addPart_70 : decode cX7_addPart 70 = .ok (.iload_n 1, 1) := by decide +kernel
theorem dX7_addPart_71 : decode cX7_addPart 71 = .ok (.iastore, 1) := by decide +kernel
theorem dX7_addPart_72 : decode cX7_addPart 72 = .ok (.goto 10, 3) := by decide +kernel
theorem dX7_addPart_75 : decode cX7_addPart 75 = .ok (.aload_n 0, 1) := by decide +kernel
theorem dX7_addPart_76 : decode cX7_addPart 76 = .ok (.getfield 28, 3) := by decide +kernel
theorem dX7_addPart_79 : decode cX7_addPart 79 = .ok (.iload_n 2, 1) := by decide +kernel
theorem dX7_addPart_80 : decode cX7_addPart 80 = .ok (.iload_n 1, 1) := by decide +kernel
theorem dX7_addPart_81 : decode cX7_addPart 81 = .ok (.iastore, 1) := by decide +kernel
theorem dX7_addPart_82 : decode cX7_addPart 82 = .ok (.aload_n 0, 1) := by decide +kernel
theorem dX7_addPart_83 : decode cX7_addPart 83 = .ok (.getfield 37, 3) := by decide +kernel
theorem dX7_addPart_86 : decode cX7_addPart 86 = .ok (.aload_n 0, 1) := by decide +kernel
theorem dX7_addPart_87 : decode cX7_addPart 87 = .ok (.getfield 69, 3) := by decide +kernel
theorem dX7_addPart_90 : decode cX7_addPart 90 = .ok (.iload_n 1, 1) := by decide +kernel
theorem dX7_addPart_91 : decode cX7_addPart 91 = .ok (.iastore, 1) := by decide +kernel
theorem dX7_addPart_92 : decode cX7_addPart 92 = .ok (.aload_n 0, 1) := by decide +kernel
theorem dX7_addPart_93 : decode cX7_addPart 93 = .ok (.getfield 22, 3) := by decide +kernel
theorem dX7_addPart_96 : decode cX7_addPart 96 = .ok (.iload_n 2, 1) := by decide +kernel
theorem dX7_addPart_97 : decode cX7_addPart 97 = .ok (.dup2, 1) := by decide +kernel
theorem dX7_addPart_98 : decode cX7_addPart 98 = .ok (.iaload, 1) := by decide +kernel
theorem dX7_addPart_99 : decode cX7_addPart 99 = .ok (.iconst 1, 1) := by decide +kernel
theorem dX7_addPart_100 : decode cX7_addPart 100 = .ok (.iadd, 1) := by decide +kernel
theorem dX7_addPart_101 : decode cX7_addPart 101 = .ok (.iastore, 1) := by decide +kernel
theorem dX7_addPart_102 : decode cX7_addPart 102 = .ok (.return_, 1) := by decide +kernel
theorem dX7_size_0 : decode cX7_size 0 = .ok (.aload_n 0, 1) := by decide +kernel
theorem dX7_size_1 : decode cX7_size 1 = .ok (.getfield 96, 3) := by decide +kernel
theorem dX7_size_4 : decode cX7_size 4 = .ok (.ireturn, 1) := by decide +kernel
theorem dX7_kindOf_0 : decode cX7_kindOf 0 = .ok (.iload_n 1, 1) := by decide +kernel
theorem dX7_kindOf_1 : decode cX7_kindOf 1 = .ok (.ifCond .lt 20, 3) := by decide +kernel
theorem dX7_kindOf_4 : decode cX7_kindOf 4 = .ok (.iload_n 1, 1) := by decide +kernel
theorem dX7_kindOf_5 : decode cX7_kindOf 5 = .ok (.aload_n 0, 1) := by decide +kernel
theorem dX7_kindOf_6 : decode cX7_kindOf 6 = .ok (.getfield 96, 3) := by decide +kernel
theorem dX7_kindOf_9 : decode cX7_kindOf 9 = .ok (.if_icmp .ge 12, 3) := by decide +kernel
theorem dX7_kindOf_12 : decode cX7_kindOf 12 = .ok (.aload_n 0, 1) := by decide +kernel
theorem dX7_kindOf_13 : decode cX7_kindOf 13 = .ok (.getfield 18, 3) := by decide +kernel
theorem dX7_kindOf_16 : decode cX7_kindOf 16 = .ok (.iload_n 1, 1) := by decide +kernel
theorem dX7_kindOf_17 : decode cX7_kindOf 17 = .ok (.iaload, 1) := by decide +kernel
theorem dX7_kindOf_18 : decode cX7_kindOf 18 = .ok (.goto 4, 3) := by decide +kernel
theorem dX7_kindOf_21 : decode cX7_kindOf 21 = .ok (.iconst 0, 1) := by decide +kernel
theorem dX7_kindOf_22 : decode cX7_kindOf 22 = .ok (.ireturn, 1) := by decide +kernel
theorem dX7_contentOf_0 : decode cX7_contentOf 0 = .ok (.iload_n 1, 1) := by decide +kernel
theorem dX7_contentOf_1 : decode cX7_contentOf 1 = .ok (.ifCond .lt 20, 3) := by decide +kernel
theorem dX7_contentOf_4 : decode cX7_contentOf 4 = .ok (.iload_n 1, 1) := by decide +kernel
theorem dX7_contentOf_5 : decode cX7_contentOf 5 = .ok (.aload_n 0, 1) := by decide +kernel
theorem dX7_contentOf_6 : decode cX7_contentOf 6 = .ok (.getfield 96, 3) := by decide +kernel
theorem dX7_contentOf_9 : decode cX7_contentOf 9 = .ok (.if_icmp .ge 12, 3) := by decide +kernel
theorem dX7_contentOf_12 : decode cX7_contentOf 12 = .ok (.aload_n 0, 1) := by decide +kernel
theorem dX7_contentOf_13 : decode cX7_contentOf 13 = .ok (.getfield 22, 3) := by decide +kernel
theorem dX7_contentOf_16 : decode cX7_contentOf 16 = .ok (.iload_n 1, 1) := by decide +kernel
theorem dX7_contentOf_17 : decode cX7_contentOf 17 = .ok (.iaload, 1) := by decide +kernel
theorem dX7_contentOf_18 : decode cX7_contentOf 18 = .ok (.goto 4, 3) := by decide +kernel
theorem dX7_contentOf_21 : decode cX7_contentOf 21 = .ok (.iconst 0, 1) := by decide +kernel
theorem dX7_contentOf_22 : decode cX7_contentOf 22 = .ok (.ireturn, 1) := by decide +kernel
theorem dX7_placeOf_0 : decode cX7_placeOf 0 = .ok (.iload_n 1, 1) := by decide +kernel
theorem dX7_placeOf_1 : decode cX7_placeOf 1 = .ok (.ifCond .lt 20, 3) := by decide +kernel
theorem dX7_placeOf_4 : decode cX7_placeOf 4 = .ok (.iload_n 1, 1) := by decide +kernel
theorem dX7_placeOf_5 : decode cX7_placeOf 5 = .ok (.aload_n 0, 1) := by decide +kernel
theorem dX7_placeOf_6 : decode cX7_placeOf 6 = .ok (.getfield 96, 3) := by decide +kernel
theorem dX7_placeOf_9 : decode cX7_placeOf 9 = .ok (.if_icmp .ge 12, 3) := by decide +kernel
theorem dX7_placeOf_12 : decode cX7_placeOf 12 = .ok (.aload_n 0, 1) := by decide +kernel
theorem dX7_placeOf_13 : decode cX7_placeOf 13 = .ok (.getfield 25, 3) := by decide +kernel
theorem dX7_placeOf_16 : decode cX7_placeOf 16 = .ok (.iload_n 1, 1) := by decide +kernel
theorem dX7_placeOf_17 : decode cX7_placeOf 17 = .ok (.iaload, 1) := by decide +kernel
theorem dX7_placeOf_18 : decode cX7_placeOf 18 = .ok (.goto 4, 3) := by decide +kernel
theorem dX7_placeOf_21 : decode cX7_placeOf 21 = .ok (.iconst 0, 1) := by decide +kernel
theorem dX7_placeOf_22 : decode cX7_placeOf 22 = .ok (.ireturn, 1) := by decide +kernel
theorem dX7_firstOf_0 : decode cX7_firstOf 0 = .ok (.iload_n 1, 1) := by decide +kernel
theorem dX7_firstOf_1 : decode cX7_firstOf 1 = .ok (.ifCond .lt 20, 3) := by decide +kernel
theorem dX7_firstOf_4 : decode cX7_firstOf 4 = .ok (.iload_n 1, 1) := by decide +kernel
theorem dX7_firstOf_5 : decode cX7_firstOf 5 = .ok (.aload_n 0, 1) := by decide +kernel
theorem dX7_firstOf_6 : decode cX7_firstOf 6 = .ok (.getfield 96, 3) := by decide +kernel
theorem dX7_firstOf_9 : decode cX7_firstOf 9 = .ok (.if_icmp .ge 12, 3) := by decide +kernel
theorem dX7_firstOf_12 : decode cX7_firstOf 12 = .ok (.aload_n 0, 1) := by decide +kernel
theorem dX7_firstOf_13 : decode cX7_firstOf 13 = .ok (.getfield 28, 3) := by decide +kernel
theorem dX7_firstOf_16 : decode cX7_firstOf 16 = .ok (.iload_n 1, 1) := by decide +kernel
theorem dX7_firstOf_17 : decode cX7_firstOf 17 = .ok (.iaload, 1) := by decide +kernel
theorem dX7_firstOf_18 : decode cX7_firstOf 18 = .ok (.goto 4, 3) := by decide +kernel
theorem dX7_firstOf_21 : decode cX7_firstOf 21 = .ok (.iconst (-1), 1) := by decide +kernel
theorem dX7_firstOf_22 : decode cX7_firstOf 22 = .ok (.ireturn, 1) := by decide +kernel
theorem dX7_nextOf_0 : decode cX7_nextOf 0 = .ok (.iload_n 1, 1) := by decide +kernel
theorem dX7_nextOf_1 : decode cX7_nextOf 1 = .ok (.ifCond .lt 20, 3) := by decide +kernel
theorem dX7_nextOf_4 : decode cX7_nextOf 4 = .ok (.iload_n 1, 1) := by decide +kernel
theorem dX7_nextOf_5 : decode cX7_nextOf 5 = .ok (.aload_n 0, 1) := by decide +kernel
theorem dX7_nextOf_6 : decode cX7_nextOf 6 = .ok (.getfield 96, 3) := by decide +kernel
theorem dX7_nextOf_9 : decode cX7_nextOf 9 = .ok (.if_icmp .ge 12, 3) := by decide +kernel
theorem dX7_nextOf_12 : decode cX7_nextOf 12 = .ok (.aload_n 0, 1) := by decide +kernel
theorem dX7_nextOf_13 : decode cX7_nextOf 13 = .ok (.getfield 31, 3) := by decide +kernel
theorem dX7_nextOf_16 : decode cX7_nextOf 16 = .ok (.iload_n 1, 1) := by decide +kernel
theorem dX7_nextOf_17 : decode cX7_nextOf 17 = .ok (.iaload, 1) := by decide +kernel
theorem dX7_nextOf_18 : decode cX7_nextOf 18 = .ok (.goto 4, 3) := by decide +kernel
theorem dX7_nextOf_21 : decode cX7_nextOf 21 = .ok (.iconst (-1), 1) := by decide +kernel
theorem dX7_nextOf_22 : decode cX7_nextOf 22 = .ok (.ireturn, 1) := by decide +kernel
theorem dX7_secondOf_0 : decode cX7_secondOf 0 = .ok (.aload_n 0, 1) := by decide +kernel
theorem dX7_secondOf_1 : decode cX7_secondOf 1 = .ok (.aload_n 0, 1) := by decide +kernel
theorem dX7_secondOf_2 : decode cX7_secondOf 2 = .ok (.iload_n 1, 1) := by decide +kernel
theorem dX7_secondOf_3 : decode cX7_secondOf 3 = .ok (.invokevirtual 178, 3) := by decide +kernel
theorem dX7_secondOf_6 : decode cX7_secondOf 6 = .ok (.invokevirtual 181, 3) := by decide +kernel
theorem dX7_secondOf_9 : decode cX7_secondOf 9 = .ok (.ireturn, 1) := by decide +kernel
theorem dX7_isList_0 : decode cX7_isList 0 = .ok (.iload_n 1, 1) := by decide +kernel
theorem dX7_isList_1 : decode cX7_isList 1 = .ok (.ifCond .lt 26, 3) := by decide +kernel
theorem dX7_isList_4 : decode cX7_isList 4 = .ok (.iload_n 1, 1) := by decide +kernel
theorem dX7_isList_5 : decode cX7_isList 5 = .ok (.aload_n 0, 1) := by decide +kernel
theorem dX7_isList_6 : decode cX7_isList 6 = .ok (.getfield 96, 3) := by decide +kernel
theorem dX7_isList_9 : decode cX7_isList 9 = .ok (.if_icmp .ge 18, 3) := by decide +kernel
theorem dX7_isList_12 : decode cX7_isList 12 = .ok (.aload_n 0, 1) := by decide +kernel
theorem dX7_isList_13 : decode cX7_isList 13 = .ok (.getfield 18, 3) := by decide +kernel
theorem dX7_isList_16 : decode cX7_isList 16 = .ok (.iload_n 1, 1) := by decide +kernel
theorem dX7_isList_17 : decode cX7_isList 17 = .ok (.iaload, 1) := by decide +kernel
theorem dX7_isList_18 : decode cX7_isList 18 = .ok (.bipush 6, 2) := by decide +kernel
theorem dX7_isList_20 : decode cX7_isList 20 = .ok (.if_icmp .ne 7, 3) := by decide +kernel
theorem dX7_isList_23 : decode cX7_isList 23 = .ok (.iconst 1, 1) := by decide +kernel
theorem dX7_isList_24 : decode cX7_isList 24 = .ok (.goto 4, 3) := by decide +kernel
theorem dX7_isList_27 : decode cX7_isList 27 = .ok (.iconst 0, 1) := by decide +kernel
theorem dX7_isList_28 : decode cX7_isList 28 = .ok (.ireturn, 1) := by decide +kernel
theorem dX7_isName_0 : decode cX7_isName 0 = .ok (.iload_n 1, 1) := by decide +kernel
theorem dX7_isName_1 : decode cX7_isName 1 = .ok (.ifCond .lt 25, 3) := by decide +kernel
theorem dX7_isName_4 : decode cX7_isName 4 = .ok (.iload_n 1, 1) := by decide +kernel
theorem dX7_isName_5 : decode cX7_isName 5 = .ok (.aload_n 0, 1) := by decide +kernel
theorem dX7_isName_6 : decode cX7_isName 6 = .ok (.getfield 96, 3) := by decide +kernel
theorem dX7_isName_9 : decode cX7_isName 9 = .ok (.if_icmp .ge 17, 3) := by decide +kernel
theorem dX7_isName_12 : decode cX7_isName 12 = .ok (.aload_n 0, 1) := by decide +kernel
theorem dX7_isName_13 : decode cX7_isName 13 = .ok (.getfield 18, 3) := by decide +kernel
theorem dX7_isName_16 : decode cX7_isName 16 = .ok (.iload_n 1, 1) := by decide +kernel
theorem dX7_isName_17 : decode cX7_isName 17 = .ok (.iaload, 1) := by decide +kernel
theorem dX7_isName_18 : decode cX7_isName 18 = .ok (.iconst 5, 1) := by decide +kernel
theorem dX7_isName_19 : decode cX7_isName 19 = .ok (.if_icmp .ne 7, 3) := by decide +kernel
theorem dX7_isName_22 : decode cX7_isName 22 = .ok (.iconst 1, 1) := by decide +kernel
theorem dX7_isName_23 : decode cX7_isName 23 = .ok (.goto 4, 3) := by decide +kernel
theorem dX7_isName_26 : decode cX7_isName 26 = .ok (.iconst 0, 1) := by decide +kernel
theorem dX7_isName_27 : decode cX7_isName 27 = .ok (.ireturn, 1) := by decide +kernel
theorem dX7_partsOf_0 : decode cX7_partsOf 0 = .ok (.aload_n 0, 1) := by decide +kernel
theorem dX7_partsOf_1 : decode cX7_partsOf 1 = .ok (.iload_n 1, 1) := by decide +kernel
theorem dX7_partsOf_2 : decode cX7_partsOf 2 = .ok (.invokevirtual 184, 3) := by decide +kernel
theorem dX7_partsOf_5 : decode cX7_partsOf 5 = .ok (.bipush 6, 2) := by decide +kernel
theorem dX7_partsOf_7 : decode cX7_partsOf 7 = .ok (.if_icmp .ne 11, 3) := by decide +kernel
theorem dX7_partsOf_10 : decode cX7_partsOf 10 = .ok (.aload_n 0, 1) := by decide +kernel
theorem dX7_partsOf_11 : decode cX7_partsOf 11 = .ok (.iload_n 1, 1) := by decide +kernel
theorem dX7_partsOf_12 : decode cX7_partsOf 12 = .ok (.invokevirtual 187, 3) := by decide +kernel
theorem dX7_partsOf_15 : decode cX7_partsOf 15 = .ok (.goto 4, 3) := by decide +kernel
theorem dX7_partsOf_18 : decode cX7_partsOf 18 = .ok (.iconst 0, 1) := by decide +kernel
theorem dX7_partsOf_19 : decode cX7_partsOf 19 = .ok (.ireturn, 1) := by decide +kernel
theorem dX7_wordOf_0 : decode cX7_wordOf 0 = .ok (.aload_n 0, 1) := by decide +kernel
theorem dX7_wordOf_1 : decode cX7_wordOf 1 = .ok (.iload_n 1, 1) := by decide +kernel
theorem dX7_wordOf_2 : decode cX7_wordOf 2 = .ok (.invokevirtual 178, 3) := by decide +kernel
theorem dX7_wordOf_5 : decode cX7_wordOf 5 = .ok (.istore_n 2, 1) := by decide +kernel
theorem dX7_wordOf_6 : decode cX7_wordOf 6 = .ok (.aload_n 0, 1) := by decide +kernel
theorem dX7_wordOf_7 : decode cX7_wordOf 7 = .ok (.iload_n 2, 1) := by decide +kernel
theorem dX7_wordOf_8 : decode cX7_wordOf 8 = .ok (.invokevirtual 184, 3) := by decide +kernel
theorem dX7_wordOf_11 : decode cX7_wordOf 11 = .ok (.iconst 5, 1) := by decide +kernel
theorem dX7_wordOf_12 : decode cX7_wordOf 12 = .ok (.if_icmp .ne 21, 3) := by decide +kernel
theorem dX7_wordOf_15 : decode cX7_wordOf 15 = .ok (.aload_n 0, 1) := by decide +kernel
theorem dX7_wordOf_16 : decode cX7_wordOf 16 = .ok (.iload_n 2, 1) := by decide +kernel
theorem dX7_wordOf_17 : decode cX7_wordOf 17 = .ok (.invokevirtual 187, 3) := by decide +kernel
theorem dX7_wordOf_20 : decode cX7_wordOf 20 = .ok (.bipush 10, 2) := by decide +kernel
theorem dX7_wordOf_22 : decode cX7_wordOf 22 = .ok (.if_icmp .ge 11, 3) := by decide +kernel
theorem dX7_wordOf_25 : decode cX7_wordOf 25 = .ok (.aload_n 0, 1) := by decide +kernel
theorem dX7_wordOf_26 : decode cX7_wordOf 26 = .ok (.iload_n 2, 1) := by decide +kernel
theorem dX7_wordOf_27 : decode cX7_wordOf 27 = .ok (.invokevirtual 187, 3) := by decide +kernel
theorem dX7_wordOf_30 : decode cX7_wordOf 30 = .ok (.goto 4, 3) := by decide +kernel
theorem dX7_wordOf_33 : decode cX7_wordOf 33 = .ok (.iconst (-1), 1) := by decide +kernel
theorem dX7_wordOf_34 : decode cX7_wordOf 34 = .ok (.ireturn, 1) := by decide +kernel
theorem dX8_withRoom_0 : decode cX8_withRoom 0 = .ok (.iload_n 1, 1) := by decide +kernel
theorem dX8_withRoom_1 : decode cX8_withRoom 1 = .ok (.aload_n 0, 1) := by decide +kernel
theorem dX8_withRoom_2 : decode cX8_withRoom 2 = .ok (.arraylength, 1) := by decide +kernel
theorem dX8_withRoom_3 : decode cX8_withRoom 3 = .ok (.if_icmp .gt 7, 3) := by decide +kernel
theorem dX8_withRoom_6 : decode cX8_withRoom 6 = .ok (.aload_n 0, 1) := by decide +kernel
theorem dX8_withRoom_7 : decode cX8_withRoom 7 = .ok (.goto 15, 3) := by decide +kernel
theorem dX8_withRoom_10 : decode cX8_withRoom 10 = .ok (.aload_n 0, 1) := by decide +kernel
theorem dX8_withRoom_11 : decode cX8_withRoom 11 = .ok (.iload_n 1, 1) := by decide +kernel
theorem dX8_withRoom_12 : decode cX8_withRoom 12 = .ok (.iconst 2, 1) := by decide +kernel
theorem dX8_withRoom_13 : decode cX8_withRoom 13 = .ok (.aload_n 0, 1) := by decide +kernel
theorem dX8_withRoom_14 : decode cX8_withRoom 14 = .ok (.arraylength, 1) := by decide +kernel
theorem dX8_withRoom_15 : decode cX8_withRoom 15 = .ok (.imul, 1) := by decide +kernel
theorem dX8_withRoom_16 : decode cX8_withRoom 16 = .ok (.invokestatic 7, 3) := by decide +kernel
theorem dX8_withRoom_19 : decode cX8_withRoom 19 = .ok (.invokestatic 13, 3) := by decide +kernel
theorem dX8_withRoom_22 : decode cX8_withRoom 22 = .ok (.areturn, 1) := by decide +kernel
theorem dX8_withRoom__0 : decode cX8_withRoom_ 0 = .ok (.iload_n 1, 1) := by decide +kernel
theorem dX8_withRoom__1 : decode cX8_withRoom_ 1 = .ok (.aload_n 0, 1) := by decide +kernel
theorem dX8_withRoom__2 : decode cX8_withRoom_ 2 = .ok (.arraylength, 1) := by decide +kernel
theorem dX8_withRoom__3 : decode cX8_withRoom_ 3 = .ok (.if_icmp .gt 7, 3) := by decide +kernel
theorem dX8_withRoom__6 : decode cX8_withRoom_ 6 = .ok (.aload_n 0, 1) := by decide +kernel
theorem dX8_withRoom__7 : decode cX8_withRoom_ 7 = .ok (.goto 15, 3) := by decide +kernel
theorem dX8_withRoom__10 : decode cX8_withRoom_ 10 = .ok (.aload_n 0, 1) := by decide +kernel
theorem dX8_withRoom__11 : decode cX8_withRoom_ 11 = .ok (.iload_n 1, 1) := by decide +kernel
theorem dX8_withRoom__12 : decode cX8_withRoom_ 12 = .ok (.iconst 2, 1) := by decide +kernel
theorem dX8_withRoom__13 : decode cX8_withRoom_ 13 = .ok (.aload_n 0, 1) := by decide +kernel
theorem dX8_withRoom__14 : decode cX8_withRoom_ 14 = .ok (.arraylength, 1) := by decide +kernel
theorem dX8_withRoom__15 : decode cX8_withRoom_ 15 = .ok (.imul, 1) := by decide +kernel
theorem dX8_withRoom__16 : decode cX8_withRoom_ 16 = .ok (.invokestatic 7, 3) := by decide +kernel
theorem dX8_withRoom__19 : decode cX8_withRoom_ 19 = .ok (.invokestatic 19, 3) := by decide +kernel
theorem dX8_withRoom__22 : decode cX8_withRoom_ 22 = .ok (.areturn, 1) := by decide +kernel
theorem dX9_init_0 : decode cX9_init 0 = .ok (.aload_n 0, 1) := by decide +kernel
theorem dX9_init_1 : decode cX9_init 1 = .ok (.invokespecial 3, 3) := by decide +kernel
theorem dX9_init_4 : decode cX9_init 4 = .ok (.aload_n 0, 1) := by decide +kernel
theorem dX9_init_5 : decode cX9_init 5 = .ok (.bipush 16, 2) := by decide +kernel
theorem dX9_init_7 : decode cX9_init 7 = .ok (.newarray .int, 2) := by decide +kernel
theorem dX9_init_9 : decode cX9_init 9 = .ok (.putfield 9, 3) := by decide +kernel
theorem dX9_init_12 : decode cX9_init 12 = .ok (.aload_n 0, 1) := by decide +kernel
theorem dX9_init_13 : decode cX9_init 13 = .ok (.bipush 16, 2) := by decide +kernel
theorem dX9_init_15 : decode cX9_init 15 = .ok (.newarray .int, 2) := by decide +kernel
theorem dX9_init_17 : decode cX9_init 17 = .ok (.putfield 15, 3) := by decide +kernel
theorem dX9_init_20 : decode cX9_init 20 = .ok (.aload_n 0, 1) := by decide +kernel
theorem dX9_init_21 : decode cX9_init 21 = .ok (.bipush 16, 2) := by decide +kernel
theorem dX9_init_23 : decode cX9_init 23 = .ok (.newarray .int, 2) := by decide +kernel
theorem dX9_init_25 : decode cX9_init 25 = .ok (.putfield 18, 3) := by decide +kernel
theorem dX9_init_28 : decode cX9_init 28 = .ok (.aload_n 0, 1) := by decide +kernel
theorem dX9_init_29 : decode cX9_init 29 = .ok (.sipush 248, 3) := by decide +kernel
theorem dX9_init_32 : decode cX9_init 32 = .ok (.newarray .int, 2) := by decide +kernel
theorem dX9_init_34 : decode cX9_init 34 = .ok (.putfield 21, 3) := by decide +kernel
theorem dX9_init_37 : decode cX9_init 37 = .ok (.aload_n 0, 1) := by decide +kernel
theorem dX9_init_38 : decode cX9_init 38 = .ok (.bipush 32, 2) := by decide +kernel
theorem dX9_init_40 : decode cX9_init 40 = .ok (.newarray .int, 2) := by decide +kernel
theorem dX9_init_42 : decode cX9_init 42 = .ok (.putfield 24, 3) := by decide +kernel
theorem dX9_init_45 : decode cX9_init 45 = .ok (.return_, 1) := by decide +kernel
theorem dX9_forgetAll_0 : decode cX9_forgetAll 0 = .ok (.aload_n 0, 1) := by decide +kernel
theorem dX9_forgetAll_1 : decode cX9_forgetAll 1 = .ok (.iconst 0, 1) := by decide +kernel
theorem dX9_forgetAll_2 : decode cX9_forgetAll 2 = .ok (.putfield 27, 3) := by decide +kernel
theorem dX9_forgetAll_5 : decode cX9_forgetAll 5 = .ok (.aload_n 0, 1) := by decide +kernel
theorem dX9_forgetAll_6 : decode cX9_forgetAll 6 = .ok (.iconst 0, 1) := by decide +kernel
theorem dX9_forgetAll_7 : decode cX9_forgetAll 7 = .ok (.putfield 31, 3) := by decide +kernel
theorem dX9_forgetAll_10 : decode cX9_forgetAll 10 = .ok (.aload_n 0, 1) := by decide +kernel
theorem dX9_forgetAll_11 : decode cX9_forgetAll 11 = .ok (.getfield 24, 3) := by decide +kernel
theorem dX9_forgetAll_14 : decode cX9_forgetAll 14 = .ok (.iconst 0, 1) := by decide +kernel
theorem dX9_forgetAll_15 : decode cX9_forgetAll 15 = .ok (.invokestatic 34, 3) := by decide +kernel
theorem dX9_forgetAll_18 : decode cX9_forgetAll 18 = .ok (.return_, 1) := by decide +kernel
theorem dX9_bindings_0 : decode cX9_bindings 0 = .ok (.aload_n 0, 1) := by decide +kernel
theorem dX9_bindings_1 : decode cX9_bindings 1 = .ok (.getfield 27, 3) := by decide +kernel
theorem dX9_bindings_4 : decode cX9_bindings 4 = .ok (.ireturn, 1) := by decide +kernel
theorem dX9_bind_0 : decode cX9_bind 0 = .ok (.aload_n 0, 1) := by decide +kernel
theorem dX9_bind_1 : decode cX9_bind 1 = .ok (.aload_n 0, 1) := by decide +kernel
theorem dX9_bind_2 : decode cX9_bind 2 = .ok (.getfield 9, 3) := by decide +kernel
theorem dX9_bind_5 : decode cX9_bind 5 = .ok (.aload_n 0, 1) := by decide +kernel
theorem dX9_bind_6 : decode cX9_bind 6 = .ok (.getfield 27, 3) := by decide +kernel
theorem dX9_bind_9 : decode cX9_bind 9 = .ok (.iconst 1, 1) := by decide +kernel
theorem dX9_bind_10 : decode cX9_bind 10 = .ok (.iadd, 1) := by decide +kernel
theorem dX9_bind_11 : decode cX9_bind 11 = .ok (.invokestatic 40, 3) := by decide +kernel
theorem dX9_bind_14 : decode cX9_bind 14 = .ok (.putfield 9, 3) := by decide +kernel
theorem dX9_bind_17 : decode cX9_bind 17 = .ok (.aload_n 0, 1) := by decide +kernel
theorem dX9_bind_18 : decode cX9_bind 18 = .ok (.aload_n 0, 1) := by decide +kernel
theorem dX9_bind_19 : decode cX9_bind 19 = .ok (.getfield 15, 3) := by decide +kernel
theorem dX9_bind_22 : decode cX9_bind 22 = .ok (.aload_n 0, 1) := by decide +kernel
theorem dX9_bind_23 : decode cX9_bind 23 = .ok (.getfield 27, 3) := by decide +kernel
theorem dX9_bind_26 : decode cX9_bind 26 = .ok (.iconst 1, 1) := by decide +kernel
theorem dX9_bind_27 : decode cX9_bind 27 = .ok (.iadd, 1) := by decide +kernel
theorem dX9_bind_28 : decode cX9_bind 28 = .ok (.invokestatic 40, 3) := by decide +kernel
theorem dX9_bind_31 : decode cX9_bind 31 = .ok (.putfield 15, 3) := by decide +kernel
theorem dX9_bind_34 : decode cX9_bind 34 = .ok (.aload_n 0, 1) := by decide +kernel
theorem dX9_bind_35 : decode cX9_bind 35 = .ok (.aload_n 0, 1) := by decide +kernel
theorem dX9_bind_36 : decode cX9_bind 36 = .ok (.getfield 18, 3) := by decide +kernel
theorem dX9_bind_39 : decode cX9_bind 39 = .ok (.aload_n 0, 1) := by decide +kernel
theorem dX9_bind_40 : decode cX9_bind 40 = .ok (.getfield 27, 3) := by decide +kernel
theorem dX9_bind_43 : decode cX9_bind 43 = .ok (.iconst 1, 1) := by decide +kernel
theorem dX9_bind_44 : decode cX9_bind 44 = .ok (.iadd, 1) := by decide +kernel
theorem dX9_bind_45 : decode cX9_bind 45 = .ok (.invokestatic 40, 3) := by decide +kernel
theorem dX9_bind_48 : decode cX9_bind 48 = .ok (.putfield 18, 3) := by decide +kernel
theorem dX9_bind_51 : decode cX9_bind 51 = .ok (.aload_n 0, 1) := by decide +kernel
theorem dX9_bind_52 : decode cX9_bind 52 = .ok (.getfield 9, 3) := by decide +kernel
theorem dX9_bind_55 : decode cX9_bind 55 = .ok (.aload_n 0, 1) := by decide +kernel
theorem dX9_bind_56 : decode cX9_bind 56 = .ok (.getfield 27, 3) := by decide +kernel
theorem dX9_bind_59 : decode cX9_bind 59 = .ok (.iload_n 1, 1) := by decide +kernel
theorem dX9_bind_60 : decode cX9_bind 60 = .ok (.iastore, 1) := by decide +kernel
theorem dX9_bind_61 : decode cX9_bind 61 = .ok (.aload_n 0, 1) := by decide +kernel
theorem dX9_bind_62 : decode cX9_bind 62 = .ok (.getfield 15, 3) := by decide +kernel
theorem dX9_bind_65 : decode cX9_bind 65 = .ok (.aload_n 0, 1) := by decide +kernel
theorem dX9_bind_66 : decode cX9_bind 66 = .ok (.getfield 27, 3) := by decide +kernel
theorem dX9_bind_69 : decode cX9_bind 69 = .ok (.iload_n 2, 1) := by decide +kernel
theorem dX9_bind_70 : decode cX9_bind 70 = .ok (.iastore, 1) := by decide +kernel
theorem dX9_bind_71 : decode cX9_bind 71 = .ok (.aload_n 0, 1) := by decide +kernel
theorem dX9_bind_72 : decode cX9_bind 72 = .ok (.getfield 18, 3) := by decide +kernel
theorem dX9_bind_75 : decode cX9_bind 75 = .ok (.aload_n 0, 1) := by decide +kernel
theorem dX9_bind_76 : decode cX9_bind 76 = .ok (.getfield 27, 3) := by decide +kernel
theorem dX9_bind_79 : decode cX9_bind 79 = .ok (.aload_n 0, 1) := by decide +kernel
theorem dX9_bind_80 : decode cX9_bind 80 = .ok (.getfield 31, 3) := by decide +kernel
theorem dX9_bind_83 : decode cX9_bind 83 = .ok (.iastore, 1) := by decide +kernel
theorem dX9_bind_84 : decode cX9_bind 84 = .ok (.aload_n 0, 1) := by decide +kernel
theorem dX9_bind_85 : decode cX9_bind 85 = .ok (.dup, 1) := by decide +kernel
theorem dX9_bind_86 : decode cX9_bind 86 = .ok (.getfield 27, 3) := by decide +kernel
theorem dX9_bind_89 : decode cX9_bind 89 = .ok (.iconst 1, 1) := by decide +kernel
theorem dX9_bind_90 : decode cX9_bind 90 = .ok (.iadd, 1) := by decide +kernel
theorem dX9_bind_91 : decode cX9_bind 91 = .ok (.putfield 27, 3) := by decide +kernel
theorem dX9_bind_94 : decode cX9_bind 94 = .ok (.return_, 1) := by decide +kernel
theorem dX9_unbindTo_0 : decode cX9_unbindTo 0 = .ok (.aload_n 0, 1) := by decide +kernel
theorem dX9_unbindTo_1 : decode cX9_unbindTo 1 = .ok (.iconst 0, 1) := by decide +kernel
theorem dX9_unbindTo_2 : decode cX9_unbindTo 2 = .ok (.aload_n 0, 1) := by decide +kernel
theorem dX9_unbindTo_3 : decode cX9_unbindTo 3 = .ok (.getfield 27, 3) := by decide +kernel
theorem dX9_unbindTo_6 : decode cX9_unbindTo 6 = .ok (.iload_n 1, 1) := by decide +kernel
theorem dX9_unbindTo_7 : decode cX9_unbindTo 7 = .ok (.invokestatic 46, 3) := by decide +kernel
theorem dX9_unbindTo_10 : decode cX9_unbindTo 10 = .ok (.invokestatic 52, 3) := by decide +kernel
theorem dX9_unbindTo_13 : decode cX9_unbindTo 13 = .ok (.putfield 27, 3) := by decide +kernel
theorem dX9_unbindTo_16 : decode cX9_unbindTo 16 = .ok (.return_, 1) := by decide +kernel
theorem dX9_enterBody_0 : decode cX9_enterBody 0 = .ok (.aload_n 0, 1) := by decide +kernel
theorem dX9_enterBody_1 : decode cX9_enterBody 1 = .ok (.getfield 31, 3) := by decide +kernel
theorem dX9_enterBody_4 : decode cX9_enterBody 4 = .ok (.iconst 1, 1) := by decide +kernel
theorem dX9_enterBody_5 : decode cX9_enterBody 5 = .ok (.iadd, 1) := by decide +kernel
theorem dX9_enterBody_6 : decode cX9_enterBody 6 = .ok (.istore_n 1, 1) := by decide +kernel
theorem dX9_enterBody_7 : decode cX9_enterBody 7 = .ok (.iload_n 1, 1) := by decide +kernel
theorem dX9_enterBody_8 : decode cX9_enterBody 8 = .ok (.ifCond .lt 21, 3) := by decide +kernel
theorem dX9_enterBody_11 : decode cX9_enterBody 11 = .ok (.iload_n 1, 1) := by decide +kernel
theorem dX9_enterBody_12 : decode cX9_enterBody 12 = .ok (.bipush 32, 2) := by decide +kernel
theorem dX9_enterBody_14 : decode cX9_enterBody 14 = .ok (.if_icmp .ge 15, 3) := by decide +kernel
theorem dX9_enterBody_17 : decode cX9_enterBody 17 = .ok (.aload_n 0, 1) := by decide +kernel
theorem dX9_enterBody_18 : decode cX9_enterBody 18 = .ok (.iload_n 1, 1) := by decide +kernel
theorem dX9_enterBody_19 : decode cX9_enterBody 19 = .ok (.putfield 31, 3) := by decide +kernel
theorem dX9_enterBody_22 : decode cX9_enterBody 22 = .ok (.aload_n 0, 1) := by decide +kernel
theorem dX9_enterBody_23 : decode cX9_enterBody 23 = .ok (.getfield 24, 3) := by decide +kernel
theorem dX9_enterBody_26 : decode cX9_enterBody 26 = .ok (.iload_n 1, 1) := by decide +kernel
theorem dX9_enterBody_27 : decode cX9_enterBody 27 = .ok (.iconst 0, 1) := by decide +kernel
theorem dX9_enterBody_28 : decode cX9_enterBody 28 = .ok (.iastore, 1) := by decide +kernel
theorem dX9_enterBody_29 : decode cX9_enterBody 29 = .ok (.return_, 1) := by decide +kernel
theorem dX9_leaveBody_0 : decode cX9_leaveBody 0 = .ok (.aload_n 0, 1) := by decide +kernel
theorem dX9_leaveBody_1 : decode cX9_leaveBody 1 = .ok (.getfield 31, 3) := by decide +kernel
theorem dX9_leaveBody_4 : decode cX9_leaveBody 4 = .ok (.ifCond .le 13, 3) := by decide +kernel
theorem dX9_leaveBody_7 : decode cX9_leaveBody 7 = .ok (.aload_n 0, 1) := by decide +kernel
theorem dX9_leaveBody_8 : decode cX9_leaveBody 8 = .ok (.dup, 1) := by decide +kernel
theorem dX9_leaveBody_9 : decode cX9_leaveBody 9 = .ok (.getfield 31, 3) := by decide +kernel
theorem dX9_leaveBody_12 : decode cX9_leaveBody 12 = .ok (.iconst 1, 1) := by decide +kernel
theorem dX9_leaveBody_13 : decode cX9_leaveBody 13 = .ok (.isub, 1) := by decide +kernel
theorem dX9_leaveBody_14 : decode cX9_leaveBody 14 = .ok (.putfield 31, 3) := by decide +kernel
theorem dX9_leaveBody_17 : decode cX9_leaveBody 17 = .ok (.return_, 1) := by decide +kernel
theorem dX9_find_0 : decode cX9_find 0 = .ok (.aload_n 0, 1) := by decide +kernel
theorem dX9_find_1 : decode cX9_find 1 = .ok (.getfield 27, 3) := by decide +kernel
theorem dX9_find_4 : decode cX9_find 4 = .ok (.iconst 1, 1) := by decide +kernel
theorem dX9_find_5 : decode cX9_find 5 = .ok (.isub, 1) := by decide +kernel
theorem dX9_find_6 : decode cX9_find 6 = .ok (.istore_n 2, 1) := by decide +kernel
theorem dX9_find_7 : decode cX9_find 7 = .ok (.iload_n 2, 1) := by decide +kernel
theorem dX9_find_8 : decode cX9_find 8 = .ok (.ifCond .lt 21, 3) := by decide +kernel
theorem dX9_find_11 : decode cX9_find 11 = .ok (.aload_n 0, 1) := by decide +kernel
theorem dX9_find_12 : decode cX9_find 12 = .ok (.getfield 9, 3) := by decide +kernel
theorem dX9_find_15 : decode cX9_find 15 = .ok (.iload_n 2, 1) := by decide +kernel
theorem dX9_find_16 : decode cX9_find 16 = .ok (.iaload, 1) := by decide +kernel
theorem dX9_find_17 : decode cX9_find 17 = .ok (.iload_n 1, 1) := by decide +kernel
theorem dX9_find_18 : decode cX9_find 18 = .ok (.if_icmp .ne 5, 3) := by decide +kernel
theorem dX9_find_21 : decode cX9_find 21 = .ok (.iload_n 2, 1) := by decide +kernel
theorem dX9_find_22 : decode cX9_find 22 = .ok (.ireturn, 1) := by decide +kernel
theorem dX9_find_23 : decode cX9_find 23 = .ok (.iinc 2 (-1), 3) := by decide +kernel
theorem dX9_find_26 : decode cX9_find 26 = .ok (.goto (-19), 3) := by decide +kernel
theorem dX9_find_29 : decode cX9_find 29 = .ok (.iconst (-1), 1) := by decide +kernel
theorem dX9_find_30 : decode cX9_find 30 = .ok (.ireturn, 1) := by decide +kernel
theorem dX9_isOwn_0 : decode cX9_isOwn 0 = .ok (.aload_n 0, 1) := by decide +kernel
theorem dX9_isOwn_1 : decode cX9_isOwn 1 = .ok (.iload_n 1, 1) := by decide +kernel
theorem dX9_isOwn_2 : decode cX9_isOwn 2 = .ok (.invokevirtual 55, 3) := by decide +kernel
theorem dX9_isOwn_5 : decode cX9_isOwn 5 = .ok (.aload_n 0, 1) := by decide +kernel
theorem dX9_isOwn_6 : decode cX9_isOwn 6 = .ok (.getfield 31, 3) := by decide +kernel
theorem dX9_isOwn_9 : decode cX9_isOwn 9 = .ok (.if_icmp .ne 7, 3) := by decide +kernel
theorem dX9_isOwn_12 : decode cX9_isOwn 12 = .ok (.iconst 1, 1) := by decide +kernel
theorem dX9_isOwn_13 : decode cX9_isOwn 13 = .ok (.goto 4, 3) := by decide +kernel
theorem dX9_isOwn_16 : decode cX9_isOwn 16 = .ok (.iconst 0, 1) := by decide +kernel
theorem dX9_isOwn_17 : decode cX9_isOwn 17 = .ok (.ireturn, 1) := by decide +kernel
theorem dX9_slotOf_0 : decode cX9_slotOf 0 = .ok (.iload_n 1, 1) := by decide +kernel
theorem dX9_slotOf_1 : decode cX9_slotOf 1 = .ok (.ifCond .lt 20, 3) := by decide +kernel
theorem dX9_slotOf_4 : decode cX9_slotOf 4 = .ok (.iload_n 1, 1) := by decide +kernel
theorem dX9_slotOf_5 : decode cX9_slotOf 5 = .ok (.aload_n 0, 1) := by decide +kernel
theorem dX9_slotOf_6 : decode cX9_slotOf 6 = .ok (.getfield 27, 3) := by decide +kernel
theorem dX9_slotOf_9 : decode cX9_slotOf 9 = .ok (.if_icmp .ge 12, 3) := by decide +kernel
theorem dX9_slotOf_12 : decode cX9_slotOf 12 = .ok (.aload_n 0, 1) := by decide +kernel
theorem dX9_slotOf_13 : decode cX9_slotOf 13 = .ok (.getfield 15, 3) := by decide +kernel
theorem dX9_slotOf_16 : decode cX9_slotOf 16 = .ok (.iload_n 1, 1) := by decide +kernel
theorem dX9_slotOf_17 : decode cX9_slotOf 17 = .ok (.iaload, 1) := by decide +kernel
theorem dX9_slotOf_18 : decode cX9_slotOf 18 = .ok (.goto 4, 3) := by decide +kernel
theorem dX9_slotOf_21 : decode cX9_slotOf 21 = .ok (.iconst 0, 1) := by decide +kernel
theorem dX9_slotOf_22 : decode cX9_slotOf 22 = .ok (.ireturn, 1) := by decide +kernel
theorem dX9_keep_0 : decode cX9_keep 0 = .ok (.aload_n 0, 1) := by decide +kernel
theorem dX9_keep_1 : decode cX9_keep 1 = .ok (.iload_n 1, 1) := by decide +kernel
theorem dX9_keep_2 : decode cX9_keep 2 = .ok (.invokevirtual 55, 3) := by decide +kernel
theorem dX9_keep_5 : decode cX9_keep 5 = .ok (.iconst 1, 1) := by decide +kernel
theorem dX9_keep_6 : decode cX9_keep 6 = .ok (.iadd, 1) := by decide +kernel
theorem dX9_keep_7 : decode cX9_keep 7 = .ok (.istore_n 2, 1) := by decide +kernel
theorem dX9_keep_8 : decode cX9_keep 8 = .ok (.iload_n 2, 1) := by decide +kernel
theorem dX9_keep_9 : decode cX9_keep 9 = .ok (.aload_n 0, 1) := by decide +kernel
theorem dX9_keep_10 : decode cX9_keep 10 = .ok (.getfield 31, 3) := by decide +kernel
theorem dX9_keep_13 : decode cX9_keep 13 = .ok (.if_icmp .gt 81, 3) := by decide +kernel
theorem dX9_keep_16 : decode cX9_keep 16 = .ok (.iload_n 2, 1) := by decide +kernel
theorem dX9_keep_17 : decode cX9_keep 17 = .ok (.bipush 32, 2) := by decide +kernel
theorem dX9_keep_19 : decode cX9_keep 19 = .ok (.if_icmp .ge 75, 3) := by decide +kernel
theorem dX9_keep_22 : decode cX9_keep 22 = .ok (.aload_n 0, 1) := by decide +kernel
theorem dX9_keep_23 : decode cX9_keep 23 = .ok (.iload_n 2, 1) := by decide +kernel
theorem dX9_keep_24 : decode cX9_keep 24 = .ok (.iload_n 1, 1) := by decide +kernel
theorem dX9_keep_25 : decode cX9_keep 25 = .ok (.invokevirtual 59, 3) := by decide +kernel
theorem dX9_keep_28 : decode cX9_keep 28 = .ok (.iconst (-1), 1) := by decide +kernel
theorem dX9_keep_29 : decode cX9_keep 29 = .ok (.if_icmp .ne 59, 3) := by decide +kernel
theorem dX9_keep_32 : decode cX9_keep 32 = .ok (.aload_n 0, 1) := by decide +kernel
theorem dX9_keep_33 : decode cX9_keep 33 = .ok (.getfield 24, 3) := by decide +kernel
theorem dX9_keep_36 : decode cX9_keep 36 = .ok (.iload_n 2, 1) := by decide +kernel
theorem dX9_keep_37 : decode cX9_keep 37 = .ok (.iaload, 1) := by decide +kernel
theorem dX9_keep_38 : decode cX9_keep 38 = .ok (.sipush 248, 3) := by decide +kernel
theorem dX9_keep_41 : decode cX9_keep 41 = .ok (.if_icmp .ge 47, 3) := by decide +kernel
theorem dX9_keep_44 : decode cX9_keep 44 = .ok (.iload_n 2, 1) := by decide +kernel
theorem dX9_keep_45 : decode cX9_keep 45 = .ok (.sipush 248, 3) := by decide +kernel
theorem dX9_keep_48 : decode cX9_keep 48 = .ok (.imul, 1) := by decide +kernel
theorem dX9_keep_49 : decode cX9_keep 49 = .ok (.aload_n 0, 1) := by decide +kernel
theorem dX9_keep_50 : decode cX9_keep 50 = .ok (.getfield 24, 3) := by decide +kernel
theorem dX9_keep_53 : decode cX9_keep 53 = .ok (.iload_n 2, 1) := by decide +kernel
theorem dX9_keep_54 : decode cX9_keep 54 = .ok (.iaload, 1) := by decide +kernel
theorem dX9_keep_55 : decode cX9_keep 55 = .ok (.iadd, 1) := by decide +kernel
theorem dX9_keep_56 : decode cX9_keep 56 = .ok (.istore_n 3, 1) := by decide +kernel
theorem dX9_keep_57 : decode cX9_keep 57 = .ok (.aload_n 0, 1) := by decide +kernel
theorem dX9_keep_58 : decode cX9_keep 58 = .ok (.aload_n 0, 1) := by decide +kernel
theorem dX9_keep_59 : decode cX9_keep 59 = .ok (.getfield 21, 3) := by decide +kernel
theorem dX9_keep_62 : decode cX9_keep 62 = .ok (.iload_n 3, 1) := by decide +kernel
theorem dX9_keep_63 : decode cX9_keep 63 = .ok (.iconst 1, 1) := by decide +kernel
theorem dX9_keep_64 : decode cX9_keep 64 = .ok (.iadd, 1) := by decide +kernel
theorem dX9_keep_65 : decode cX9_keep 65 = .ok (.invokestatic 40, 3) := by decide +kernel
theorem dX9_keep_68 : decode cX9_keep 68 = .ok (.putfield 21, 3) := by decide +kernel
theorem dX9_keep_71 : decode cX9_keep 71 = .ok (.aload_n 0, 1) := by decide +kernel
theorem dX9_keep_72 : decode cX9_keep 72 = .ok (.getfield 21, 3) := by decide +kernel
theorem dX9_keep_75 : decode cX9_keep 75 = .ok (.iload_n 3, 1) := by decide +kernel
theorem dX9_keep_76 : decode cX9_keep 76 = .ok (.iload_n 1, 1) := by decide +kernel
theorem dX9_keep_77 : decode cX9_keep 77 = .ok (.iastore, 1) := by decide +kernel
theorem dX9_keep_78 : decode cX9_keep 78 = .ok (.aload_n 0, 1) := by decide +kernel
theorem dX9_keep_79 : decode cX9_keep 79 = .ok (.getfield 24, 3) := by decide +kernel
theorem dX9_keep_82 : decode cX9_keep 82 = .ok (.iload_n 2, 1) := by decide +kernel
theorem dX9_keep_83 : decode cX9_keep 83 = .ok (.dup2, 1) := by decide +kernel
theorem dX9_keep_84 : decode cX9_keep 84 = .ok (.iaload, 1) := by decide +kernel
theorem dX9_keep_85 : decode cX9_keep 85 = .ok (.iconst 1, 1) := by decide +kernel
theorem dX9_keep_86 : decode cX9_keep 86 = .ok (.iadd, 1) := by decide +kernel
theorem dX9_keep_87 : decode cX9_keep 87 = .ok (.iastore, 1) := by decide +kernel
theorem dX9_keep_88 : decode cX9_keep 88 = .ok (.iinc 2 1, 3) := by decide +kernel
theorem dX9_keep_91 : decode cX9_keep 91 = .ok (.goto (-83), 3) := by decide +kernel
theorem dX9_keep_94 : decode cX9_keep 94 = .ok (.aload_n 0, 1) := by decide +kernel
theorem dX9_keep_95 : decode cX9_keep 95 = .ok (.aload_n 0, 1) := by decide +kernel
theorem dX9_keep_96 : decode cX9_keep 96 = .ok (.getfield 31, 3) := by decide +kernel
theorem dX9_keep_99 : decode cX9_keep 99 = .ok (.iload_n 1, 1) := by decide +kernel
theorem dX9_keep_100 : decode cX9_keep 100 = .ok (.invokevirtual 59, 3) := by decide +kernel
theorem dX9_keep_103 : decode cX9_keep 103 = .ok (.ireturn, 1) := by decide +kernel
theorem dX9_keptPlace_0 : decode cX9_keptPlace 0 = .ok (.iload_n 1, 1) := by decide +kernel
theorem dX9_keptPlace_1 : decode cX9_keptPlace 1 = .ok (.ifCond .lt 18, 3) := by decide +kernel
theorem dX9_keptPlace_4 : decode cX9_keptPlace 4 = .ok (.iload_n 1, 1) := by decide +kernel
theorem dX9_keptPlace_5 : decode cX9_keptPlace 5 = .ok (.bipush 32, 2) := by decide +kernel
theorem dX9_keptPlace_7 : decode cX9_keptPlace 7 = .ok (.if_icmp .ge 12, 3) := by decide +kernel
theorem dX9_keptPlace_10 : decode cX9_keptPlace 10 = .ok (.aload_n 0, 1) := by decide +kernel
theorem dX9_keptPlace_11 : decode cX9_keptPlace 11 = .ok (.getfield 24, 3) := by decide +kernel
theorem dX9_keptPlace_14 : decode cX9_keptPlace 14 = .ok (.iload_n 1, 1) := by decide +kernel
theorem dX9_keptPlace_15 : decode cX9_keptPlace 15 = .ok (.iaload, 1) := by decide +kernel
theorem dX9_keptPlace_16 : decode cX9_keptPlace 16 = .ok (.goto 4, 3) := by decide +kernel
theorem dX9_keptPlace_19 : decode cX9_keptPlace 19 = .ok (.iconst 0, 1) := by decide +kernel
theorem dX9_keptPlace_20 : decode cX9_keptPlace 20 = .ok (.istore_n 3, 1) := by decide +kernel
theorem dX9_keptPlace_21 : decode cX9_keptPlace 21 = .ok (.iload_n 1, 1) := by decide +kernel
theorem dX9_keptPlace_22 : decode cX9_keptPlace 22 = .ok (.sipush 248, 3) := by decide +kernel
theorem dX9_keptPlace_25 : decode cX9_keptPlace 25 = .ok (.imul, 1) := by decide +kernel
theorem dX9_keptPlace_26 : decode cX9_keptPlace 26 = .ok (.istore 4, 2) := by decide +kernel
theorem dX9_keptPlace_28 : decode cX9_keptPlace 28 = .ok (.iload 4, 2) := by decide +kernel
theorem dX9_keptPlace_30 : decode cX9_keptPlace 30 = .ok (.istore 5, 2) := by decide +kernel
theorem dX9_keptPlace_32 : decode cX9_keptPlace 32 = .ok (.iload 5, 2) := by decide +kernel
theorem dX9_keptPlace_34 : decode cX9_keptPlace 34 = .ok (.iload 4, 2) := by decide +kernel
theorem dX9_keptPlace_36 : decode cX9_keptPlace 36 = .ok (.iload_n 3, 1) := by decide +kernel
theorem dX9_keptPlace_37 : decode cX9_keptPlace 37 = .ok (.iadd, 1) := by decide +kernel
theorem dX9_keptPlace_38 : decode cX9_keptPlace 38 = .ok (.if_icmp .ge 36, 3) := by decide +kernel
theorem dX9_keptPlace_41 : decode cX9_keptPlace 41 = .ok (.iload 5, 2) := by decide +kernel
theorem dX9_keptPlace_43 : decode cX9_keptPlace 43 = .ok (.aload_n 0, 1) := by decide +kernel
theorem dX9_keptPlace_44 : decode cX9_keptPlace 44 = .ok (.getfield 21, 3) := by decide +kernel
theorem dX9_keptPlace_47 : decode cX9_keptPlace 47 = .ok (.arraylength, 1) := by decide +kernel
theorem dX9_keptPlace_48 : decode cX9_keptPlace 48 = .ok (.if_icmp .ge 26, 3) := by decide +kernel
theorem dX9_keptPlace_51 : decode cX9_keptPlace 51 = .ok (.aload_n 0, 1) := by decide +kernel
theorem dX9_keptPlace_52 : decode cX9_keptPlace 52 = .ok (.getfield 21, 3) := by decide +kernel
theorem dX9_keptPlace_55 : decode cX9_keptPlace 55 = .ok (.iload 5, 2) := by decide +kernel
theorem dX9_keptPlace_57 : decode cX9_keptPlace 57 = .ok (.iaload, 1) := by decide +kernel
theorem dX9_keptPlace_58 : decode cX9_keptPlace 58 = .ok (.iload_n 2, 1) := by decide +kernel
theorem dX9_keptPlace_59 : decode cX9_keptPlace 59 = .ok (.if_icmp .ne 9, 3) := by decide +kernel
theorem dX9_keptPlace_62 : decode cX9_keptPlace 62 = .ok (.iload 5, 2) := by decide +kernel
theorem dX9_keptPlace_64 : decode cX9_keptPlace 64 = .ok (.iload 4, 2) := by decide +kernel
theorem dX9_keptPlace_66 : decode cX9_keptPlace 66 = .ok (.isub, 1) := by decide +kernel
theorem dX9_keptPlace_67 : decode cX9_keptPlace 67 = .ok (.ireturn, 1) := by decide +kernel
theorem dX9_keptPlace_68 : decode cX9_keptPlace 68 = .ok (.iinc 5 1, 3) := by decide +kernel
theorem dX9_keptPlace_71 : decode cX9_keptPlace 71 = .ok (.goto (-39), 3) := by decide +kernel
theorem dX9_keptPlace_74 : decode cX9_keptPlace 74 = .ok (.iconst (-1), 1) := by decide +kernel
theorem dX9_keptPlace_75 : decode cX9_keptPlace 75 = .ok (.ireturn, 1) := by decide +kernel
theorem dX9_kept_0 : decode cX9_kept 0 = .ok (.aload_n 0, 1) := by decide +kernel
theorem dX9_kept_1 : decode cX9_kept 1 = .ok (.getfield 31, 3) := by decide +kernel
theorem dX9_kept_4 : decode cX9_kept 4 = .ok (.ifCond .lt 24, 3) := by decide +kernel
theorem dX9_kept_7 : decode cX9_kept 7 = .ok (.aload_n 0, 1) := by decide +kernel
theorem dX9_kept_8 : decode cX9_kept 8 = .ok (.getfield 31, 3) := by decide +kernel
theorem dX9_kept_11 : decode cX9_kept 11 = .ok (.bipush 32, 2) := by decide +kernel
theorem dX9_kept_13 : decode cX9_kept 13 = .ok (.if_icmp .ge 15, 3) := by decide +kernel
theorem dX9_kept_16 : decode cX9_kept 16 = .ok (.aload_n 0, 1) := by decide +kernel
theorem dX9_kept_17 : decode cX9_kept 17 = .ok (.getfield 24, 3) := by decide +kernel
theorem dX9_kept_20 : decode cX9_kept 20 = .ok (.aload_n 0, 1) := by decide +kernel
theorem dX9_kept_21 : decode cX9_kept 21 = .ok (.getfield 31, 3) := by decide +kernel
theorem dX9_kept_24 : decode cX9_kept 24 = .ok (.iaload, 1) := by decide +kernel
theorem dX9_kept_25 : decode cX9_kept 25 = .ok (.goto 4, 3) := by decide +kernel
theorem dX9_kept_28 : decode cX9_kept 28 = .ok (.iconst 0, 1) := by decide +kernel
theorem dX9_kept_29 : decode cX9_kept 29 = .ok (.ireturn, 1) := by decide +kernel
theorem dX9_sourceOf_0 : decode cX9_sourceOf 0 = .ok (.aload_n 0, 1) := by decide +kernel
theorem dX9_sourceOf_1 : decode cX9_sourceOf 1 = .ok (.getfield 31, 3) := by decide +kernel
theorem dX9_sourceOf_4 : decode cX9_sourceOf 4 = .ok (.sipush 248, 3) := by decide +kernel
theorem dX9_sourceOf_7 : decode cX9_sourceOf 7 = .ok (.imul, 1) := by decide +kernel
theorem dX9_sourceOf_8 : decode cX9_sourceOf 8 = .ok (.iload_n 1, 1) := by decide +kernel
theorem dX9_sourceOf_9 : decode cX9_sourceOf 9 = .ok (.iadd, 1) := by decide +kernel
theorem dX9_sourceOf_10 : decode cX9_sourceOf 10 = .ok (.istore_n 2, 1) := by decide +kernel
theorem dX9_sourceOf_11 : decode cX9_sourceOf 11 = .ok (.iload_n 2, 1) := by decide +kernel
theorem dX9_sourceOf_12 : decode cX9_sourceOf 12 = .ok (.ifCond .lt 21, 3) := by decide +kernel
theorem dX9_sourceOf_15 : decode cX9_sourceOf 15 = .ok (.iload_n 2, 1) := by decide +kernel
theorem dX9_sourceOf_16 : decode cX9_sourceOf 16 = .ok (.aload_n 0, 1) := by decide +kernel
theorem dX9_sourceOf_17 : decode cX9_sourceOf 17 = .ok (.getfield 21, 3) := by decide +kernel
theorem dX9_sourceOf_20 : decode cX9_sourceOf 20 = .ok (.arraylength, 1) := by decide +kernel
theorem dX9_sourceOf_21 : decode cX9_sourceOf 21 = .ok (.if_icmp .ge 12, 3) := by decide +kernel
theorem dX9_sourceOf_24 : decode cX9_sourceOf 24 = .ok (.aload_n 0, 1) := by decide +kernel
theorem dX9_sourceOf_25 : decode cX9_sourceOf 25 = .ok (.getfield 21, 3) := by decide +kernel
theorem dX9_sourceOf_28 : decode cX9_sourceOf 28 = .ok (.iload_n 2, 1) := by decide +kernel
theorem dX9_sourceOf_29 : decode cX9_sourceOf 29 = .ok (.iaload, 1) := by decide +kernel
theorem dX9_sourceOf_30 : decode cX9_sourceOf 30 = .ok (.goto 4, 3) := by decide +kernel
theorem dX9_sourceOf_33 : decode cX9_sourceOf 33 = .ok (.iconst (-1), 1) := by decide +kernel
theorem dX9_sourceOf_34 : decode cX9_sourceOf 34 = .ok (.istore_n 3, 1) := by decide +kernel
theorem dX9_sourceOf_35 : decode cX9_sourceOf 35 = .ok (.aload_n 0, 1) := by decide +kernel
theorem dX9_sourceOf_36 : decode cX9_sourceOf 36 = .ok (.iload_n 3, 1) := by decide +kernel
theorem dX9_sourceOf_37 : decode cX9_sourceOf 37 = .ok (.invokevirtual 55, 3) := by decide +kernel
theorem dX9_sourceOf_40 : decode cX9_sourceOf 40 = .ok (.aload_n 0, 1) := by decide +kernel
theorem dX9_sourceOf_41 : decode cX9_sourceOf 41 = .ok (.getfield 31, 3) := by decide +kernel
theorem dX9_sourceOf_44 : decode cX9_sourceOf 44 = .ok (.iconst 1, 1) := by decide +kernel
theorem dX9_sourceOf_45 : decode cX9_sourceOf 45 = .ok (.isub, 1) := by decide +kernel
theorem dX9_sourceOf_46 : decode cX9_sourceOf 46 = .ok (.if_icmp .ne 13, 3) := by decide +kernel
theorem dX9_sourceOf_49 : decode cX9_sourceOf 49 = .ok (.iconst 2, 1) := by decide +kernel
theorem dX9_sourceOf_50 : decode cX9_sourceOf 50 = .ok (.aload_n 0, 1) := by decide +kernel
theorem dX9_sourceOf_51 : decode cX9_sourceOf 51 = .ok (.iload_n 3, 1) := by decide +kernel
theorem dX9_sourceOf_52 : decode cX9_sourceOf 52 = .ok (.invokevirtual 62, 3) := by decide +kernel
theorem dX9_sourceOf_55 : decode cX9_sourceOf 55 = .ok (.imul, 1) := by decide +kernel
theorem dX9_sourceOf_56 : decode cX9_sourceOf 56 = .ok (.goto 18, 3) := by decide +kernel
theorem dX9_sourceOf_59 : decode cX9_sourceOf 59 = .ok (.iconst 2, 1) := by decide +kernel
theorem dX9_sourceOf_60 : decode cX9_sourceOf 60 = .ok (.aload_n 0, 1) := by decide +kernel
theorem dX9_sourceOf_61 : decode cX9_sourceOf 61 = .ok (.aload_n 0, 1) := by decide +kernel
theorem dX9_sourceOf_62 : decode cX9_sourceOf 62 = .ok (.getfield 31, 3) := by decide +kernel
theorem dX9_sourceOf_65 : decode cX9_sourceOf 65 = .ok (.iconst 1, 1) := by decide +kernel
theorem dX9_sourceOf_66 : decode cX9_sourceOf 66 = .ok (.isub, 1) := by decide +kernel
theorem dX9_sourceOf_67 : decode cX9_sourceOf 67 = .ok (.iload_n 3, 1) := by decide +kernel
theorem dX9_sourceOf_68 : decode cX9_sourceOf 68 = .ok (.invokevirtual 59, 3) := by decide +kernel
theorem dX9_sourceOf_71 : decode cX9_sourceOf 71 = .ok (.imul, 1) := by decide +kernel
theorem dX9_sourceOf_72 : decode cX9_sourceOf 72 = .ok (.iconst 1, 1) := by decide +kernel
theorem dX9_sourceOf_73 : decode cX9_sourceOf 73 = .ok (.iadd, 1) := by decide +kernel
theorem dX9_sourceOf_74 : decode cX9_sourceOf 74 = .ok (.ireturn, 1) := by decide +kernel
theorem dX10_of_0 : decode cX10_of 0 = .ok (.iload_n 0, 1) := by decide +kernel
theorem dX10_of_1 : decode cX10_of 1 = .ok (.i2l, 1) := by decide +kernel
theorem dX10_of_2 : decode cX10_of 2 = .ok (.bipush 32, 2) := by decide +kernel
theorem dX10_of_4 : decode cX10_of 4 = .ok (.lshl, 1) := by decide +kernel
theorem dX10_of_5 : decode cX10_of 5 = .ok (.iload_n 1, 1) := by decide +kernel
theorem dX10_of_6 : decode cX10_of 6 = .ok (.i2l, 1) := by decide +kernel
theorem dX10_of_7 : decode cX10_of 7 = .ok (.ldc2_w 9, 3) := by decide +kernel
theorem dX10_of_10 : decode cX10_of 10 = .ok (.land, 1) := by decide +kernel
theorem dX10_of_11 : decode cX10_of 11 = .ok (.lor, 1) := by decide +kernel
theorem dX10_of_12 : decode cX10_of 12 = .ok (.lreturn, 1) := by decide +kernel
theorem dX10_kindOf_0 : decode cX10_kindOf 0 = .ok (.lload_n 0, 1) := by decide +kernel
theorem dX10_kindOf_1 : decode cX10_kindOf 1 = .ok (.bipush 32, 2) := by decide +kernel
theorem dX10_kindOf_3 : decode cX10_kindOf 3 = .ok (.lushr, 1) := by decide +kernel
theorem dX10_kindOf_4 : decode cX10_kindOf 4 = .ok (.l2i, 1) := by decide +kernel
theorem dX10_kindOf_5 : decode cX10_kindOf 5 = .ok (.ireturn, 1) := by decide +kernel
theorem dX10_contentOf_0 : decode cX10_contentOf 0 = .ok (.lload_n 0, 1) := by decide +kernel
theorem dX10_contentOf_1 : decode cX10_contentOf 1 = .ok (.l2i, 1) := by decide +kernel
theorem dX10_contentOf_2 : decode cX10_contentOf 2 = .ok (.ireturn, 1) := by decide +kernel
theorem dX10_truth_0 : decode cX10_truth 0 = .ok (.iload_n 0, 1) := by decide +kernel
theorem dX10_truth_1 : decode cX10_truth 1 = .ok (.ifCond .eq 7, 3) := by decide +kernel
theorem dX10_truth_4 : decode cX10_truth 4 = .ok (.iconst 3, 1) := by decide +kernel
theorem dX10_truth_5 : decode cX10_truth 5 = .ok (.goto 4, 3) := by decide +kernel
theorem dX10_truth_8 : decode cX10_truth 8 = .ok (.iconst 2, 1) := by decide +kernel
theorem dX10_truth_9 : decode cX10_truth 9 = .ok (.iconst 0, 1) := by decide +kernel
theorem dX10_truth_10 : decode cX10_truth 10 = .ok (.invokestatic 11, 3) := by decide +kernel
theorem dX10_truth_13 : decode cX10_truth 13 = .ok (.lreturn, 1) := by decide +kernel
theorem dX11_init_0 : decode cX11_init 0 = .ok (.aload_n 0, 1) := by decide +kernel
theorem dX11_init_1 : decode cX11_init 1 = .ok (.invokespecial 1, 3) := by decide +kernel
theorem dX11_init_4 : decode cX11_init 4 = .ok (.aload_n 0, 1) := by decide +kernel
theorem dX11_init_5 : decode cX11_init 5 = .ok (.sipush 3000, 3) := by decide +kernel
theorem dX11_init_8 : decode cX11_init 8 = .ok (.newarray .byte, 2) := by decide +kernel
theorem dX11_init_10 : decode cX11_init 10 = .ok (.putfield 9, 3) := by decide +kernel
theorem dX11_init_13 : decode cX11_init 13 = .ok (.aload_n 0, 1) := by decide +kernel
theorem dX11_init_14 : decode cX11_init 14 = .ok (.new 13, 3) := by decide +kernel
theorem dX11_init_17 : decode cX11_init 17 = .ok (.dup, 1) := by decide +kernel
theorem dX11_init_18 : decode cX11_init 18 = .ok (.invokespecial 15, 3) := by decide +kernel
theorem dX11_init_21 : decode cX11_init 21 = .ok (.putfield 16, 3) := by decide +kernel
theorem dX11_init_24 : decode cX11_init 24 = .ok (.aload_n 0, 1) := by decide +kernel
theorem dX11_init_25 : decode cX11_init 25 = .ok (.new 20, 3) := by decide +kernel
theorem dX11_init_28 : decode cX11_init 28 = .ok (.dup, 1) := by decide +kernel
theorem dX11_init_29 : decode cX11_init 29 = .ok (.aload_n 0, 1) := by decide +kernel
theorem dX11_init_30 : decode cX11_init 30 = .ok (.getfield 16, 3) := by decide +kernel
theorem dX11_init_33 : decode cX11_init 33 = .ok (.invokespecial 22, 3) := by decide +kernel
theorem dX11_init_36 : decode cX11_init 36 = .ok (.putfield 25, 3) := by decide +kernel
theorem dX11_init_39 : decode cX11_init 39 = .ok (.aload_n 0, 1) := by decide +kernel
theorem dX11_init_40 : decode cX11_init 40 = .ok (.new 29, 3) := by decide +kernel
theorem dX11_init_43 : decode cX11_init 43 = .ok (.dup, 1) := by decide +kernel
theorem dX11_init_44 : decode cX11_init 44 = .ok (.invokespecial 31, 3) := by decide +kernel
theorem dX11_init_47 : decode cX11_init 47 = .ok (.putfield 32, 3) := by decide +kernel
theorem dX11_init_50 : decode cX11_init 50 = .ok (.aload_n 0, 1) := by decide +kernel
theorem dX11_init_51 : decode cX11_init 51 = .ok (.new 29, 3) := by decide +kernel
theorem dX11_init_54 : decode cX11_init 54 = .ok (.dup, 1) := by decide +kernel
theorem dX11_init_55 : decode cX11_init 55 = .ok (.invokespecial 31, 3) := by decide +kernel
theorem dX11_init_58 : decode cX11_init 58 = .ok (.putfield 36, 3) := by decide +kernel
theorem dX11_init_61 : decode cX11_init 61 = .ok (.aload_n 0, 1) := by decide +kernel
theorem dX11_init_62 : decode cX11_init 62 = .ok (.new 39, 3) := by decide +kernel
theorem dX11_init_65 : decode cX11_init 65 = .ok (.dup, 1) := by decide +kernel
theorem dX11_init_66 : decode cX11_init 66 = .ok (.aload_n 0, 1) := by decide +kernel
theorem dX11_init_67 : decode cX11_init 67 = .ok (.getfield 25, 3) := by decide +kernel
theorem dX11_init_70 : decode cX11_init 70 = .ok (.aload_n 0, 1) := by decide +kernel
theorem dX11_init_71 : decode cX11_init 71 = .ok (.getfield 16, 3) := by decide +kernel
theorem dX11_init_74 : decode cX11_init 74 = .ok (.aload_n 0, 1) := by decide +kernel
theorem dX11_init_75 : decode cX11_init 75 = .ok (.getfield 36, 3) := by decide +kernel
theorem dX11_init_78 : decode cX11_init 78 = .ok (.invokespecial 41, 3) := by decide +kernel
theorem dX11_init_81 : decode cX11_init 81 = .ok (.putfield 44, 3) := by decide +kernel
theorem dX11_init_84 : decode cX11_init 84 = .ok (.aload_n 0, 1) := by decide +kernel
theorem dX11_init_85 : decode cX11_init 85 = .ok (.new 48, 3) := by decide +kernel
theorem dX11_init_88 : decode cX11_init 88 = .ok (.dup, 1) := by decide +kernel
theorem dX11_init_89 : decode cX11_init 89 = .ok (.aload_n 0, 1) := by decide +kernel
theorem dX11_init_90 : decode cX11_init 90 = .ok (.getfield 32, 3) := by decide +kernel
theorem dX11_init_93 : decode cX11_init 93 = .ok (.invokespecial 50, 3) := by decide +kernel
theorem dX11_init_96 : decode cX11_init 96 = .ok (.putfield 53, 3) := by decide +kernel
theorem dX11_init_99 : decode cX11_init 99 = .ok (.aload_n 0, 1) := by decide +kernel
theorem dX11_init_100 : decode cX11_init 100 = .ok (.lconst 0, 1) := by decide +kernel
theorem dX11_init_101 : decode cX11_init 101 = .ok (.putfield 57, 3) := by decide +kernel
theorem dX11_init_104 : decode cX11_init 104 = .ok (.aload_n 0, 1) := by decide +kernel
theorem dX11_init_105 : decode cX11_init 105 = .ok (.iconst 4, 1) := by decide +kernel
theorem dX11_init_106 : decode cX11_init 106 = .ok (.newarray .long, 2) := by decide +kernel
theorem dX11_init_108 : decode cX11_init 108 = .ok (.putfield 61, 3) := by decide +kernel
theorem dX11_init_111 : decode cX11_init 111 = .ok (.return_, 1) := by decide +kernel
theorem dX11_feed_0 : decode cX11_feed 0 = .ok (.aload_n 0, 1) := by decide +kernel
theorem dX11_feed_1 : decode cX11_feed 1 = .ok (.getfield 65, 3) := by decide +kernel
theorem dX11_feed_4 : decode cX11_feed 4 = .ok (.bipush 20, 2) := by decide +kernel
theorem dX11_feed_6 : decode cX11_feed 6 = .ok (.iadd, 1) := by decide +kernel
theorem dX11_feed_7 : decode cX11_feed 7 = .ok (.sipush 3000, 3) := by decide +kernel
theorem dX11_feed_10 : decode cX11_feed 10 = .ok (.if_icmp .le 5, 3) := by decide +kernel
theorem dX11_feed_13 : decode cX11_feed 13 = .ok (.iconst (-1), 1) := by decide +kernel
theorem dX11_feed_14 : decode cX11_feed 14 = .ok (.ireturn, 1) := by decide +kernel
theorem dX11_feed_15 : decode cX11_feed 15 = .ok (.aload_n 0, 1) := by decide +kernel
theorem dX11_feed_16 : decode cX11_feed 16 = .ok (.iload_n 1, 1) := by decide +kernel
theorem dX11_feed_17 : decode cX11_feed 17 = .ok (.invokevirtual 69, 3) := by decide +kernel
theorem dX11_feed_20 : decode cX11_feed 20 = .ok (.aload_n 0, 1) := by decide +kernel
theorem dX11_feed_21 : decode cX11_feed 21 = .ok (.iload_n 2, 1) := by decide +kernel
theorem dX11_feed_22 : decode cX11_feed 22 = .ok (.invokevirtual 69, 3) := by decide +kernel
theorem dX11_feed_25 : decode cX11_feed 25 = .ok (.aload_n 0, 1) := by decide +kernel
theorem dX11_feed_26 : decode cX11_feed 26 = .ok (.iload_n 3, 1) := by decide +kernel
theorem dX11_feed_27 : decode cX11_feed 27 = .ok (.invokevirtual 69, 3) := by decide +kernel
theorem dX11_feed_30 : decode cX11_feed 30 = .ok (.aload_n 0, 1) := by decide +kernel
theorem dX11_feed_31 : decode cX11_feed 31 = .ok (.iload 4, 2) := by decide +kernel
theorem dX11_feed_33 : decode cX11_feed 33 = .ok (.invokevirtual 69, 3) := by decide +kernel
theorem dX11_feed_36 : decode cX11_feed 36 = .ok (.aload_n 0, 1) := by decide +kernel
theorem dX11_feed_37 : decode cX11_feed 37 = .ok (.iload 5, 2) := by decide +kernel
theorem dX11_feed_39 : decode cX11_feed 39 = .ok (.invokevirtual 69, 3) := by decide +kernel
theorem dX11_feed_42 : decode cX11_feed 42 = .ok (.aload_n 0, 1) := by decide +kernel
theorem dX11_feed_43 : decode cX11_feed 43 = .ok (.getfield 65, 3) := by decide +kernel
theorem dX11_feed_46 : decode cX11_feed 46 = .ok (.ireturn, 1) := by decide +kernel
theorem dX11_putOnTape_0 : decode cX11_putOnTape 0 = .ok (.bipush 24, 2) := by decide +kernel
theorem dX11_putOnTape_2 : decode cX11_putOnTape 2 = .ok (.istore_n 2, 1) := by decide +kernel
theorem dX11_putOnTape_3 : decode cX11_putOnTape 3 = .ok (.iload_n 2, 1) := by decide +kernel
theorem dX11_putOnTape_4 : decode cX11_putOnTape 4 = .ok (.ifCond .lt 44, 3) := by decide +kernel
theorem dX11_putOnTape_7 : decode cX11_putOnTape 7 = .ok (.aload_n 0, 1) := by decide +kernel
theorem dX11_putOnTape_8 : decode cX11_putOnTape 8 = .ok (.getfield 65, 3) := by decide +kernel
theorem dX11_putOnTape_11 : decode cX11_putOnTape 11 = .ok (.aload_n 0, 1) := by decide +kernel
theorem dX11_putOnTape_12 : decode cX11_putOnTape 12 = .ok (.getfield 9, 3) := by decide +kernel
theorem dX11_putOnTape_15 : decode cX11_putOnTape 15 = .ok (.arraylength, 1) := by decide +kernel
theorem dX11_putOnTape_16 : decode cX11_putOnTape 16 = .ok (.if_icmp .ge 26, 3) := by decide +kernel
theorem dX11_putOnTape_19 : decode cX11_putOnTape 19 = .ok (.aload_n 0, 1) := by decide +kernel
theorem dX11_putOnTape_20 : decode cX11_putOnTape 20 = .ok (.getfield 9, 3) := by decide +kernel
theorem dX11_putOnTape_23 : decode cX11_putOnTape 23 = .ok (.aload_n 0, 1) := by decide +kernel
theorem dX11_putOnTape_24 : decode cX11_putOnTape 24 = .ok (.getfield 65, 3) := by decide +kernel
theorem dX11_putOnTape_27 : decode cX11_putOnTape 27 = .ok (.iload_n 1, 1) := by decide +kernel
theorem dX11_putOnTape_28 : decode cX11_putOnTape 28 = .ok (.iload_n 2, 1) := by decide +kernel
theorem dX11_putOnTape_29 : decode cX11_putOnTape 29 = .ok (.ishr, 1) := by decide +kernel
theorem dX11_putOnTape_30 : decode cX11_putOnTape 30 = .ok (.i2b, 1) := by decide +kernel
theorem dX11_putOnTape_31 : decode cX11_putOnTape 31 = .ok (.bastore, 1) := by decide +kernel
theorem dX11_putOnTape_32 : decode cX11_putOnTape 32 = .ok (.aload_n 0, 1) := by decide +kernel
theorem dX11_putOnTape_33 : decode cX11_putOnTape 33 = .ok (.dup, 1) := by decide +kernel
theorem dX11_putOnTape_34 : decode cX11_putOnTape 34 = .ok (.getfield 65, 3) := by decide +kernel
theorem dX11_putOnTape_37 : decode cX11_putOnTape 37 = .ok (.iconst 1, 1) := by decide +kernel
theorem dX11_putOnTape_38 : decode cX11_putOnTape 38 = .ok (.iadd, 1) := by decide +kernel
theorem dX11_putOnTape_39 : decode cX11_putOnTape 39 = .ok (.putfield 65, 3) := by decide +kernel
theorem dX11_putOnTape_42 : decode cX11_putOnTape 42 = .ok (.iinc 2 (-8), 3) := by decide +kernel
theorem dX11_putOnTape_45 : decode cX11_putOnTape 45 = .ok (.goto (-42), 3) := by decide +kernel
theorem dX11_putOnTape_48 : decode cX11_putOnTape 48 = .ok (.return_, 1) := by decide +kernel
theorem dX11_build_0 : decode cX11_build 0 = .ok (.iload_n 1, 1) := by decide +kernel
theorem dX11_build_1 : decode cX11_build 1 = .ok (.ifCond .lt 11, 3) := by decide +kernel
theorem dX11_build_4 : decode cX11_build 4 = .ok (.iload_n 1, 1) := by decide +kernel
theorem dX11_build_5 : decode cX11_build 5 = .ok (.aload_n 0, 1) := by decide +kernel
theorem dX11_build_6 : decode cX11_build 6 = .ok (.getfield 65, 3) := by decide +kernel
theorem dX11_build_9 : decode cX11_build 9 = .ok (.if_icmp .le 6, 3) := by decide +kernel
theorem dX11_build_12 : decode cX11_build 12 = .ok (.bipush (-2), 2) := by decide +kernel
theorem dX11_build_14 : decode cX11_build 14 = .ok (.ireturn, 1) := by decide +kernel
theorem dX11_build_15 : decode cX11_build 15 = .ok (.aload_n 0, 1) := by decide +kernel
theorem dX11_build_16 : decode cX11_build 16 = .ok (.iconst 0, 1) := by decide +kernel
theorem dX11_build_17 : decode cX11_build 17 = .ok (.putfield 65, 3) := by decide +kernel
theorem dX11_build_20 : decode cX11_build 20 = .ok (.aload_n 0, 1) := by decide +kernel
theorem dX11_build_21 : decode cX11_build 21 = .ok (.getfield 16, 3) := by decide +kernel
theorem dX11_build_24 : decode cX11_build 24 = .ok (.invokevirtual 73, 3) := by decide +kernel
theorem dX11_build_27 : decode cX11_build 27 = .ok (.aload_n 0, 1) := by decide +kernel
theorem dX11_build_28 : decode cX11_build 28 = .ok (.getfield 25, 3) := by decide +kernel
theorem dX11_build_31 : decode cX11_build 31 = .ok (.aload_n 0, 1) := by decide +kernel
theorem dX11_build_32 : decode cX11_build 32 = .ok (.getfield 9, 3) := by decide +kernel
theorem dX11_build_35 : decode cX11_build 35 = .ok (.iload_n 1, 1) := by decide +kernel
theorem dX11_build_36 : decode cX11_build 36 = .ok (.invokevirtual 76, 3) := by decide +kernel
theorem dX11_build_39 : decode cX11_build 39 = .ok (.aload_n 0, 1) := by decide +kernel
theorem dX11_build_40 : decode cX11_build 40 = .ok (.getfield 16, 3) := by decide +kernel
theorem dX11_build_43 : decode cX11_build 43 = .ok (.invokevirtual 80, 3) := by decide +kernel
theorem dX11_build_46 : decode cX11_build 46 = .ok (.ifCond .eq 14, 3) := by decide +kernel
theorem dX11_build_49 : decode cX11_build 49 = .ok (.aload_n 0, 1) := by decide +kernel
theorem dX11_build_50 : decode cX11_build 50 = .ok (.getfield 44, 3) := by decide +kernel
theorem dX11_build_53 : decode cX11_build 53 = .ok (.aload_n 0, 1) := by decide +kernel
theorem dX11_build_54 : decode cX11_build 54 = .ok (.getfield 36, 3) := by decide +kernel
theorem dX11_build_57 : decode cX11_build 57 = .ok (.invokevirtual 84, 3) := by decide +kernel
theorem dX11_build_60 : decode cX11_build 60 = .ok (.aload_n 0, 1) := by decide +kernel
theorem dX11_build_61 : decode cX11_build 61 = .ok (.getfield 16, 3) := by decide +kernel
theorem dX11_build_64 : decode cX11_build 64 = .ok (.invokevirtual 80, 3) := by decide +kernel
theorem dX11_build_67 : decode cX11_build 67 = .ok (.ifCond .ne 5, 3) := by decide +kernel
theorem dX11_build_70 : decode cX11_build 70 = .ok (.iconst (-1), 1) := by decide +kernel
theorem dX11_build_71 : decode cX11_build 71 = .ok (.ireturn, 1) := by decide +kernel
theorem dX11_build_72 : decode cX11_build 72 = .ok (.aload_n 0, 1) := by decide +kernel
theorem dX11_build_73 : decode cX11_build 73 = .ok (.getfield 32, 3) := by decide +kernel
theorem dX11_build_76 : decode cX11_build 76 = .ok (.astore_n 2, 1) := by decide +kernel
theorem dX11_build_77 : decode cX11_build 77 = .ok (.aload_n 0, 1) := by decide +kernel
theorem dX11_build_78 : decode cX11_build 78 = .ok (.aload_n 0, 1) := by decide +kernel
theorem dX11_build_79 : decode cX11_build 79 = .ok (.getfield 36, 3) := by decide +kernel
theorem dX11_build_82 : decode cX11_build 82 = .ok (.putfield 32, 3) := by decide +kernel
theorem dX11_build_85 : decode cX11_build 85 = .ok (.aload_n 0, 1) := by decide +kernel
theorem dX11_build_86 : decode cX11_build 86 = .ok (.aload_n 2, 1) := by decide +kernel
theorem dX11_build_87 : decode cX11_build 87 = .ok (.putfield 36, 3) := by decide +kernel
theorem dX11_build_90 : decode cX11_build 90 = .ok (.aload_n 0, 1) := by decide +kernel
theorem dX11_build_91 : decode cX11_build 91 = .ok (.iconst 1, 1) := by decide +kernel
theorem dX11_build_92 : decode cX11_build 92 = .ok (.putfield 87, 3) := by decide +kernel
theorem dX11_build_95 : decode cX11_build 95 = .ok (.aload_n 0, 1) := by decide +kernel
theorem dX11_build_96 : decode cX11_build 96 = .ok (.invokevirtual 91, 3) := by decide +kernel
theorem dX11_build_99 : decode cX11_build 99 = .ok (.iconst 0, 1) := by decide +kernel
theorem dX11_build_100 : decode cX11_build 100 = .ok (.ireturn, 1) := by decide +kernel
theorem dX11_fault_0 : decode cX11_fault 0 = .ok (.iload_n 1, 1) := by decide +kernel
theorem dX11_fault_1 : decode cX11_fault 1 = .ok (.lookupswitch 43 #[(0, 27), (1, 35)], 27) := by decide +kernel
theorem dX11_fault_28 : decode cX11_fault 28 = .ok (.aload_n 0, 1) := by decide +kernel
theorem dX11_fault_29 : decode cX11_fault 29 = .ok (.getfield 16, 3) := by decide +kernel
theorem dX11_fault_32 : decode cX11_fault 32 = .ok (.getfield 94, 3) := by decide +kernel
theorem dX11_fault_35 : decode cX11_fault 35 = .ok (.ireturn, 1) := by decide +kernel
theorem dX11_fault_36 : decode cX11_fault 36 = .ok (.aload_n 0, 1) := by decide +kernel
theorem dX11_fault_37 : decode cX11_fault 37 = .ok (.getfield 16, 3) := by decide +kernel
theorem dX11_fault_40 : decode cX11_fault 40 = .ok (.getfield 97, 3) := by decide +kernel
theorem dX11_fault_43 : decode cX11_fault 43 = .ok (.ireturn, 1) := by decide +kernel
theorem dX11_fault_44 : decode cX11_fault 44 = .ok (.iconst (-1), 1) := by decide +kernel
theorem dX11_fault_45 : decode cX11_fault 45 = .ok (.ireturn, 1) := by decide +kernel
theorem dX11_restart_0 : decode cX11_restart 0 = .ok (.aload_n 0, 1) := by decide +kernel
theorem dX11_restart_1 : decode cX11_restart 1 = .ok (.getfield 87, 3) := by decide +kernel
theorem dX11_restart_4 : decode cX11_restart 4 = .ok (.ifCond .eq 7, 3) := by decide +kernel
theorem dX11_restart_7 : decode cX11_restart 7 = .ok (.aload_n 0, 1) := by decide +kernel
theorem dX11_restart_8 : decode cX11_restart 8 = .ok (.invokevirtual 91, 3) := by decide +kernel
theorem dX11_restart_11 : decode cX11_restart 11 = .ok (.aload_n 0, 1) := by decide +kernel
theorem dX11_restart_12 : decode cX11_restart 12 = .ok (.getfield 87, 3) := by decide +kernel
theorem dX11_restart_15 : decode cX11_restart 15 = .ok (.ireturn, 1) := by decide +kernel
theorem dX11_beginAnew_0 : decode cX11_beginAnew 0 = .ok (.aload_n 0, 1) := by decide +kernel
theorem dX11_beginAnew_1 : decode cX11_beginAnew 1 = .ok (.getfield 53, 3) := by decide +kernel
theorem dX11_beginAnew_4 : decode cX11_beginAnew 4 = .ok (.aload_n 0, 1) := by decide +kernel
theorem dX11_beginAnew_5 : decode cX11_beginAnew 5 = .ok (.getfield 32, 3) := by decide +kernel
theorem dX11_beginAnew_8 : decode cX11_beginAnew 8 = .ok (.invokevirtual 100, 3) := by decide +kernel
theorem dX11_beginAnew_11 : decode cX11_beginAnew 11 = .ok (.aload_n 0, 1) := by decide +kernel
theorem dX11_beginAnew_12 : decode cX11_beginAnew 12 = .ok (.lconst 0, 1) := by decide +kernel
theorem dX11_beginAnew_13 : decode cX11_beginAnew 13 = .ok (.putfield 57, 3) := by decide +kernel
theorem dX11_beginAnew_16 : decode cX11_beginAnew 16 = .ok (.aload_n 0, 1) := by decide +kernel
theorem dX11_beginAnew_17 : decode cX11_beginAnew 17 = .ok (.getfield 61, 3) := by decide +kernel
theorem dX11_beginAnew_20 : decode cX11_beginAnew 20 = .ok (.lconst 0, 1) := by decide +kernel
theorem dX11_beginAnew_21 : decode cX11_beginAnew 21 = .ok (.invokestatic 103, 3) := by decide +kernel
theorem dX11_beginAnew_24 : decode cX11_beginAnew 24 = .ok (.return_, 1) := by decide +kernel
theorem dX11_input_0 : decode cX11_input 0 = .ok (.aload_n 0, 1) := by decide +kernel
theorem dX11_input_1 : decode cX11_input 1 = .ok (.getfield 87, 3) := by decide +kernel
theorem dX11_input_4 : decode cX11_input 4 = .ok (.ifCond .eq 17, 3) := by decide +kernel
theorem dX11_input_7 : decode cX11_input 7 = .ok (.aload_n 0, 1) := by decide +kernel
theorem dX11_input_8 : decode cX11_input 8 = .ok (.getfield 53, 3) := by decide +kernel
theorem dX11_input_11 : decode cX11_input 11 = .ok (.getfield 109, 3) := by decide +kernel
theorem dX11_input_14 : decode cX11_input 14 = .ok (.iload_n 1, 1) := by decide +kernel
theorem dX11_input_15 : decode cX11_input 15 = .ok (.invokevirtual 113, 3) := by decide +kernel
theorem dX11_input_18 : decode cX11_input 18 = .ok (.goto 4, 3) := by decide +kernel
theorem dX11_input_21 : decode cX11_input 21 = .ok (.iconst (-1), 1) := by decide +kernel
theorem dX11_input_22 : decode cX11_input 22 = .ok (.ireturn, 1) := by decide +kernel
theorem dX11_run_0 : decode cX11_run 0 = .ok (.aload_n 0, 1) := by decide +kernel
theorem dX11_run_1 : decode cX11_run 1 = .ok (.getfield 87, 3) := by decide +kernel
theorem dX11_run_4 : decode cX11_run 4 = .ok (.ifCond .eq 14, 3) := by decide +kernel
theorem dX11_run_7 : decode cX11_run 7 = .ok (.iload_n 1, 1) := by decide +kernel
theorem dX11_run_8 : decode cX11_run 8 = .ok (.ifCond .lt 10, 3) := by decide +kernel
theorem dX11_run_11 : decode cX11_run 11 = .ok (.iload_n 1, 1) := by decide +kernel
theorem dX11_run_12 : decode cX11_run 12 = .ok (.sipush 20000, 3) := by decide +kernel
theorem dX11_run_15 : decode cX11_run 15 = .ok (.if_icmp .le 5, 3) := by decide +kernel
theorem dX11_run_18 : decode cX11_run 18 = .ok (.iconst (-1), 1) := by decide +kernel
theorem dX11_run_19 : decode cX11_run 19 = .ok (.ireturn, 1) := by decide +kernel
theorem dX11_run_20 : decode cX11_run 20 = .ok (.aload_n 0, 1) := by decide +kernel
theorem dX11_run_21 : decode cX11_run 21 = .ok (.getfield 53, 3) := by decide +kernel
theorem dX11_run_24 : decode cX11_run 24 = .ok (.iload_n 1, 1) := by decide +kernel
theorem dX11_run_25 : decode cX11_run 25 = .ok (.invokevirtual 119, 3) := by decide +kernel
theorem dX11_run_28 : decode cX11_run 28 = .ok (.aload_n 0, 1) := by decide +kernel
theorem dX11_run_29 : decode cX11_run 29 = .ok (.aload_n 0, 1) := by decide +kernel
theorem dX11_run_30 : decode cX11_run 30 = .ok (.getfield 53, 3) := by decide +kernel
theorem dX11_run_33 : decode cX11_run 33 = .ok (.getfield 122, 3) := by decide +kernel
theorem dX11_run_36 : decode cX11_run 36 = .ok (.putfield 57, 3) := by decide +kernel
theorem dX11_run_39 : decode cX11_run 39 = .ok (.aload_n 0, 1) := by decide +kernel
theorem dX11_run_40 : decode cX11_run 40 = .ok (.getfield 53, 3) := by decide +kernel
theorem dX11_run_43 : decode cX11_run 43 = .ok (.getfield 125, 3) := by decide +kernel
theorem dX11_run_46 : decode cX11_run 46 = .ok (.ireturn, 1) := by decide +kernel
theorem dX11_output_0 : decode cX11_output 0 = .ok (.aload_n 0, 1) := by decide +kernel
theorem dX11_output_1 : decode cX11_output 1 = .ok (.getfield 53, 3) := by decide +kernel
theorem dX11_output_4 : decode cX11_output 4 = .ok (.getfield 109, 3) := by decide +kernel
theorem dX11_output_7 : decode cX11_output 7 = .ok (.iload_n 1, 1) := by decide +kernel
theorem dX11_output_8 : decode cX11_output 8 = .ok (.invokevirtual 128, 3) := by decide +kernel
theorem dX11_output_11 : decode cX11_output 11 = .ok (.ireturn, 1) := by decide +kernel
theorem dX11_clear_0 : decode cX11_clear 0 = .ok (.aload_n 0, 1) := by decide +kernel
theorem dX11_clear_1 : decode cX11_clear 1 = .ok (.getfield 53, 3) := by decide +kernel
theorem dX11_clear_4 : decode cX11_clear 4 = .ok (.getfield 109, 3) := by decide +kernel
theorem dX11_clear_7 : decode cX11_clear 7 = .ok (.invokevirtual 131, 3) := by decide +kernel
theorem dX11_clear_10 : decode cX11_clear 10 = .ok (.ireturn, 1) := by decide +kernel
theorem dX11_global_0 : decode cX11_global 0 = .ok (.aload_n 0, 1) := by decide +kernel
theorem dX11_global_1 : decode cX11_global 1 = .ok (.getfield 87, 3) := by decide +kernel
theorem dX11_global_4 : decode cX11_global 4 = .ok (.ifCond .eq 18, 3) := by decide +kernel
theorem dX11_global_7 : decode cX11_global 7 = .ok (.iload_n 1, 1) := by decide +kernel
theorem dX11_global_8 : decode cX11_global 8 = .ok (.ifCond .lt 14, 3) := by decide +kernel
theorem dX11_global_11 : decode cX11_global 11 = .ok (.iload_n 1, 1) := by decide +kernel
theorem dX11_global_12 : decode cX11_global 12 = .ok (.aload_n 0, 1) := by decide +kernel
theorem dX11_global_13 : decode cX11_global 13 = .ok (.getfield 32, 3) := by decide +kernel
theorem dX11_global_16 : decode cX11_global 16 = .ok (.getfield 135, 3) := by decide +kernel
theorem dX11_global_19 : decode cX11_global 19 = .ok (.if_icmp .lt 5, 3) := by decide +kernel
theorem dX11_global_22 : decode cX11_global 22 = .ok (.iconst 0, 1) := by decide +kernel
theorem dX11_global_23 : decode cX11_global 23 = .ok (.ireturn, 1) := by decide +kernel
theorem dX11_global_24 : decode cX11_global 24 = .ok (.aload_n 0, 1) := by decide +kernel
theorem dX11_global_25 : decode cX11_global 25 = .ok (.aload_n 0, 1) := by decide +kernel
theorem dX11_global_26 : decode cX11_global 26 = .ok (.getfield 53, 3) := by decide +kernel
theorem dX11_global_29 : decode cX11_global 29 = .ok (.iload_n 1, 1) := by decide +kernel
theorem dX11_global_30 : decode cX11_global 30 = .ok (.invokevirtual 138, 3) := by decide +kernel
theorem dX11_global_33 : decode cX11_global 33 = .ok (.putfield 57, 3) := by decide +kernel
theorem dX11_global_36 : decode cX11_global 36 = .ok (.iconst 1, 1) := by decide +kernel
theorem dX11_global_37 : decode cX11_global 37 = .ok (.ireturn, 1) := by decide +kernel
theorem dX11_go_0 : decode cX11_go 0 = .ok (.aload_n 0, 1) := by decide +kernel
theorem dX11_go_1 : decode cX11_go 1 = .ok (.getfield 57, 3) := by decide +kernel
theorem dX11_go_4 : decode cX11_go 4 = .ok (.invokestatic 142, 3) := by decide +kernel
theorem dX11_go_7 : decode cX11_go 7 = .ok (.bipush 6, 2) := by decide +kernel
theorem dX11_go_9 : decode cX11_go 9 = .ok (.if_icmp .ne 12, 3) := by decide +kernel
theorem dX11_go_12 : decode cX11_go 12 = .ok (.iload_n 1, 1) := by decide +kernel
theorem dX11_go_13 : decode cX11_go 13 = .ok (.ifCond .eq 10, 3) := by decide +kernel
theorem dX11_go_16 : decode cX11_go 16 = .ok (.iload_n 1, 1) := by decide +kernel
theorem dX11_go_17 : decode cX11_go 17 = .ok (.iconst 1, 1) := by decide +kernel
theorem dX11_go_18 : decode cX11_go 18 = .ok (.if_icmp .eq 5, 3) := by decide +kernel
theorem dX11_go_21 : decode cX11_go 21 = .ok (.iconst 0, 1) := by decide +kernel
theorem dX11_go_22 : decode cX11_go 22 = .ok (.ireturn, 1) := by decide +kernel
theorem dX11_go_23 : decode cX11_go 23 = .ok (.aload_n 0, 1) := by decide +kernel
theorem dX11_go_24 : decode cX11_go 24 = .ok (.aload_n 0, 1) := by decide +kernel
theorem dX11_go_25 : decode cX11_go 25 = .ok (.getfield 53, 3) := by decide +kernel
theorem dX11_go_28 : decode cX11_go 28 = .ok (.getfield 148, 3) := by decide +kernel
theorem dX11_go_31 : decode cX11_go 31 = .ok (.aload_n 0, 1) := by decide +kernel
theorem dX11_go_32 : decode cX11_go 32 = .ok (.getfield 57, 3) := by decide +kernel
theorem dX11_go_35 : decode cX11_go 35 = .ok (.invokestatic 152, 3) := by decide +kernel
theorem dX11_go_38 : decode cX11_go 38 = .ok (.iload_n 1, 1) := by decide +kernel
theorem dX11_go_39 : decode cX11_go 39 = .ok (.iadd, 1) := by decide +kernel
theorem dX11_go_40 : decode cX11_go 40 = .ok (.invokevirtual 155, 3) := by decide +kernel
theorem dX11_go_43 : decode cX11_go 43 = .ok (.putfield 57, 3) := by decide +kernel
theorem dX11_go_46 : decode cX11_go 46 = .ok (.iconst 1, 1) := by decide +kernel
theorem dX11_go_47 : decode cX11_go 47 = .ok (.ireturn, 1) := by decide +kernel
theorem dX11_mark_0 : decode cX11_mark 0 = .ok (.iload_n 1, 1) := by decide +kernel
theorem dX11_mark_1 : decode cX11_mark 1 = .ok (.ifCond .lt 8, 3) := by decide +kernel
theorem dX11_mark_4 : decode cX11_mark 4 = .ok (.iload_n 1, 1) := by decide +kernel
theorem dX11_mark_5 : decode cX11_mark 5 = .ok (.iconst 4, 1) := by decide +kernel
theorem dX11_mark_6 : decode cX11_mark 6 = .ok (.if_icmp .lt 5, 3) := by decide +kernel
theorem dX11_mark_9 : decode cX11_mark 9 = .ok (.iconst 0, 1) := by decide +kernel
theorem dX11_mark_10 : decode cX11_mark 10 = .ok (.ireturn, 1) := by decide +kernel
theorem dX11_mark_11 : decode cX11_mark 11 = .ok (.aload_n 0, 1) := by decide +kernel
theorem dX11_mark_12 : decode cX11_mark 12 = .ok (.getfield 61, 3) := by decide +kernel
theorem dX11_mark_15 : decode cX11_mark 15 = .ok (.iload_n 1, 1) := by decide +kernel
theorem dX11_mark_16 : decode cX11_mark 16 = .ok (.aload_n 0, 1) := by decide +kernel
theorem dX11_mark_17 : decode cX11_mark 17 = .ok (.getfield 57, 3) := by decide +kernel
theorem dX11_mark_20 : decode cX11_mark 20 = .ok (.lastore, 1) := by decide +kernel
theorem dX11_mark_21 : decode cX11_mark 21 = .ok (.iconst 1, 1) := by decide +kernel
theorem dX11_mark_22 : decode cX11_mark 22 = .ok (.ireturn, 1) := by decide +kernel
theorem dX11_same_0 : decode cX11_same 0 = .ok (.iload_n 1, 1) := by decide +kernel
theorem dX11_same_1 : decode cX11_same 1 = .ok (.ifCond .lt 26, 3) := by decide +kernel
theorem dX11_same_4 : decode cX11_same 4 = .ok (.iload_n 1, 1) := by decide +kernel
theorem dX11_same_5 : decode cX11_same 5 = .ok (.iconst 4, 1) := by decide +kernel
theorem dX11_same_6 : decode cX11_same 6 = .ok (.if_icmp .ge 21, 3) := by decide +kernel
theorem dX11_same_9 : decode cX11_same 9 = .ok (.aload_n 0, 1) := by decide +kernel
theorem dX11_same_10 : decode cX11_same 10 = .ok (.getfield 61, 3) := by decide +kernel
theorem dX11_same_13 : decode cX11_same 13 = .ok (.iload_n 1, 1) := by decide +kernel
theorem dX11_same_14 : decode cX11_same 14 = .ok (.laload, 1) := by decide +kernel
theorem dX11_same_15 : decode cX11_same 15 = .ok (.aload_n 0, 1) := by decide +kernel
theorem dX11_same_16 : decode cX11_same 16 = .ok (.getfield 57, 3) := by decide +kernel
theorem dX11_same_19 : decode cX11_same 19 = .ok (.lcmp, 1) := by decide +kernel
theorem dX11_same_20 : decode cX11_same 20 = .ok (.ifCond .ne 7, 3) := by decide +kernel
theorem dX11_same_23 : decode cX11_same 23 = .ok (.iconst 1, 1) := by decide +kernel
theorem dX11_same_24 : decode cX11_same 24 = .ok (.goto 4, 3) := by decide +kernel
theorem dX11_same_27 : decode cX11_same 27 = .ok (.iconst 0, 1) := by decide +kernel
theorem dX11_same_28 : decode cX11_same 28 = .ok (.ireturn, 1) := by decide +kernel
theorem dX11_at_0 : decode cX11_at 0 = .ok (.iload_n 1, 1) := by decide +kernel
theorem dX11_at_1 : decode cX11_at 1 = .ok (.lookupswitch 40 #[(0, 27), (1, 35)], 27) := by decide +kernel
theorem dX11_at_28 : decode cX11_at 28 = .ok (.aload_n 0, 1) := by decide +kernel
theorem dX11_at_29 : decode cX11_at 29 = .ok (.getfield 57, 3) := by decide +kernel
theorem dX11_at_32 : decode cX11_at 32 = .ok (.invokestatic 142, 3) := by decide +kernel
theorem dX11_at_35 : decode cX11_at 35 = .ok (.ireturn, 1) := by decide +kernel
theorem dX11_at_36 : decode cX11_at 36 = .ok (.aload_n 0, 1) := by decide +kernel
theorem dX11_at_37 : decode cX11_at 37 = .ok (.invokevirtual 160, 3) := by decide +kernel
theorem dX11_at_40 : decode cX11_at 40 = .ok (.ireturn, 1) := by decide +kernel
theorem dX11_at_41 : decode cX11_at 41 = .ok (.iconst (-1), 1) := by decide +kernel
theorem dX11_at_42 : decode cX11_at 42 = .ok (.ireturn, 1) := by decide +kernel
theorem dX11_numberAtPointer_0 : decode cX11_numberAtPointer 0 = .ok (.aload_n 0, 1) := by decide +kernel
theorem dX11_numberAtPointer_1 : decode cX11_numberAtPointer 1 = .ok (.getfield 57, 3) := by decide +kernel
theorem dX11_numberAtPointer_4 : decode cX11_numberAtPointer 4 = .ok (.invokestatic 152, 3) := by decide +kernel
theorem dX11_numberAtPointer_7 : decode cX11_numberAtPointer 7 = .ok (.istore_n 1, 1) := by decide +kernel
theorem dX11_numberAtPointer_8 : decode cX11_numberAtPointer 8 = .ok (.aload_n 0, 1) := by decide +kernel
theorem dX11_numberAtPointer_9 : decode cX11_numberAtPointer 9 = .ok (.getfield 57, 3) := by decide +kernel
theorem dX11_numberAtPointer_12 : decode cX11_numberAtPointer 12 = .ok (.invokestatic 142, 3) := by decide +kernel
theorem dX11_numberAtPointer_15 : decode cX11_numberAtPointer 15 = .ok (.tableswitch 71 1 8 #[45, 71, 71, 71, 45, 71, 47, 66], 45) := by decide +kernel
theorem dX11_numberAtPointer_60 : decode cX11_numberAtPointer 60 = .ok (.iload_n 1, 1) := by decide +kernel
theorem dX11_numberAtPointer_61 : decode cX11_numberAtPointer 61 = .ok (.ireturn, 1) := by decide +kernel
theorem dX11_numberAtPointer_62 : decode cX11_numberAtPointer 62 = .ok (.aload_n 0, 1) := by decide +kernel
theorem dX11_numberAtPointer_63 : decode cX11_numberAtPointer 63 = .ok (.getfield 32, 3) := by decide +kernel
theorem dX11_numberAtPointer_66 : decode cX11_numberAtPointer 66 = .ok (.aload_n 0, 1) := by decide +kernel
theorem dX11_numberAtPointer_67 : decode cX11_numberAtPointer 67 = .ok (.getfield 53, 3) := by decide +kernel
theorem dX11_numberAtPointer_70 : decode cX11_numberAtPointer 70 = .ok (.getfield 148, 3) := by decide +kernel
theorem dX11_numberAtPointer_73 : decode cX11_numberAtPointer 73 = .ok (.iload_n 1, 1) := by decide +kernel
theorem dX11_numberAtPointer_74 : decode cX11_numberAtPointer 74 = .ok (.invokevirtual 163, 3) := by decide +kernel
theorem dX11_numberAtPointer_77 : decode cX11_numberAtPointer 77 = .ok (.invokevirtual 166, 3) := by decide +kernel
theorem dX11_numberAtPointer_80 : decode cX11_numberAtPointer 80 = .ok (.ireturn, 1) := by decide +kernel
theorem dX11_numberAtPointer_81 : decode cX11_numberAtPointer 81 = .ok (.iload_n 1, 1) := by decide +kernel
theorem dX11_numberAtPointer_82 : decode cX11_numberAtPointer 82 = .ok (.invokestatic 169, 3) := by decide +kernel
theorem dX11_numberAtPointer_85 : decode cX11_numberAtPointer 85 = .ok (.ireturn, 1) := by decide +kernel
theorem dX11_numberAtPointer_86 : decode cX11_numberAtPointer 86 = .ok (.iconst 0, 1) := by decide +kernel
theorem dX11_numberAtPointer_87 : decode cX11_numberAtPointer 87 = .ok (.ireturn, 1) := by decide +kernel
theorem dX11_count_0 : decode cX11_count 0 = .ok (.iload_n 1, 1) := by decide +kernel
theorem dX11_count_1 : decode cX11_count 1 = .ok (.tableswitch 170 0 11 #[63, 68, 81, 89, 97, 105, 113, 124, 135, 146, 154, 162], 63) := by decide +kernel
theorem dX11_count_64 : decode cX11_count 64 = .ok (.aload_n 0, 1) := by decide +kernel
theorem dX11_count_65 : decode cX11_count 65 = .ok (.getfield 65, 3) := by decide +kernel
theorem dX11_count_68 : decode cX11_count 68 = .ok (.ireturn, 1) := by decide +kernel
theorem dX11_count_69 : decode cX11_count 69 = .ok (.aload_n 0, 1) := by decide +kernel
theorem dX11_count_70 : decode cX11_count 70 = .ok (.getfield 87, 3) := by decide +kernel
theorem dX11_count_73 : decode cX11_count 73 = .ok (.ifCond .eq 7, 3) := by decide +kernel
theorem dX11_count_76 : decode cX11_count 76 = .ok (.iconst 1, 1) := by decide +kernel
theorem dX11_count_77 : decode cX11_count 77 = .ok (.goto 4, 3) := by decide +kernel
theorem dX11_count_80 : decode cX11_count 80 = .ok (.iconst 0, 1) := by decide +kernel
theorem dX11_count_81 : decode cX11_count 81 = .ok (.ireturn, 1) := by decide +kernel
theorem dX11_count_82 : decode cX11_count 82 = .ok (.aload_n 0, 1) := by decide +kernel
theorem dX11_count_83 : decode cX11_count 83 = .ok (.getfield 32, 3) := by decide +kernel
theorem dX11_count_86 : decode cX11_count 86 = .ok (.getfield 172, 3) := by decide +kernel
theorem dX11_count_89 : decode cX11_count 89 = .ok (.ireturn, 1) := by decide +kernel
theorem dX11_count_90 : decode cX11_count 90 = .ok (.aload_n 0, 1) := by decide +kernel
theorem dX11_count_91 : decode cX11_count 91 = .ok (.getfield 53, 3) := by decide +kernel
theorem dX11_count_94 : decode cX11_count 94 = .ok (.getfield 175, 3) := by decide +kernel
theorem dX11_count_97 : decode cX11_count 97 = .ok (.ireturn, 1) := by decide +kernel
theorem dX11_count_98 : decode cX11_count 98 = .ok (.aload_n 0, 1) := by decide +kernel
theorem dX11_count_99 : decode cX11_count 99 = .ok (.getfield 32, 3) := by decide +kernel
theorem dX11_count_102 : decode cX11_count 102 = .ok (.getfield 135, 3) := by decide +kernel
theorem dX11_count_105 : decode cX11_count 105 = .ok (.ireturn, 1) := by decide +kernel
theorem dX11_count_106 : decode cX11_count 106 = .ok (.aload_n 0, 1) := by decide +kernel
theorem dX11_count_107 : decode cX11_count 107 = .ok (.getfield 32, 3) := by decide +kernel
theorem dX11_count_110 : decode cX11_count 110 = .ok (.getfield 178, 3) := by decide +kernel
theorem dX11_count_113 : decode cX11_count 113 = .ok (.ireturn, 1) := by decide +kernel
theorem dX11_count_114 : decode cX11_count 114 = .ok (.aload_n 0, 1) := by decide +kernel
theorem dX11_count_115 : decode cX11_count 115 = .ok (.getfield 53, 3) := by decide +kernel
theorem dX11_count_118 : decode cX11_count 118 = .ok (.getfield 109, 3) := by decide +kernel
theorem dX11_count_121 : decode cX11_count 121 = .ok (.getfield 181, 3) := by decide +kernel
theorem dX11_count_124 : decode cX11_count 124 = .ok (.ireturn, 1) := by decide +kernel
theorem dX11_count_125 : decode cX11_count 125 = .ok (.aload_n 0, 1) := by decide +kernel
theorem dX11_count_126 : decode cX11_count 126 = .ok (.getfield 53, 3) := by decide +kernel
theorem dX11_count_129 : decode cX11_count 129 = .ok (.getfield 109, 3) := by decide +kernel
theorem dX11_count_132 : decode cX11_count 132 = .ok (.getfield 184, 3) := by decide +kernel
theorem dX11_count_135 : decode cX11_count 135 = .ok (.ireturn, 1) := by decide +kernel
theorem dX11_count_136 : decode cX11_count 136 = .ok (.aload_n 0, 1) := by decide +kernel
theorem dX11_count_137 : decode cX11_count 137 = .ok (.getfield 53, 3) := by decide +kernel
theorem dX11_count_140 : decode cX11_count 140 = .ok (.getfield 148, 3) := by decide +kernel
theorem dX11_count_143 : decode cX11_count 143 = .ok (.getfield 187, 3) := by decide +kernel
theorem dX11_count_146 : decode cX11_count 146 = .ok (.ireturn, 1) := by decide +kernel
theorem dX11_count_147 : decode cX11_count 147 = .ok (.aload_n 0, 1) := by decide +kernel
theorem dX11_count_148 : decode cX11_count 148 = .ok (.getfield 53, 3) := by decide +kernel
theorem dX11_count_151 : decode cX11_count 151 = .ok (.getfield 190, 3) := by decide +kernel
theorem dX11_count_154 : decode cX11_count 154 = .ok (.ireturn, 1) := by decide +kernel
theorem dX11_count_155 : decode cX11_count 155 = .ok (.aload_n 0, 1) := by decide +kernel
theorem dX11_count_156 : decode cX11_count 156 = .ok (.getfield 53, 3) := by decide +kernel
theorem dX11_count_159 : decode cX11_count 159 = .ok (.getfield 193, 3) := by decide +kernel
theorem dX11_count_162 : decode cX11_count 162 = .ok (.ireturn, 1) := by decide +kernel
theorem dX11_count_163 : decode cX11_count 163 = .ok (.aload_n 0, 1) := by decide +kernel
theorem dX11_count_164 : decode cX11_count 164 = .ok (.getfield 53, 3) := by decide +kernel
theorem dX11_count_167 : decode cX11_count 167 = .ok (.getfield 125, 3) := by decide +kernel
theorem dX11_count_170 : decode cX11_count 170 = .ok (.ireturn, 1) := by decide +kernel
theorem dX11_count_171 : decode cX11_count 171 = .ok (.iconst (-1), 1) := by decide +kernel
theorem dX11_count_172 : decode cX11_count 172 = .ok (.ireturn, 1) := by decide +kernel
theorem dJ11_isValidCodePoint_9a6ad_0 : decode cJ11_isValidCodePoint_9a6ad 0 = .ok (.iload_n 0, 1) := by decide +kernel
theorem dJ11_isValidCodePoint_9a6ad_1 : decode cJ11_isValidCodePoint_9a6ad 1 = .ok (.bipush 16, 2) := by decide +kernel
theorem dJ11_isValidCodePoint_9a6ad_3 : decode cJ11_isValidCodePoint_9a6ad 3 = .ok (.iushr, 1) := by decide +kernel
theorem dJ11_isValidCodePoint_9a6ad_4 : decode cJ11_isValidCodePoint_9a6ad 4 = .ok (.istore_n 1, 1) := by decide +kernel
theorem dJ11_isValidCodePoint_9a6ad_5 : decode cJ11_isValidCodePoint_9a6ad 5 = .ok (.iload_n 1, 1) := by decide +kernel
theorem dJ11_isValidCodePoint_9a6ad_6 : decode cJ11_isValidCodePoint_9a6ad 6 = .ok (.bipush 17, 2) := by decide +kernel
theorem dJ11_isValidCodePoint_9a6ad_8 : decode cJ11_isValidCodePoint_9a6ad 8 = .ok (.if_icmp .ge 7, 3) := by decide +kernel
theorem dJ11_isValidCodePoint_9a6ad_11 : decode cJ11_isValidCodePoint_9a6ad 11 = .ok (.iconst 1, 1) := by decide +kernel
theorem dJ11_isValidCodePoint_9a6ad_12 : decode cJ11_isValidCodePoint_9a6ad 12 = .ok (.goto 4, 3) := by decide +kernel
theorem dJ11_isValidCodePoint_9a6ad_15 : decode cJ11_isValidCodePoint_9a6ad 15 = .ok (.iconst 0, 1) := by decide +kernel
theorem dJ11_isValidCodePoint_9a6ad_16 : decode cJ11_isValidCodePoint_9a6ad 16 = .ok (.ireturn, 1) := by decide +kernel
theorem dJ11_highSurrogate_5068e_0 : decode cJ11_highSurrogate_5068e 0 = .ok (.iload_n 0, 1) := by decide +kernel
theorem dJ11_highSurrogate_5068e_1 : decode cJ11_highSurrogate_5068e 1 = .ok (.bipush 10, 2) := by decide +kernel
theorem dJ11_highSurrogate_5068e_3 : decode cJ11_highSurrogate_5068e 3 = .ok (.iushr, 1) := by decide +kernel
theorem dJ11_highSurrogate_5068e_4 : decode cJ11_highSurrogate_5068e 4 = .ok (.ldc 110, 2) := by decide +kernel
theorem dJ11_highSurrogate_5068e_6 : decode cJ11_highSurrogate_5068e 6 = .ok (.iadd, 1) := by decide +kernel
theorem dJ11_highSurrogate_5068e_7 : decode cJ11_highSurrogate_5068e 7 = .ok (.i2c, 1) := by decide +kernel
theorem dJ11_highSurrogate_5068e_8 : decode cJ11_highSurrogate_5068e 8 = .ok (.ireturn, 1) := by decide +kernel
theorem dJ11_lowSurrogate_5068e_0 : decode cJ11_lowSurrogate_5068e 0 = .ok (.iload_n 0, 1) := by decide +kernel
theorem dJ11_lowSurrogate_5068e_1 : decode cJ11_lowSurrogate_5068e 1 = .ok (.sipush 1023, 3) := by decide +kernel
theorem dJ11_lowSurrogate_5068e_4 : decode cJ11_lowSurrogate_5068e 4 = .ok (.iand, 1) := by decide +kernel
theorem dJ11_lowSurrogate_5068e_5 : decode cJ11_lowSurrogate_5068e 5 = .ok (.ldc 76, 2) := by decide +kernel
theorem dJ11_lowSurrogate_5068e_7 : decode cJ11_lowSurrogate_5068e 7 = .ok (.iadd, 1) := by decide +kernel
theorem dJ11_lowSurrogate_5068e_8 : decode cJ11_lowSurrogate_5068e 8 = .ok (.i2c, 1) := by decide +kernel
theorem dJ11_lowSurrogate_5068e_9 : decode cJ11_lowSurrogate_5068e 9 = .ok (.ireturn, 1) := by decide +kernel
theorem dJxb5711_init_a7421_0 : decode cJxb5711_init_a7421 0 = .ok (.aload_n 0, 1) := by decide +kernel
theorem dJxb5711_init_a7421_1 : decode cJxb5711_init_a7421 1 = .ok (.aload_n 1, 1) := by decide +kernel
theorem dJxb5711_init_a7421_2 : decode cJxb5711_init_a7421 2 = .ok (.invokespecial 7, 3) := by decide +kernel
theorem dJxb5711_init_a7421_5 : decode cJxb5711_init_a7421 5 = .ok (.return_, 1) := by decide +kernel
theorem dJ9_floorMod_7cf53_0 : decode cJ9_floorMod_7cf53 0 = .ok (.iload_n 0, 1) := by decide +kernel
theorem dJ9_floorMod_7cf53_1 : decode cJ9_floorMod_7cf53 1 = .ok (.iload_n 1, 1) := by decide +kernel
theorem dJ9_floorMod_7cf53_2 : decode cJ9_floorMod_7cf53 2 = .ok (.irem, 1) := by decide +kernel
theorem dJ9_floorMod_7cf53_3 : decode cJ9_floorMod_7cf53 3 = .ok (.istore_n 2, 1) := by decide +kernel
theorem dJ9_floorMod_7cf53_4 : decode cJ9_floorMod_7cf53 4 = .ok (.iload_n 0, 1) := by decide +kernel
theorem dJ9_floorMod_7cf53_5 : decode cJ9_floorMod_7cf53 5 = .ok (.iload_n 1, 1) := by decide +kernel
theorem dJ9_floorMod_7cf53_6 : decode cJ9_floorMod_7cf53 6 = .ok (.ixor, 1) := by decide +kernel
theorem dJ9_floorMod_7cf53_7 : decode cJ9_floorMod_7cf53 7 = .ok (.ifCond .ge 11, 3) := by decide +kernel
theorem dJ9_floorMod_7cf53_10 : decode cJ9_floorMod_7cf53 10 = .ok (.iload_n 2, 1) := by decide +kernel
theorem dJ9_floorMod_7cf53_11 : decode cJ9_floorMod_7cf53 11 = .ok (.ifCond .eq 7, 3) := by decide +kernel
theorem dJ9_floorMod_7cf53_14 : decode cJ9_floorMod_7cf53 14 = .ok (.iload_n 2, 1) := by decide +kernel
theorem dJ9_floorMod_7cf53_15 : decode cJ9_floorMod_7cf53 15 = .ok (.iload_n 1, 1) := by decide +kernel
theorem dJ9_floorMod_7cf53_16 : decode cJ9_floorMod_7cf53 16 = .ok (.iadd, 1) := by decide +kernel
theorem dJ9_floorMod_7cf53_17 : decode cJ9_floorMod_7cf53 17 = .ok (.ireturn, 1) := by decide +kernel
theorem dJ9_floorMod_7cf53_18 : decode cJ9_floorMod_7cf53 18 = .ok (.iload_n 2, 1) := by decide +kernel
theorem dJ9_floorMod_7cf53_19 : decode cJ9_floorMod_7cf53 19 = .ok (.ireturn, 1) := by decide +kernel
theorem dJ9_max_7cf53_0 : decode cJ9_max_7cf53 0 = .ok (.iload_n 0, 1) := by decide +kernel
theorem dJ9_max_7cf53_1 : decode cJ9_max_7cf53 1 = .ok (.iload_n 1, 1) := by decide +kernel
theorem dJ9_max_7cf53_2 : decode cJ9_max_7cf53 2 = .ok (.if_icmp .lt 7, 3) := by decide +kernel
theorem dJ9_max_7cf53_5 : decode cJ9_max_7cf53 5 = .ok (.iload_n 0, 1) := by decide +kernel
theorem dJ9_max_7cf53_6 : decode cJ9_max_7cf53 6 = .ok (.goto 4, 3) := by decide +kernel
theorem dJ9_max_7cf53_9 : decode cJ9_max_7cf53 9 = .ok (.iload_n 1, 1) := by decide +kernel
theorem dJ9_max_7cf53_10 : decode cJ9_max_7cf53 10 = .ok (.ireturn, 1) := by decide +kernel
theorem dJ9_min_7cf53_0 : decode cJ9_min_7cf53 0 = .ok (.iload_n 0, 1) := by decide +kernel
theorem dJ9_min_7cf53_1 : decode cJ9_min_7cf53 1 = .ok (.iload_n 1, 1) := by decide +kernel
theorem dJ9_min_7cf53_2 : decode cJ9_min_7cf53 2 = .ok (.if_icmp .gt 7, 3) := by decide +kernel
theorem dJ9_min_7cf53_5 : decode cJ9_min_7cf53 5 = .ok (.iload_n 0, 1) := by decide +kernel
theorem dJ9_min_7cf53_6 : decode cJ9_min_7cf53 6 = .ok (.goto 4, 3) := by decide +kernel
theorem dJ9_min_7cf53_9 : decode cJ9_min_7cf53 9 = .ok (.iload_n 1, 1) := by decide +kernel
theorem dJ9_min_7cf53_10 : decode cJ9_min_7cf53 10 = .ok (.ireturn, 1) := by decide +kernel
theorem dJ9_min_f86c9_0 : decode cJ9_min_f86c9 0 = .ok (.lload_n 0, 1) := by decide +kernel
theorem dJ9_min_f86c9_1 : decode cJ9_min_f86c9 1 = .ok (.lload_n 2, 1) := by decide +kernel
theorem dJ9_min_f86c9_2 : decode cJ9_min_f86c9 2 = .ok (.lcmp, 1) := by decide +kernel
theorem dJ9_min_f86c9_3 : decode cJ9_min_f86c9 3 = .ok (.ifCond .gt 7, 3) := by decide +kernel
theorem dJ9_min_f86c9_6 : decode cJ9_min_f86c9 6 = .ok (.lload_n 0, 1) := by decide +kernel
theorem dJ9_min_f86c9_7 : decode cJ9_min_f86c9 7 = .ok (.goto 4, 3) := by decide +kernel
theorem dJ9_min_f86c9_10 : decode cJ9_min_f86c9 10 = .ok (.lload_n 2, 1) := by decide +kernel
theorem dJ9_min_f86c9_11 : decode cJ9_min_f86c9 11 = .ok (.lreturn, 1) := by decide +kernel
theorem dJ0_length_8abf5_0 : decode cJ0_length_8abf5 0 = .ok (.aload_n 0, 1) := by decide +kernel
theorem dJ0_length_8abf5_1 : decode cJ0_length_8abf5 1 = .ok (.getfield 9, 3) := by decide +kernel
theorem dJ0_length_8abf5_4 : decode cJ0_length_8abf5 4 = .ok (.arraylength, 1) := by decide +kernel
theorem dJ0_length_8abf5_5 : decode cJ0_length_8abf5 5 = .ok (.aload_n 0, 1) := by decide +kernel
theorem dJ0_length_8abf5_6 : decode cJ0_length_8abf5 6 = .ok (.invokevirtual 335, 3) := by decide +kernel
theorem dJ0_length_8abf5_9 : decode cJ0_length_8abf5 9 = .ok (.ishr, 1) := by decide +kernel
theorem dJ0_length_8abf5_10 : decode cJ0_length_8abf5 10 = .ok (.ireturn, 1) := by decide +kernel
theorem dJ0_charAt_5068e_0 : decode cJ0_charAt_5068e 0 = .ok (.aload_n 0, 1) := by decide +kernel
theorem dJ0_charAt_5068e_1 : decode cJ0_charAt_5068e 1 = .ok (.invokevirtual 492, 3) := by decide +kernel
theorem dJ0_charAt_5068e_4 : decode cJ0_charAt_5068e 4 = .ok (.ifCond .eq 12, 3) := by decide +kernel
theorem dJ0_charAt_5068e_7 : decode cJ0_charAt_5068e 7 = .ok (.aload_n 0, 1) := by decide +kernel
theorem dJ0_charAt_5068e_8 : decode cJ0_charAt_5068e 8 = .ok (.getfield 9, 3) := by decide +kernel
theorem dJ0_charAt_5068e_11 : decode cJ0_charAt_5068e 11 = .ok (.iload_n 1, 1) := by decide +kernel
theorem dJ0_charAt_5068e_12 : decode cJ0_charAt_5068e 12 = .ok (.invokestatic 495, 3) := by decide +kernel
theorem dJ0_charAt_5068e_15 : decode cJ0_charAt_5068e 15 = .ok (.ireturn, 1) := by decide +kernel
theorem dJ0_charAt_5068e_16 : decode cJ0_charAt_5068e 16 = .ok (.aload_n 0, 1) := by decide +kernel
theorem dJ0_charAt_5068e_17 : decode cJ0_charAt_5068e 17 = .ok (.getfield 9, 3) := by decide +kernel
theorem dJ0_charAt_5068e_20 : decode cJ0_charAt_5068e 20 = .ok (.iload_n 1, 1) := by decide +kernel
theorem dJ0_charAt_5068e_21 : decode cJ0_charAt_5068e 21 = .ok (.invokestatic 498, 3) := by decide +kernel
theorem dJ0_charAt_5068e_24 : decode cJ0_charAt_5068e 24 = .ok (.ireturn, 1) := by decide +kernel
theorem dJ0_indexOf_0f7a4_0 : decode cJ0_indexOf_0f7a4 0 = .ok (.aload_n 0, 1) := by decide +kernel
theorem dJ0_indexOf_0f7a4_1 : decode cJ0_indexOf_0f7a4 1 = .ok (.iload_n 1, 1) := by decide +kernel
theorem dJ0_indexOf_0f7a4_2 : decode cJ0_indexOf_0f7a4 2 = .ok (.iconst 0, 1) := by decide +kernel
theorem dJ0_indexOf_0f7a4_3 : decode cJ0_indexOf_0f7a4 3 = .ok (.invokevirtual 633, 3) := by decide +kernel
theorem dJ0_indexOf_0f7a4_6 : decode cJ0_indexOf_0f7a4 6 = .ok (.ireturn, 1) := by decide +kernel
theorem dJ0_indexOf_7cf53_0 : decode cJ0_indexOf_7cf53 0 = .ok (.aload_n 0, 1) := by decide +kernel
theorem dJ0_indexOf_7cf53_1 : decode cJ0_indexOf_7cf53 1 = .ok (.invokevirtual 492, 3) := by decide +kernel
theorem dJ0_indexOf_7cf53_4 : decode cJ0_indexOf_7cf53 4 = .ok (.ifCond .eq 19, 3) := by decide +kernel
theorem dJ0_indexOf_7cf53_7 : decode cJ0_indexOf_7cf53 7 = .ok (.aload_n 0, 1) := by decide +kernel
theorem dJ0_indexOf_7cf53_8 : decode cJ0_indexOf_7cf53 8 = .ok (.getfield 9, 3) := by decide +kernel
theorem dJ0_indexOf_7cf53_11 : decode cJ0_indexOf_7cf53 11 = .ok (.iload_n 1, 1) := by decide +kernel
theorem dJ0_indexOf_7cf53_12 : decode cJ0_indexOf_7cf53 12 = .ok (.iload_n 2, 1) := by decide +kernel
theorem dJ0_indexOf_7cf53_13 : decode cJ0_indexOf_7cf53 13 = .ok (.aload_n 0, 1) := by decide +kernel
theorem dJ0_indexOf_7cf53_14 : decode cJ0_indexOf_7cf53 14 = .ok (.invokevirtual 505, 3) := by decide +kernel
theorem dJ0_indexOf_7cf53_17 : decode cJ0_indexOf_7cf53 17 = .ok (.invokestatic 637, 3) := by decide +kernel
theorem dJ0_indexOf_7cf53_20 : decode cJ0_indexOf_7cf53 20 = .ok (.goto 16, 3) := by decide +kernel
theorem dJ0_indexOf_7cf53_23 : decode cJ0_indexOf_7cf53 23 = .ok (.aload_n 0, 1) := by decide +kernel
theorem dJ0_indexOf_7cf53_24 : decode cJ0_indexOf_7cf53 24 = .ok (.getfield 9, 3) := by decide +kernel
theorem dJ0_indexOf_7cf53_27 : decode cJ0_indexOf_7cf53 27 = .ok (.iload_n 1, 1) := by decide +kernel
theorem dJ0_indexOf_7cf53_28 : decode cJ0_indexOf_7cf53 28 = .ok (.iload_n 2, 1) := by decide +kernel
theorem dJ0_indexOf_7cf53_29 : decode cJ0_indexOf_7cf53 29 = .ok (.aload_n 0, 1) := by decide +kernel
theorem dJ0_indexOf_7cf53_30 : decode cJ0_indexOf_7cf53 30 = .ok (.invokevirtual 505, 3) := by decide +kernel
theorem dJ0_indexOf_7cf53_33 : decode cJ0_indexOf_7cf53 33 = .ok (.invokestatic 640, 3) := by decide +kernel
theorem dJ0_indexOf_7cf53_36 : decode cJ0_indexOf_7cf53 36 = .ok (.ireturn, 1) := by decide +kernel
theorem dJ0_coder_7d493_0 : decode cJ0_coder_7d493 0 = .ok (.getstatic 38, 3) := by decide +kernel
theorem dJ0_coder_7d493_3 : decode cJ0_coder_7d493 3 = .ok (.ifCond .eq 10, 3) := by decide +kernel
theorem dJ0_coder_7d493_6 : decode cJ0_coder_7d493 6 = .ok (.aload_n 0, 1) := by decide +kernel
theorem dJ0_coder_7d493_7 : decode cJ0_coder_7d493 7 = .ok (.getfield 15, 3) := by decide +kernel
theorem dJ0_coder_7d493_10 : decode cJ0_coder_7d493 10 = .ok (.goto 4, 3) := by decide +kernel
theorem dJ0_coder_7d493_13 : decode cJ0_coder_7d493 13 = .ok (.iconst 1, 1) := by decide +kernel
theorem dJ0_coder_7d493_14 : decode cJ0_coder_7d493 14 = .ok (.ireturn, 1) := by decide +kernel
theorem dJ0_isLatin1_aae02_0 : decode cJ0_isLatin1_aae02 0 = .ok (.getstatic 38, 3) := by decide +kernel
theorem dJ0_isLatin1_aae02_3 : decode cJ0_isLatin1_aae02 3 = .ok (.ifCond .eq 14, 3) := by decide +kernel
theorem dJ0_isLatin1_aae02_6 : decode cJ0_isLatin1_aae02 6 = .ok (.aload_n 0, 1) := by decide +kernel
theorem dJ0_isLatin1_aae02_7 : decode cJ0_isLatin1_aae02 7 = .ok (.getfield 15, 3) := by decide +kernel
theorem dJ0_isLatin1_aae02_10 : decode cJ0_isLatin1_aae02 10 = .ok (.ifCond .ne 7, 3) := by decide +kernel
theorem dJ0_isLatin1_aae02_13 : decode cJ0_isLatin1_aae02 13 = .ok (.iconst 1, 1) := by decide +kernel
theorem dJ0_isLatin1_aae02_14 : decode cJ0_isLatin1_aae02 14 = .ok (.goto 4, 3) := by decide +kernel
theorem dJ0_isLatin1_aae02_17 : decode cJ0_isLatin1_aae02 17 = .ok (.iconst 0, 1) := by decide +kernel
theorem dJ0_isLatin1_aae02_18 : decode cJ0_isLatin1_aae02 18 = .ok (.ireturn, 1) := by decide +kernel
theorem dJ0_checkIndex_df160_0 : decode cJ0_checkIndex_df160 0 = .ok (.iload_n 0, 1) := by decide +kernel
theorem dJ0_checkIndex_df160_1 : decode cJ0_checkIndex_df160 1 = .ok (.iload_n 1, 1) := by decide +kernel
theorem dJ0_checkIndex_df160_2 : decode cJ0_checkIndex_df160 2 = .ok (.getstatic 1053, 3) := by decide +kernel
theorem dJ0_checkIndex_df160_5 : decode cJ0_checkIndex_df160 5 = .ok (.invokestatic 1059, 3) := by decide +kernel
theorem dJ0_checkIndex_df160_8 : decode cJ0_checkIndex_df160 8 = .ok (.pop, 1) := by decide +kernel
theorem dJ0_checkIndex_df160_9 : decode cJ0_checkIndex_df160 9 = .ok (.return_, 1) := by decide +kernel
theorem dJ0_checkBoundsBeginEnd_23922_0 : decode cJ0_checkBoundsBeginEnd_23922 0 = .ok (.iload_n 0, 1) := by decide +kernel
theorem dJ0_checkBoundsBeginEnd_23922_1 : decode cJ0_checkBoundsBeginEnd_23922 1 = .ok (.iload_n 1, 1) := by decide +kernel
theorem dJ0_checkBoundsBeginEnd_23922_2 : decode cJ0_checkBoundsBeginEnd_23922 2 = .ok (.iload_n 2, 1) := by decide +kernel
theorem dJ0_checkBoundsBeginEnd_23922_3 : decode cJ0_checkBoundsBeginEnd_23922 3 = .ok (.getstatic 1053, 3) := by decide +kernel
theorem dJ0_checkBoundsBeginEnd_23922_6 : decode cJ0_checkBoundsBeginEnd_23922 6 = .ok (.invokestatic 1062, 3) := by decide +kernel
theorem dJ0_checkBoundsBeginEnd_23922_9 : decode cJ0_checkBoundsBeginEnd_23922 9 = .ok (.pop, 1) := by decide +kernel
theorem dJ0_checkBoundsBeginEnd_23922_10 : decode cJ0_checkBoundsBeginEnd_23922 10 = .ok (.return_, 1) := by decide +kernel
theorem dJ1_charAt_3b067_0 : decode cJ1_charAt_3b067 0 = .ok (.iload_n 1, 1) := by decide +kernel
theorem dJ1_charAt_3b067_1 : decode cJ1_charAt_3b067 1 = .ok (.aload_n 0, 1) := by decide +kernel
theorem dJ1_charAt_3b067_2 : decode cJ1_charAt_3b067 2 = .ok (.arraylength, 1) := by decide +kernel
theorem dJ1_charAt_3b067_3 : decode cJ1_charAt_3b067 3 = .ok (.invokestatic 9, 3) := by decide +kernel
theorem dJ1_charAt_3b067_6 : decode cJ1_charAt_3b067 6 = .ok (.aload_n 0, 1) := by decide +kernel
theorem dJ1_charAt_3b067_7 : decode cJ1_charAt_3b067 7 = .ok (.iload_n 1, 1) := by decide +kernel
theorem dJ1_charAt_3b067_8 : decode cJ1_charAt_3b067 8 = .ok (.baload, 1) := by decide +kernel
theorem dJ1_charAt_3b067_9 : decode cJ1_charAt_3b067 9 = .ok (.sipush 255, 3) := by decide +kernel
theorem dJ1_charAt_3b067_12 : decode cJ1_charAt_3b067 12 = .ok (.iand, 1) := by decide +kernel
theorem dJ1_charAt_3b067_13 : decode cJ1_charAt_3b067 13 = .ok (.i2c, 1) := by decide +kernel
theorem dJ1_charAt_3b067_14 : decode cJ1_charAt_3b067 14 = .ok (.ireturn, 1) := by decide +kernel
theorem dJ1_canEncode_9a6ad_0 : decode cJ1_canEncode_9a6ad 0 = .ok (.iload_n 0, 1) := by decide +kernel
theorem dJ1_canEncode_9a6ad_1 : decode cJ1_canEncode_9a6ad 1 = .ok (.ifCond .lt 14, 3) := by decide +kernel
theorem dJ1_canEncode_9a6ad_4 : decode cJ1_canEncode_9a6ad 4 = .ok (.iload_n 0, 1) := by decide +kernel
theorem dJ1_canEncode_9a6ad_5 : decode cJ1_canEncode_9a6ad 5 = .ok (.sipush 255, 3) := by decide +kernel
theorem dJ1_canEncode_9a6ad_8 : decode cJ1_canEncode_9a6ad 8 = .ok (.if_icmp .gt 7, 3) := by decide +kernel
theorem dJ1_canEncode_9a6ad_11 : decode cJ1_canEncode_9a6ad 11 = .ok (.iconst 1, 1) := by decide +kernel
theorem dJ1_canEncode_9a6ad_12 : decode cJ1_canEncode_9a6ad 12 = .ok (.goto 4, 3) := by decide +kernel
theorem dJ1_canEncode_9a6ad_15 : decode cJ1_canEncode_9a6ad 15 = .ok (.iconst 0, 1) := by decide +kernel
theorem dJ1_canEncode_9a6ad_16 : decode cJ1_canEncode_9a6ad 16 = .ok (.ireturn, 1) := by decide +kernel
theorem dJ1_indexOf_4cfef_0 : decode cJ1_indexOf_4cfef 0 = .ok (.iload_n 1, 1) := by decide +kernel
theorem dJ1_indexOf_4cfef_1 : decode cJ1_indexOf_4cfef 1 = .ok (.invokestatic 88, 3) := by decide +kernel
theorem dJ1_indexOf_4cfef_4 : decode cJ1_indexOf_4cfef 4 = .ok (.ifCond .ne 5, 3) := by decide +kernel
theorem dJ1_indexOf_4cfef_7 : decode cJ1_indexOf_4cfef 7 = .ok (.iconst (-1), 1) := by decide +kernel
theorem dJ1_indexOf_4cfef_8 : decode cJ1_indexOf_4cfef 8 = .ok (.ireturn, 1) := by decide +kernel
theorem dJ1_indexOf_4cfef_9 : decode cJ1_indexOf_4cfef 9 = .ok (.iload_n 2, 1) := by decide +kernel
theorem dJ1_indexOf_4cfef_10 : decode cJ1_indexOf_4cfef 10 = .ok (.iconst 0, 1) := by decide +kernel
theorem dJ1_indexOf_4cfef_11 : decode cJ1_indexOf_4cfef 11 = .ok (.invokestatic 92, 3) := by decide +kernel
theorem dJ1_indexOf_4cfef_14 : decode cJ1_indexOf_4cfef 14 = .ok (.istore_n 2, 1) := by decide +kernel
theorem dJ1_indexOf_4cfef_15 : decode cJ1_indexOf_4cfef 15 = .ok (.iload_n 3, 1) := by decide +kernel
theorem dJ1_indexOf_4cfef_16 : decode cJ1_indexOf_4cfef 16 = .ok (.aload_n 0, 1) := by decide +kernel
theorem dJ1_indexOf_4cfef_17 : decode cJ1_indexOf_4cfef 17 = .ok (.arraylength, 1) := by decide +kernel
theorem dJ1_indexOf_4cfef_18 : decode cJ1_indexOf_4cfef 18 = .ok (.invokestatic 38, 3) := by decide +kernel
theorem dJ1_indexOf_4cfef_21 : decode cJ1_indexOf_4cfef 21 = .ok (.istore_n 3, 1) := by decide +kernel
theorem dJ1_indexOf_4cfef_22 : decode cJ1_indexOf_4cfef 22 = .ok (.iload_n 2, 1) := by decide +kernel
theorem dJ1_indexOf_4cfef_23 : decode cJ1_indexOf_4cfef 23 = .ok (.iload_n 3, 1) := by decide +kernel
theorem dJ1_indexOf_4cfef_24 : decode cJ1_indexOf_4cfef 24 = .ok (.if_icmp .lt 5, 3) := by decide +kernel
theorem dJ1_indexOf_4cfef_27 : decode cJ1_indexOf_4cfef 27 = .ok (.iconst (-1), 1) := by decide +kernel
theorem dJ1_indexOf_4cfef_28 : decode cJ1_indexOf_4cfef 28 = .ok (.ireturn, 1) := by decide +kernel
theorem dJ1_indexOf_4cfef_29 : decode cJ1_indexOf_4cfef 29 = .ok (.aload_n 0, 1) := by decide +kernel
theorem dJ1_indexOf_4cfef_30 : decode cJ1_indexOf_4cfef 30 = .ok (.iload_n 1, 1) := by decide +kernel
theorem dJ1_indexOf_4cfef_31 : decode cJ1_indexOf_4cfef 31 = .ok (.iload_n 2, 1) := by decide +kernel
theorem dJ1_indexOf_4cfef_32 : decode cJ1_indexOf_4cfef 32 = .ok (.iload_n 3, 1) := by decide +kernel
theorem dJ1_indexOf_4cfef_33 : decode cJ1_indexOf_4cfef 33 = .ok (.invokestatic 95, 3) := by decide +kernel
theorem dJ1_indexOf_4cfef_36 : decode cJ1_indexOf_4cfef 36 = .ok (.ireturn, 1) := by decide +kernel
theorem dJ1_indexOfChar_4cfef_0 : decode cJ1_indexOfChar_4cfef 0 = .ok (.iload_n 1, 1) := by decide +kernel
theorem dJ1_indexOfChar_4cfef_1 : decode cJ1_indexOfChar_4cfef 1 = .ok (.i2b, 1) := by decide +kernel
theorem dJ1_indexOfChar_4cfef_2 : decode cJ1_indexOfChar_4cfef 2 = .ok (.istore 4, 2) := by decide +kernel
theorem dJ1_indexOfChar_4cfef_4 : decode cJ1_indexOfChar_4cfef 4 = .ok (.iload_n 2, 1) := by decide +kernel
theorem dJ1_indexOfChar_4cfef_5 : decode cJ1_indexOfChar_4cfef 5 = .ok (.istore 5, 2) := by decide +kernel
theorem dJ1_indexOfChar_4cfef_7 : decode cJ1_indexOfChar_4cfef 7 = .ok (.iload 5, 2) := by decide +kernel
theorem dJ1_indexOfChar_4cfef_9 : decode cJ1_indexOfChar_4cfef 9 = .ok (.iload_n 3, 1) := by decide +kernel
theorem dJ1_indexOfChar_4cfef_10 : decode cJ1_indexOfChar_4cfef 10 = .ok (.if_icmp .ge 21, 3) := by decide +kernel
theorem dJ1_indexOfChar_4cfef_13 : decode cJ1_indexOfChar_4cfef 13 = .ok (.aload_n 0, 1) := by decide +kernel
theorem dJ1_indexOfChar_4cfef_14 : decode cJ1_indexOfChar_4cfef 14 = .ok (.iload 5, 2) := by decide +kernel
theorem dJ1_indexOfChar_4cfef_16 : decode cJ1_indexOfChar_4cfef 16 = .ok (.baload, 1) := by decide +kernel
theorem dJ1_indexOfChar_4cfef_17 : decode cJ1_indexOfChar_4cfef 17 = .ok (.iload 4, 2) := by decide +kernel
theorem dJ1_indexOfChar_4cfef_19 : decode cJ1_indexOfChar_4cfef 19 = .ok (.if_icmp .ne 6, 3) := by decide +kernel
theorem dJ1_indexOfChar_4cfef_22 : decode cJ1_indexOfChar_4cfef 22 = .ok (.iload 5, 2) := by decide +kernel
theorem dJ1_indexOfChar_4cfef_24 : decode cJ1_indexOfChar_4cfef 24 = .ok (.ireturn, 1) := by decide +kernel
theorem dJ1_indexOfChar_4cfef_25 : decode cJ1_indexOfChar_4cfef 25 = .ok (.iinc 5 1, 3) := by decide +kernel
theorem dJ1_indexOfChar_4cfef_28 : decode cJ1_indexOfChar_4cfef 28 = .ok (.goto (-21), 3) := by decide +kernel
theorem dJ1_indexOfChar_4cfef_31 : decode cJ1_indexOfChar_4cfef 31 = .ok (.iconst (-1), 1) := by decide +kernel
theorem dJ1_indexOfChar_4cfef_32 : decode cJ1_indexOfChar_4cfef 32 = .ok (.ireturn, 1) := by decide +kernel
theorem dJ2_getChar_3b067_0 : decode cJ2_getChar_3b067 0 = .ok (.getstatic 44, 3) := by decide +kernel
theorem dJ2_getChar_3b067_3 : decode cJ2_getChar_3b067 3 = .ok (.ifCond .ne 25, 3) := by decide +kernel
theorem dJ2_getChar_3b067_6 : decode cJ2_getChar_3b067 6 = .ok (.iload_n 1, 1) := by decide +kernel
theorem dJ2_getChar_3b067_7 : decode cJ2_getChar_3b067 7 = .ok (.ifCond .lt 11, 3) := by decide +kernel
theorem dJ2_getChar_3b067_10 : decode cJ2_getChar_3b067 10 = .ok (.iload_n 1, 1) := by decide +kernel
theorem dJ2_getChar_3b067_11 : decode cJ2_getChar_3b067 11 = .ok (.aload_n 0, 1) := by decide +kernel
theorem dJ2_getChar_3b067_12 : decode cJ2_getChar_3b067 12 = .ok (.invokestatic 48, 3) := by decide +kernel
theorem dJ2_getChar_3b067_15 : decode cJ2_getChar_3b067 15 = .ok (.if_icmp .lt 13, 3) := by decide +kernel
theorem dJ2_getChar_3b067_18 : decode cJ2_getChar_3b067 18 = .ok (.new 52, 3) := by decide +kernel
theorem dJ2_getChar_3b067_21 : decode cJ2_getChar_3b067 21 = .ok (.dup, 1) := by decide +kernel
theorem dJ2_getChar_3b067_22 : decode cJ2_getChar_3b067 22 = .ok (.ldc 54, 2) := by decide +kernel
theorem dJ2_getChar_3b067_24 : decode cJ2_getChar_3b067 24 = .ok (.invokespecial 56, 3) := by decide +kernel
theorem dJ2_getChar_3b067_27 : decode cJ2_getChar_3b067 27 = .ok (.athrow, 1) := by decide +kernel
theorem dJ2_getChar_3b067_28 : decode cJ2_getChar_3b067 28 = .ok (.iload_n 1, 1) := by decide +kernel
theorem dJ2_getChar_3b067_29 : decode cJ2_getChar_3b067 29 = .ok (.iconst 1, 1) := by decide +kernel
theorem dJ2_getChar_3b067_30 : decode cJ2_getChar_3b067 30 = .ok (.ishl, 1) := by decide +kernel
theorem dJ2_getChar_3b067_31 : decode cJ2_getChar_3b067 31 = .ok (.istore_n 1, 1) := by decide +kernel
theorem dJ2_getChar_3b067_32 : decode cJ2_getChar_3b067 32 = .ok (.aload_n 0, 1) := by decide +kernel
theorem dJ2_getChar_3b067_33 : decode cJ2_getChar_3b067 33 = .ok (.iload_n 1, 1) := by decide +kernel
theorem dJ2_getChar_3b067_34 : decode cJ2_getChar_3b067 34 = .ok (.iinc 1 1, 3) := by decide +kernel
theorem dJ2_getChar_3b067_37 : decode cJ2_getChar_3b067 37 = .ok (.baload, 1) := by decide +kernel
theorem dJ2_getChar_3b067_38 : decode cJ2_getChar_3b067 38 = .ok (.sipush 255, 3) := by decide +kernel
theorem dJ2_getChar_3b067_41 : decode cJ2_getChar_3b067 41 = .ok (.iand, 1) := by decide +kernel
theorem dJ2_getChar_3b067_42 : decode cJ2_getChar_3b067 42 = .ok (.getstatic 59, 3) := by decide +kernel
theorem dJ2_getChar_3b067_45 : decode cJ2_getChar_3b067 45 = .ok (.ishl, 1) := by decide +kernel
theorem dJ2_getChar_3b067_46 : decode cJ2_getChar_3b067 46 = .ok (.aload_n 0, 1) := by decide +kernel
theorem dJ2_getChar_3b067_47 : decode cJ2_getChar_3b067 47 = .ok (.iload_n 1, 1) := by decide +kernel
theorem dJ2_getChar_3b067_48 : decode cJ2_getChar_3b067 48 = .ok (.baload, 1) := by decide +kernel
theorem dJ2_getChar_3b067_49 : decode cJ2_getChar_3b067 49 = .ok (.sipush 255, 3) := by decide +kernel
theorem dJ2_getChar_3b067_52 : decode cJ2_getChar_3b067 52 = .ok (.iand, 1) := by decide +kernel
theorem dJ2_getChar_3b067_53 : decode cJ2_getChar_3b067 53 = .ok (.getstatic 63, 3) := by decide +kernel
theorem dJ2_getChar_3b067_56 : decode cJ2_getChar_3b067 56 = .ok (.ishl, 1) := by decide +kernel
theorem dJ2_getChar_3b067_57 : decode cJ2_getChar_3b067 57 = .ok (.ior, 1) := by decide +kernel
theorem dJ2_getChar_3b067_58 : decode cJ2_getChar_3b067 58 = .ok (.i2c, 1) := by decide +kernel
theorem dJ2_getChar_3b067_59 : decode cJ2_getChar_3b067 59 = .ok (.ireturn, 1) := by decide +kernel
theorem dJ2_length_9d52b_0 : decode cJ2_length_9d52b 0 = .ok (.aload_n 0, 1) := by decide +kernel
theorem dJ2_length_9d52b_1 : decode cJ2_length_9d52b 1 = .ok (.arraylength, 1) := by decide +kernel
theorem dJ2_length_9d52b_2 : decode cJ2_length_9d52b 2 = .ok (.iconst 1, 1) := by decide +kernel
theorem dJ2_length_9d52b_3 : decode cJ2_length_9d52b 3 = .ok (.ishr, 1) := by decide +kernel
theorem dJ2_length_9d52b_4 : decode cJ2_length_9d52b 4 = .ok (.ireturn, 1) := by decide +kernel
theorem dJ2_indexOf_4cfef_0 : decode cJ2_indexOf_4cfef 0 = .ok (.iload_n 2, 1) := by decide +kernel
theorem dJ2_indexOf_4cfef_1 : decode cJ2_indexOf_4cfef 1 = .ok (.iconst 0, 1) := by decide +kernel
theorem dJ2_indexOf_4cfef_2 : decode cJ2_indexOf_4cfef 2 = .ok (.invokestatic 224, 3) := by decide +kernel
theorem dJ2_indexOf_4cfef_5 : decode cJ2_indexOf_4cfef 5 = .ok (.istore_n 2, 1) := by decide +kernel
theorem dJ2_indexOf_4cfef_6 : decode cJ2_indexOf_4cfef 6 = .ok (.iload_n 3, 1) := by decide +kernel
theorem dJ2_indexOf_4cfef_7 : decode cJ2_indexOf_4cfef 7 = .ok (.aload_n 0, 1) := by decide +kernel
theorem dJ2_indexOf_4cfef_8 : decode cJ2_indexOf_4cfef 8 = .ok (.arraylength, 1) := by decide +kernel
theorem dJ2_indexOf_4cfef_9 : decode cJ2_indexOf_4cfef 9 = .ok (.iconst 1, 1) := by decide +kernel
theorem dJ2_indexOf_4cfef_10 : decode cJ2_indexOf_4cfef 10 = .ok (.ishr, 1) := by decide +kernel
theorem dJ2_indexOf_4cfef_11 : decode cJ2_indexOf_4cfef 11 = .ok (.invokestatic 183, 3) := by decide +kernel
theorem dJ2_indexOf_4cfef_14 : decode cJ2_indexOf_4cfef 14 = .ok (.istore_n 3, 1) := by decide +kernel
theorem dJ2_indexOf_4cfef_15 : decode cJ2_indexOf_4cfef 15 = .ok (.iload_n 2, 1) := by decide +kernel
theorem dJ2_indexOf_4cfef_16 : decode cJ2_indexOf_4cfef 16 = .ok (.iload_n 3, 1) := by decide +kernel
theorem dJ2_indexOf_4cfef_17 : decode cJ2_indexOf_4cfef 17 = .ok (.if_icmp .lt 5, 3) := by decide +kernel
theorem dJ2_indexOf_4cfef_20 : decode cJ2_indexOf_4cfef 20 = .ok (.iconst (-1), 1) := by decide +kernel
theorem dJ2_indexOf_4cfef_21 : decode cJ2_indexOf_4cfef 21 = .ok (.ireturn, 1) := by decide +kernel
theorem dJ2_indexOf_4cfef_22 : decode cJ2_indexOf_4cfef 22 = .ok (.iload_n 1, 1) := by decide +kernel
theorem dJ2_indexOf_4cfef_23 : decode cJ2_indexOf_4cfef 23 = .ok (.ldc 227, 2) := by decide +kernel
theorem dJ2_indexOf_4cfef_25 : decode cJ2_indexOf_4cfef 25 = .ok (.if_icmp .ge 11, 3) := by decide +kernel
theorem dJ2_indexOf_4cfef_28 : decode cJ2_indexOf_4cfef 28 = .ok (.aload_n 0, 1) := by decide +kernel
theorem dJ2_indexOf_4cfef_29 : decode cJ2_indexOf_4cfef 29 = .ok (.iload_n 1, 1) := by decide +kernel
theorem dJ2_indexOf_4cfef_30 : decode cJ2_indexOf_4cfef 30 = .ok (.iload_n 2, 1) := by decide +kernel
theorem dJ2_indexOf_4cfef_31 : decode cJ2_indexOf_4cfef 31 = .ok (.iload_n 3, 1) := by decide +kernel
theorem dJ2_indexOf_4cfef_32 : decode cJ2_indexOf_4cfef 32 = .ok (.invokestatic 228, 3) := by decide +kernel
theorem dJ2_indexOf_4cfef_35 : decode cJ2_indexOf_4cfef 35 = .ok (.ireturn, 1) := by decide +kernel
theorem dJ2_indexOf_4cfef_36 : decode cJ2_indexOf_4cfef 36 = .ok (.aload_n 0, 1) := by decide +kernel
theorem dJ2_indexOf_4cfef_37 : decode cJ2_indexOf_4cfef 37 = .ok (.iload_n 1, 1) := by decide +kernel
theorem dJ2_indexOf_4cfef_38 : decode cJ2_indexOf_4cfef 38 = .ok (.iload_n 2, 1) := by decide +kernel
theorem dJ2_indexOf_4cfef_39 : decode cJ2_indexOf_4cfef 39 = .ok (.iload_n 3, 1) := by decide +kernel
theorem dJ2_indexOf_4cfef_40 : decode cJ2_indexOf_4cfef 40 = .ok (.invokestatic 232, 3) := by decide +kernel
theorem dJ2_indexOf_4cfef_43 : decode cJ2_indexOf_4cfef 43 = .ok (.ireturn, 1) := by decide +kernel
theorem dJ2_indexOfChar_4cfef_0 : decode cJ2_indexOfChar_4cfef 0 = .ok (.iload_n 2, 1) := by decide +kernel
theorem dJ2_indexOfChar_4cfef_1 : decode cJ2_indexOfChar_4cfef 1 = .ok (.iload_n 3, 1) := by decide +kernel
theorem dJ2_indexOfChar_4cfef_2 : decode cJ2_indexOfChar_4cfef 2 = .ok (.aload_n 0, 1) := by decide +kernel
theorem dJ2_indexOfChar_4cfef_3 : decode cJ2_indexOfChar_4cfef 3 = .ok (.invokestatic 96, 3) := by decide +kernel
theorem dJ2_indexOfChar_4cfef_6 : decode cJ2_indexOfChar_4cfef 6 = .ok (.aload_n 0, 1) := by decide +kernel
theorem dJ2_indexOfChar_4cfef_7 : decode cJ2_indexOfChar_4cfef 7 = .ok (.iload_n 1, 1) := by decide +kernel
theorem dJ2_indexOfChar_4cfef_8 : decode cJ2_indexOfChar_4cfef 8 = .ok (.iload_n 2, 1) := by decide +kernel
theorem dJ2_indexOfChar_4cfef_9 : decode cJ2_indexOfChar_4cfef 9 = .ok (.iload_n 3, 1) := by decide +kernel
theorem dJ2_indexOfChar_4cfef_10 : decode cJ2_indexOfChar_4cfef 10 = .ok (.invokestatic 244, 3) := by decide +kernel
theorem dJ2_indexOfChar_4cfef_13 : decode cJ2_indexOfChar_4cfef 13 = .ok (.ireturn, 1) := by decide +kernel
theorem dJ2_indexOfCharUnsafe_4cfef_0 : decode cJ2_indexOfCharUnsafe_4cfef 0 = .ok (.iload_n 2, 1) := by decide +kernel
theorem dJ2_indexOfCharUnsafe_4cfef_1 : decode cJ2_indexOfCharUnsafe_4cfef 1 = .ok (.istore 4, 2) := by decide +kernel
theorem dJ2_indexOfCharUnsafe_4cfef_3 : decode cJ2_indexOfCharUnsafe_4cfef 3 = .ok (.iload 4, 2) := by decide +kernel
theorem dJ2_indexOfCharUnsafe_4cfef_5 : decode cJ2_indexOfCharUnsafe_4cfef 5 = .ok (.iload_n 3, 1) := by decide +kernel
theorem dJ2_indexOfCharUnsafe_4cfef_6 : decode cJ2_indexOfCharUnsafe_4cfef 6 = .ok (.if_icmp .ge 22, 3) := by decide +kernel
theorem dJ2_indexOfCharUnsafe_4cfef_9 : decode cJ2_indexOfCharUnsafe_4cfef 9 = .ok (.aload_n 0, 1) := by decide +kernel
theorem dJ2_indexOfCharUnsafe_4cfef_10 : decode cJ2_indexOfCharUnsafe_4cfef 10 = .ok (.iload 4, 2) := by decide +kernel
theorem dJ2_indexOfCharUnsafe_4cfef_12 : decode cJ2_indexOfCharUnsafe_4cfef 12 = .ok (.invokestatic 71, 3) := by decide +kernel
theorem dJ2_indexOfCharUnsafe_4cfef_15 : decode cJ2_indexOfCharUnsafe_4cfef 15 = .ok (.iload_n 1, 1) := by decide +kernel
theorem dJ2_indexOfCharUnsafe_4cfef_16 : decode cJ2_indexOfCharUnsafe_4cfef 16 = .ok (.if_icmp .ne 6, 3) := by decide +kernel
theorem dJ2_indexOfCharUnsafe_4cfef_19 : decode cJ2_indexOfCharUnsafe_4cfef 19 = .ok (.iload 4, 2) := by decide +kernel
theorem dJ2_indexOfCharUnsafe_4cfef_21 : decode cJ2_indexOfCharUnsafe_4cfef 21 = .ok (.ireturn, 1) := by decide +kernel
theorem dJ2_indexOfCharUnsafe_4cfef_22 : decode cJ2_indexOfCharUnsafe_4cfef 22 = .ok (.iinc 4 1, 3) := by decide +kernel
theorem dJ2_indexOfCharUnsafe_4cfef_25 : decode cJ2_indexOfCharUnsafe_4cfef 25 = .ok (.goto (-22), 3) := by decide +kernel
theorem dJ2_indexOfCharUnsafe_4cfef_28 : decode cJ2_indexOfCharUnsafe_4cfef 28 = .ok (.iconst (-1), 1) := by decide +kernel
theorem dJ2_indexOfCharUnsafe_4cfef_29 : decode cJ2_indexOfCharUnsafe_4cfef 29 = .ok (.ireturn, 1) := by decide +kernel
theorem dJ2_indexOfSupplementary_4cfef_0 : decode cJ2_indexOfSupplementary_4cfef 0 = .ok (.iload_n 1, 1) := by decide +kernel
theorem dJ2_indexOfSupplementary_4cfef_1 : decode cJ2_indexOfSupplementary_4cfef 1 = .ok (.invokestatic 164, 3) := by decide +kernel
theorem dJ2_indexOfSupplementary_4cfef_4 : decode cJ2_indexOfSupplementary_4cfef 4 = .ok (.ifCond .eq 65, 3) := by decide +kernel
theorem dJ2_indexOfSupplementary_4cfef_7 : decode cJ2_indexOfSupplementary_4cfef 7 = .ok (.iload_n 1, 1) := by decide +kernel
theorem dJ2_indexOfSupplementary_4cfef_8 : decode cJ2_indexOfSupplementary_4cfef 8 = .ok (.invokestatic 157, 3) := by decide +kernel
theorem dJ2_indexOfSupplementary_4cfef_11 : decode cJ2_indexOfSupplementary_4cfef 11 = .ok (.istore 4, 2) := by decide +kernel
theorem dJ2_indexOfSupplementary_4cfef_13 : decode cJ2_indexOfSupplementary_4cfef 13 = .ok (.iload_n 1, 1) := by decide +kernel
theorem dJ2_indexOfSupplementary_4cfef_14 : decode cJ2_indexOfSupplementary_4cfef 14 = .ok (.invokestatic 161, 3) := by decide +kernel
theorem dJ2_indexOfSupplementary_4cfef_17 : decode cJ2_indexOfSupplementary_4cfef 17 = .ok (.istore 5, 2) := by decide +kernel
theorem dJ2_indexOfSupplementary_4cfef_19 : decode cJ2_indexOfSupplementary_4cfef 19 = .ok (.iload_n 2, 1) := by decide +kernel
theorem dJ2_indexOfSupplementary_4cfef_20 : decode cJ2_indexOfSupplementary_4cfef 20 = .ok (.iload_n 3, 1) := by decide +kernel
theorem dJ2_indexOfSupplementary_4cfef_21 : decode cJ2_indexOfSupplementary_4cfef 21 = .ok (.aload_n 0, 1) := by decide +kernel
theorem dJ2_indexOfSupplementary_4cfef_22 : decode cJ2_indexOfSupplementary_4cfef 22 = .ok (.invokestatic 96, 3) := by decide +kernel
theorem dJ2_indexOfSupplementary_4cfef_25 : decode cJ2_indexOfSupplementary_4cfef 25 = .ok (.iload_n 2, 1) := by decide +kernel
theorem dJ2_indexOfSupplementary_4cfef_26 : decode cJ2_indexOfSupplementary_4cfef 26 = .ok (.istore 6, 2) := by decide +kernel
theorem dJ2_indexOfSupplementary_4cfef_28 : decode cJ2_indexOfSupplementary_4cfef 28 = .ok (.iload 6, 2) := by decide +kernel
theorem dJ2_indexOfSupplementary_4cfef_30 : decode cJ2_indexOfSupplementary_4cfef 30 = .ok (.iload_n 3, 1) := by decide +kernel
theorem dJ2_indexOfSupplementary_4cfef_31 : decode cJ2_indexOfSupplementary_4cfef 31 = .ok (.iconst 1, 1) := by decide +kernel
theorem dJ2_indexOfSupplementary_4cfef_32 : decode cJ2_indexOfSupplementary_4cfef 32 = .ok (.isub, 1) := by decide +kernel
theorem dJ2_indexOfSupplementary_4cfef_33 : decode cJ2_indexOfSupplementary_4cfef 33 = .ok (.if_icmp .ge 36, 3) := by decide +kernel
theorem dJ2_indexOfSupplementary_4cfef_36 : decode cJ2_indexOfSupplementary_4cfef 36 = .ok (.aload_n 0, 1) := by decide +kernel
theorem dJ2_indexOfSupplementary_4cfef_37 : decode cJ2_indexOfSupplementary_4cfef 37 = .ok (.iload 6, 2) := by decide +kernel
theorem dJ2_indexOfSupplementary_4cfef_39 : decode cJ2_indexOfSupplementary_4cfef 39 = .ok (.invokestatic 71, 3) := by decide +kernel
theorem dJ2_indexOfSupplementary_4cfef_42 : decode cJ2_indexOfSupplementary_4cfef 42 = .ok (.iload 4, 2) := by decide +kernel
theorem dJ2_indexOfSupplementary_4cfef_44 : decode cJ2_indexOfSupplementary_4cfef 44 = .ok (.if_icmp .ne 19, 3) := by decide +kernel
theorem dJ2_indexOfSupplementary_4cfef_47 : decode cJ2_indexOfSupplementary_4cfef 47 = .ok (.aload_n 0, 1) := by decide +kernel
theorem dJ2_indexOfSupplementary_4cfef_48 : decode cJ2_indexOfSupplementary_4cfef 48 = .ok (.iload 6, 2) := by decide +kernel
theorem dJ2_indexOfSupplementary_4cfef_50 : decode cJ2_indexOfSupplementary_4cfef 50 = .ok (.iconst 1, 1) := by decide +kernel
theorem dJ2_indexOfSupplementary_4cfef_51 : decode cJ2_indexOfSupplementary_4cfef 51 = .ok (.iadd, 1) := by decide +kernel
theorem dJ2_indexOfSupplementary_4cfef_52 : decode cJ2_indexOfSupplementary_4cfef 52 = .ok (.invokestatic 71, 3) := by decide +kernel
theorem dJ2_indexOfSupplementary_4cfef_55 : decode cJ2_indexOfSupplementary_4cfef 55 = .ok (.iload 5, 2) := by decide +kernel
theorem dJ2_indexOfSupplementary_4cfef_57 : decode cJ2_indexOfSupplementary_4cfef 57 = .ok (.if_icmp .ne 6, 3) := by decide +kernel
theorem dJ2_indexOfSupplementary_4cfef_60 : decode cJ2_indexOfSupplementary_4cfef 60 = .ok (.iload 6, 2) := by decide +kernel
theorem dJ2_indexOfSupplementary_4cfef_62 : decode cJ2_indexOfSupplementary_4cfef 62 = .ok (.ireturn, 1) := by decide +kernel
theorem dJ2_indexOfSupplementary_4cfef_63 : decode cJ2_indexOfSupplementary_4cfef 63 = .ok (.iinc 6 1, 3) := by decide +kernel
theorem dJ2_indexOfSupplementary_4cfef_66 : decode cJ2_indexOfSupplementary_4cfef 66 = .ok (.goto (-38), 3) := by decide +kernel
theorem dJ2_indexOfSupplementary_4cfef_69 : decode cJ2_indexOfSupplementary_4cfef 69 = .ok (.iconst (-1), 1) := by decide +kernel
theorem dJ2_indexOfSupplementary_4cfef_70 : decode cJ2_indexOfSupplementary_4cfef 70 = .ok (.ireturn, 1) := by decide +kernel
theorem dJ2_charAt_3b067_0 : decode cJ2_charAt_3b067 0 = .ok (.iload_n 1, 1) := by decide +kernel
theorem dJ2_charAt_3b067_1 : decode cJ2_charAt_3b067 1 = .ok (.aload_n 0, 1) := by decide +kernel
theorem dJ2_charAt_3b067_2 : decode cJ2_charAt_3b067 2 = .ok (.invokestatic 67, 3) := by decide +kernel
theorem dJ2_charAt_3b067_5 : decode cJ2_charAt_3b067 5 = .ok (.aload_n 0, 1) := by decide +kernel
theorem dJ2_charAt_3b067_6 : decode cJ2_charAt_3b067 6 = .ok (.iload_n 1, 1) := by decide +kernel
theorem dJ2_charAt_3b067_7 : decode cJ2_charAt_3b067 7 = .ok (.invokestatic 71, 3) := by decide +kernel
theorem dJ2_charAt_3b067_10 : decode cJ2_charAt_3b067 10 = .ok (.ireturn, 1) := by decide +kernel
theorem dJ2_checkIndex_2214a_0 : decode cJ2_checkIndex_2214a 0 = .ok (.iload_n 0, 1) := by decide +kernel
theorem dJ2_checkIndex_2214a_1 : decode cJ2_checkIndex_2214a 1 = .ok (.aload_n 1, 1) := by decide +kernel
theorem dJ2_checkIndex_2214a_2 : decode cJ2_checkIndex_2214a 2 = .ok (.invokestatic 48, 3) := by decide +kernel
theorem dJ2_checkIndex_2214a_5 : decode cJ2_checkIndex_2214a 5 = .ok (.invokestatic 414, 3) := by decide +kernel
theorem dJ2_checkIndex_2214a_8 : decode cJ2_checkIndex_2214a 8 = .ok (.return_, 1) := by decide +kernel
theorem dJ2_checkBoundsBeginEnd_d044e_0 : decode cJ2_checkBoundsBeginEnd_d044e 0 = .ok (.iload_n 0, 1) := by decide +kernel
theorem dJ2_checkBoundsBeginEnd_d044e_1 : decode cJ2_checkBoundsBeginEnd_d044e 1 = .ok (.iload_n 1, 1) := by decide +kernel
theorem dJ2_checkBoundsBeginEnd_d044e_2 : decode cJ2_checkBoundsBeginEnd_d044e 2 = .ok (.aload_n 2, 1) := by decide +kernel
theorem dJ2_checkBoundsBeginEnd_d044e_3 : decode cJ2_checkBoundsBeginEnd_d044e 3 = .ok (.invokestatic 48, 3) := by decide +kernel
theorem dJ2_checkBoundsBeginEnd_d044e_6 : decode cJ2_checkBoundsBeginEnd_d044e 6 = .ok (.invokestatic 241, 3) := by decide +kernel
theorem dJ2_checkBoundsBeginEnd_d044e_9 : decode cJ2_checkBoundsBeginEnd_d044e 9 = .ok (.return_, 1) := by decide +kernel
theorem dJ7_fill_d0a16_0 : decode cJ7_fill_d0a16 0 = .ok (.iconst 0, 1) := by decide +kernel
theorem dJ7_fill_d0a16_1 : decode cJ7_fill_d0a16 1 = .ok (.istore_n 3, 1) := by decide +kernel
theorem dJ7_fill_d0a16_2 : decode cJ7_fill_d0a16 2 = .ok (.aload_n 0, 1) := by decide +kernel
theorem dJ7_fill_d0a16_3 : decode cJ7_fill_d0a16 3 = .ok (.arraylength, 1) := by decide +kernel
theorem dJ7_fill_d0a16_4 : decode cJ7_fill_d0a16 4 = .ok (.istore 4, 2) := by decide +kernel
theorem dJ7_fill_d0a16_6 : decode cJ7_fill_d0a16 6 = .ok (.iload_n 3, 1) := by decide +kernel
theorem dJ7_fill_d0a16_7 : decode cJ7_fill_d0a16 7 = .ok (.iload 4, 2) := by decide +kernel
theorem dJ7_fill_d0a16_9 : decode cJ7_fill_d0a16 9 = .ok (.if_icmp .ge 13, 3) := by decide +kernel
theorem dJ7_fill_d0a16_12 : decode cJ7_fill_d0a16 12 = .ok (.aload_n 0, 1) := by decide +kernel
theorem dJ7_fill_d0a16_13 : decode cJ7_fill_d0a16 13 = .ok (.iload_n 3, 1) := by decide +kernel
theorem dJ7_fill_d0a16_14 : decode cJ7_fill_d0a16 14 = .ok (.lload_n 1, 1) := by decide +kernel
theorem dJ7_fill_d0a16_15 : decode cJ7_fill_d0a16 15 = .ok (.lastore, 1) := by decide +kernel
theorem dJ7_fill_d0a16_16 : decode cJ7_fill_d0a16 16 = .ok (.iinc 3 1, 3) := by decide +kernel
theorem dJ7_fill_d0a16_19 : decode cJ7_fill_d0a16 19 = .ok (.goto (-13), 3) := by decide +kernel
theorem dJ7_fill_d0a16_22 : decode cJ7_fill_d0a16 22 = .ok (.return_, 1) := by decide +kernel
theorem dJ7_fill_53178_0 : decode cJ7_fill_53178 0 = .ok (.iconst 0, 1) := by decide +kernel
theorem dJ7_fill_53178_1 : decode cJ7_fill_53178 1 = .ok (.istore_n 2, 1) := by decide +kernel
theorem dJ7_fill_53178_2 : decode cJ7_fill_53178 2 = .ok (.aload_n 0, 1) := by decide +kernel
theorem dJ7_fill_53178_3 : decode cJ7_fill_53178 3 = .ok (.arraylength, 1) := by decide +kernel
theorem dJ7_fill_53178_4 : decode cJ7_fill_53178 4 = .ok (.istore_n 3, 1) := by decide +kernel
theorem dJ7_fill_53178_5 : decode cJ7_fill_53178 5 = .ok (.iload_n 2, 1) := by decide +kernel
theorem dJ7_fill_53178_6 : decode cJ7_fill_53178 6 = .ok (.iload_n 3, 1) := by decide +kernel
theorem dJ7_fill_53178_7 : decode cJ7_fill_53178 7 = .ok (.if_icmp .ge 13, 3) := by decide +kernel
theorem dJ7_fill_53178_10 : decode cJ7_fill_53178 10 = .ok (.aload_n 0, 1) := by decide +kernel
theorem dJ7_fill_53178_11 : decode cJ7_fill_53178 11 = .ok (.iload_n 2, 1) := by decide +kernel
theorem dJ7_fill_53178_12 : decode cJ7_fill_53178 12 = .ok (.iload_n 1, 1) := by decide +kernel
theorem dJ7_fill_53178_13 : decode cJ7_fill_53178 13 = .ok (.iastore, 1) := by decide +kernel
theorem dJ7_fill_53178_14 : decode cJ7_fill_53178 14 = .ok (.iinc 2 1, 3) := by decide +kernel
theorem dJ7_fill_53178_17 : decode cJ7_fill_53178 17 = .ok (.goto (-12), 3) := by decide +kernel
theorem dJ7_fill_53178_20 : decode cJ7_fill_53178 20 = .ok (.return_, 1) := by decide +kernel
theorem dJ7_copyOf_59c91_0 : decode cJ7_copyOf_59c91 0 = .ok (.iload_n 1, 1) := by decide +kernel
theorem dJ7_copyOf_59c91_1 : decode cJ7_copyOf_59c91 1 = .ok (.aload_n 0, 1) := by decide +kernel
theorem dJ7_copyOf_59c91_2 : decode cJ7_copyOf_59c91 2 = .ok (.arraylength, 1) := by decide +kernel
theorem dJ7_copyOf_59c91_3 : decode cJ7_copyOf_59c91 3 = .ok (.if_icmp .ne 11, 3) := by decide +kernel
theorem dJ7_copyOf_59c91_6 : decode cJ7_copyOf_59c91 6 = .ok (.aload_n 0, 1) := by decide +kernel
theorem dJ7_copyOf_59c91_7 : decode cJ7_copyOf_59c91 7 = .ok (.invokevirtual 316, 3) := by decide +kernel
theorem dJ7_copyOf_59c91_10 : decode cJ7_copyOf_59c91 10 = .ok (.checkcast 317, 3) := by decide +kernel
theorem dJ7_copyOf_59c91_13 : decode cJ7_copyOf_59c91 13 = .ok (.areturn, 1) := by decide +kernel
theorem dJ7_copyOf_59c91_14 : decode cJ7_copyOf_59c91 14 = .ok (.iload_n 1, 1) := by decide +kernel
theorem dJ7_copyOf_59c91_15 : decode cJ7_copyOf_59c91 15 = .ok (.newarray .int, 2) := by decide +kernel
theorem dJ7_copyOf_59c91_17 : decode cJ7_copyOf_59c91 17 = .ok (.astore_n 2, 1) := by decide +kernel
theorem dJ7_copyOf_59c91_18 : decode cJ7_copyOf_59c91 18 = .ok (.aload_n 0, 1) := by decide +kernel
theorem dJ7_copyOf_59c91_19 : decode cJ7_copyOf_59c91 19 = .ok (.iconst 0, 1) := by decide +kernel
theorem dJ7_copyOf_59c91_20 : decode cJ7_copyOf_59c91 20 = .ok (.aload_n 2, 1) := by decide +kernel
theorem dJ7_copyOf_59c91_21 : decode cJ7_copyOf_59c91 21 = .ok (.iconst 0, 1) := by decide +kernel
theorem dJ7_copyOf_59c91_22 : decode cJ7_copyOf_59c91 22 = .ok (.aload_n 0, 1) := by decide +kernel
theorem dJ7_copyOf_59c91_23 : decode cJ7_copyOf_59c91 23 = .ok (.arraylength, 1) := by decide +kernel
theorem dJ7_copyOf_59c91_24 : decode cJ7_copyOf_59c91 24 = .ok (.iload_n 1, 1) := by decide +kernel
theorem dJ7_copyOf_59c91_25 : decode cJ7_copyOf_59c91 25 = .ok (.invokestatic 304, 3) := by decide +kernel
theorem dJ7_copyOf_59c91_28 : decode cJ7_copyOf_59c91 28 = .ok (.invokestatic 150, 3) := by decide +kernel
theorem dJ7_copyOf_59c91_31 : decode cJ7_copyOf_59c91 31 = .ok (.aload_n 2, 1) := by decide +kernel
theorem dJ7_copyOf_59c91_32 : decode cJ7_copyOf_59c91 32 = .ok (.areturn, 1) := by decide +kernel
theorem dJ7_copyOf_c38d5_0 : decode cJ7_copyOf_c38d5 0 = .ok (.iload_n 1, 1) := by decide +kernel
theorem dJ7_copyOf_c38d5_1 : decode cJ7_copyOf_c38d5 1 = .ok (.aload_n 0, 1) := by decide +kernel
theorem dJ7_copyOf_c38d5_2 : decode cJ7_copyOf_c38d5 2 = .ok (.arraylength, 1) := by decide +kernel
theorem dJ7_copyOf_c38d5_3 : decode cJ7_copyOf_c38d5 3 = .ok (.if_icmp .ne 11, 3) := by decide +kernel
theorem dJ7_copyOf_c38d5_6 : decode cJ7_copyOf_c38d5 6 = .ok (.aload_n 0, 1) := by decide +kernel
theorem dJ7_copyOf_c38d5_7 : decode cJ7_copyOf_c38d5 7 = .ok (.invokevirtual 319, 3) := by decide +kernel
theorem dJ7_copyOf_c38d5_10 : decode cJ7_copyOf_c38d5 10 = .ok (.checkcast 320, 3) := by decide +kernel
theorem dJ7_copyOf_c38d5_13 : decode cJ7_copyOf_c38d5 13 = .ok (.areturn, 1) := by decide +kernel
theorem dJ7_copyOf_c38d5_14 : decode cJ7_copyOf_c38d5 14 = .ok (.iload_n 1, 1) := by decide +kernel
theorem dJ7_copyOf_c38d5_15 : decode cJ7_copyOf_c38d5 15 = .ok (.newarray .long, 2) := by decide +kernel
theorem dJ7_copyOf_c38d5_17 : decode cJ7_copyOf_c38d5 17 = .ok (.astore_n 2, 1) := by decide +kernel
theorem dJ7_copyOf_c38d5_18 : decode cJ7_copyOf_c38d5 18 = .ok (.aload_n 0, 1) := by decide +kernel
theorem dJ7_copyOf_c38d5_19 : decode cJ7_copyOf_c38d5 19 = .ok (.iconst 0, 1) := by decide +kernel
theorem dJ7_copyOf_c38d5_20 : decode cJ7_copyOf_c38d5 20 = .ok (.aload_n 2, 1) := by decide +kernel
theorem dJ7_copyOf_c38d5_21 : decode cJ7_copyOf_c38d5 21 = .ok (.iconst 0, 1) := by decide +kernel
theorem dJ7_copyOf_c38d5_22 : decode cJ7_copyOf_c38d5 22 = .ok (.aload_n 0, 1) := by decide +kernel
theorem dJ7_copyOf_c38d5_23 : decode cJ7_copyOf_c38d5 23 = .ok (.arraylength, 1) := by decide +kernel
theorem dJ7_copyOf_c38d5_24 : decode cJ7_copyOf_c38d5 24 = .ok (.iload_n 1, 1) := by decide +kernel
theorem dJ7_copyOf_c38d5_25 : decode cJ7_copyOf_c38d5 25 = .ok (.invokestatic 304, 3) := by decide +kernel
theorem dJ7_copyOf_c38d5_28 : decode cJ7_copyOf_c38d5 28 = .ok (.invokestatic 150, 3) := by decide +kernel
theorem dJ7_copyOf_c38d5_31 : decode cJ7_copyOf_c38d5 31 = .ok (.aload_n 2, 1) := by decide +kernel
theorem dJ7_copyOf_c38d5_32 : decode cJ7_copyOf_c38d5 32 = .ok (.areturn, 1) := by decide +kernel
theorem dJ3_checkIndex_8e157_0 : decode cJ3_checkIndex_8e157 0 = .ok (.iload_n 0, 1) := by decide +kernel
theorem dJ3_checkIndex_8e157_1 : decode cJ3_checkIndex_8e157 1 = .ok (.ifCond .lt 8, 3) := by decide +kernel
theorem dJ3_checkIndex_8e157_4 : decode cJ3_checkIndex_8e157 4 = .ok (.iload_n 0, 1) := by decide +kernel
theorem dJ3_checkIndex_8e157_5 : decode cJ3_checkIndex_8e157 5 = .ok (.iload_n 1, 1) := by decide +kernel
theorem dJ3_checkIndex_8e157_6 : decode cJ3_checkIndex_8e157 6 = .ok (.if_icmp .lt 10, 3) := by decide +kernel
theorem dJ3_checkIndex_8e157_9 : decode cJ3_checkIndex_8e157 9 = .ok (.aload_n 2, 1) := by decide +kernel
theorem dJ3_checkIndex_8e157_10 : decode cJ3_checkIndex_8e157 10 = .ok (.iload_n 0, 1) := by decide +kernel
theorem dJ3_checkIndex_8e157_11 : decode cJ3_checkIndex_8e157 11 = .ok (.iload_n 1, 1) := by decide +kernel
theorem dJ3_checkIndex_8e157_12 : decode cJ3_checkIndex_8e157 12 = .ok (.invokestatic 95, 3) := by decide +kernel
theorem dJ3_checkIndex_8e157_15 : decode cJ3_checkIndex_8e157 15 = .ok (.athrow, 1) := by decide +kernel
theorem dJ3_checkIndex_8e157_16 : decode cJ3_checkIndex_8e157 16 = .ok (.iload_n 0, 1) := by decide +kernel
theorem dJ3_checkIndex_8e157_17 : decode cJ3_checkIndex_8e157 17 = .ok (.ireturn, 1) := by decide +kernel
theorem dJ3_checkFromToIndex_8c36e_0 : decode cJ3_checkFromToIndex_8c36e 0 = .ok (.iload_n 0, 1) := by decide +kernel
theorem dJ3_checkFromToIndex_8c36e_1 : decode cJ3_checkFromToIndex_8c36e 1 = .ok (.ifCond .lt 13, 3) := by decide +kernel
theorem dJ3_checkFromToIndex_8c36e_4 : decode cJ3_checkFromToIndex_8c36e 4 = .ok (.iload_n 0, 1) := by decide +kernel
theorem dJ3_checkFromToIndex_8c36e_5 : decode cJ3_checkFromToIndex_8c36e 5 = .ok (.iload_n 1, 1) := by decide +kernel
theorem dJ3_checkFromToIndex_8c36e_6 : decode cJ3_checkFromToIndex_8c36e 6 = .ok (.if_icmp .gt 8, 3) := by decide +kernel
theorem dJ3_checkFromToIndex_8c36e_9 : decode cJ3_checkFromToIndex_8c36e 9 = .ok (.iload_n 1, 1) := by decide +kernel
theorem dJ3_checkFromToIndex_8c36e_10 : decode cJ3_checkFromToIndex_8c36e 10 = .ok (.iload_n 2, 1) := by decide +kernel
theorem dJ3_checkFromToIndex_8c36e_11 : decode cJ3_checkFromToIndex_8c36e 11 = .ok (.if_icmp .le 11, 3) := by decide +kernel
theorem dJ3_checkFromToIndex_8c36e_14 : decode cJ3_checkFromToIndex_8c36e 14 = .ok (.aload_n 3, 1) := by decide +kernel
theorem dJ3_checkFromToIndex_8c36e_15 : decode cJ3_checkFromToIndex_8c36e 15 = .ok (.iload_n 0, 1) := by decide +kernel
theorem dJ3_checkFromToIndex_8c36e_16 : decode cJ3_checkFromToIndex_8c36e 16 = .ok (.iload_n 1, 1) := by decide +kernel
theorem dJ3_checkFromToIndex_8c36e_17 : decode cJ3_checkFromToIndex_8c36e 17 = .ok (.iload_n 2, 1) := by decide +kernel
theorem dJ3_checkFromToIndex_8c36e_18 : decode cJ3_checkFromToIndex_8c36e 18 = .ok (.invokestatic 99, 3) := by decide +kernel
theorem dJ3_checkFromToIndex_8c36e_21 : decode cJ3_checkFromToIndex_8c36e 21 = .ok (.athrow, 1) := by decide +kernel
theorem dJ3_checkFromToIndex_8c36e_22 : decode cJ3_checkFromToIndex_8c36e 22 = .ok (.iload_n 0, 1) := by decide +kernel
theorem dJ3_checkFromToIndex_8c36e_23 : decode cJ3_checkFromToIndex_8c36e 23 = .ok (.ireturn, 1) := by decide +kernel
theorem dL_law_0 : decode cL_law 0 = .ok (.new 7, 3) := by decide +kernel
theorem dL_law_3 : decode cL_law 3 = .ok (.dup, 1) := by decide +kernel
theorem dL_law_4 : decode cL_law 4 = .ok (.invokespecial 9, 3) := by decide +kernel
theorem dL_law_7 : decode cL_law 7 = .ok (.astore_n 1, 1) := by decide +kernel
theorem dL_law_8 : decode cL_law 8 = .ok (.new 10, 3) := by decide +kernel
theorem dL_law_11 : decode cL_law 11 = .ok (.dup, 1) := by decide +kernel
theorem dL_law_12 : decode cL_law 12 = .ok (.invokespecial 12, 3) := by decide +kernel
theorem dL_law_15 : decode cL_law 15 = .ok (.astore_n 2, 1) := by decide +kernel
theorem dL_law_16 : decode cL_law 16 = .ok (.iconst 0, 1) := by decide +kernel
theorem dL_law_17 : decode cL_law 17 = .ok (.istore_n 3, 1) := by decide +kernel
theorem dL_law_18 : decode cL_law 18 = .ok (.iload_n 3, 1) := by decide +kernel
theorem dL_law_19 : decode cL_law 19 = .ok (.aload_n 0, 1) := by decide +kernel
theorem dL_law_20 : decode cL_law 20 = .ok (.arraylength, 1) := by decide +kernel
theorem dL_law_21 : decode cL_law 21 = .ok (.bipush 6, 2) := by decide +kernel
theorem dL_law_23 : decode cL_law 23 = .ok (.isub, 1) := by decide +kernel
theorem dL_law_24 : decode cL_law 24 = .ok (.if_icmp .gt 428, 3) := by decide +kernel
theorem dL_law_27 : decode cL_law 27 = .ok (.aload_n 0, 1) := by decide +kernel
theorem dL_law_28 : decode cL_law 28 = .ok (.iload_n 3, 1) := by decide +kernel
theorem dL_law_29 : decode cL_law 29 = .ok (.iaload, 1) := by decide +kernel
theorem dL_law_30 : decode cL_law 30 = .ok (.bipush 15, 2) := by decide +kernel
theorem dL_law_32 : decode cL_law 32 = .ok (.iand, 1) := by decide +kernel
theorem dL_law_33 : decode cL_law 33 = .ok (.tableswitch 413 0 13 #[71, 134, 157, 180, 193, 216, 239, 262, 275, 298, 321, 344, 367, 390], 71) := by decide +kernel
theorem dL_law_104 : decode cL_law 104 = .ok (.aload_n 1, 1) := by decide +kernel
theorem dL_law_105 : decode cL_law 105 = .ok (.aload_n 0, 1) := by decide +kernel
theorem dL_law_106 : decode cL_law 106 = .ok (.iload_n 3, 1) := by decide +kernel
theorem dL_law_107 : decode cL_law 107 = .ok (.iconst 1, 1) := by decide +kernel
theorem dL_law_108 : decode cL_law 108 = .ok (.iadd, 1) := by decide +kernel
theorem dL_law_109 : decode cL_law 109 = .ok (.iaload, 1) := by decide +kernel
theorem dL_law_110 : decode cL_law 110 = .ok (.aload_n 0, 1) := by decide +kernel
theorem dL_law_111 : decode cL_law 111 = .ok (.iload_n 3, 1) := by decide +kernel
theorem dL_law_112 : decode cL_law 112 = .ok (.iconst 2, 1) := by decide +kernel
theorem dL_law_113 : decode cL_law 113 = .ok (.iadd, 1) := by decide +kernel
theorem dL_law_114 : decode cL_law 114 = .ok (.iaload, 1) := by decide +kernel
theorem dL_law_115 : decode cL_law 115 = .ok (.aload_n 0, 1) := by decide +kernel
theorem dL_law_116 : decode cL_law 116 = .ok (.iload_n 3, 1) := by decide +kernel
theorem dL_law_117 : decode cL_law 117 = .ok (.iconst 3, 1) := by decide +kernel
theorem dL_law_118 : decode cL_law 118 = .ok (.iadd, 1) := by decide +kernel
theorem dL_law_119 : decode cL_law 119 = .ok (.iaload, 1) := by decide +kernel
theorem dL_law_120 : decode cL_law 120 = .ok (.aload_n 0, 1) := by decide +kernel
theorem dL_law_121 : decode cL_law 121 = .ok (.iload_n 3, 1) := by decide +kernel
theorem dL_law_122 : decode cL_law 122 = .ok (.iconst 4, 1) := by decide +kernel
theorem dL_law_123 : decode cL_law 123 = .ok (.iadd, 1) := by decide +kernel
theorem dL_law_124 : decode cL_law 124 = .ok (.iaload, 1) := by decide +kernel
theorem dL_law_125 : decode cL_law 125 = .ok (.aload_n 0, 1) := by decide +kernel
theorem dL_law_126 : decode cL_law 126 = .ok (.iload_n 3, 1) := by decide +kernel
theorem dL_law_127 : decode cL_law 127 = .ok (.iconst 5, 1) := by decide +kernel
theorem dL_law_128 : decode cL_law 128 = .ok (.iadd, 1) := by decide +kernel
theorem dL_law_129 : decode cL_law 129 = .ok (.iaload, 1) := by decide +kernel
theorem dL_law_130 : decode cL_law 130 = .ok (.invokevirtual 13, 3) := by decide +kernel
theorem dL_law_133 : decode cL_law 133 = .ok (.aload_n 2, 1) := by decide +kernel
theorem dL_law_134 : decode cL_law 134 = .ok (.aload_n 0, 1) := by decide +kernel
theorem dL_law_135 : decode cL_law 135 = .ok (.iload_n 3, 1) := by decide +kernel
theorem dL_law_136 : decode cL_law 136 = .ok (.iconst 1, 1) := by decide +kernel
theorem dL_law_137 : decode cL_law 137 = .ok (.iadd, 1) := by decide +kernel
theorem dL_law_138 : decode cL_law 138 = .ok (.iaload, 1) := by decide +kernel
theorem dL_law_139 : decode cL_law 139 = .ok (.aload_n 0, 1) := by decide +kernel
theorem dL_law_140 : decode cL_law 140 = .ok (.iload_n 3, 1) := by decide +kernel
theorem dL_law_141 : decode cL_law 141 = .ok (.iconst 2, 1) := by decide +kernel
theorem dL_law_142 : decode cL_law 142 = .ok (.iadd, 1) := by decide +kernel
theorem dL_law_143 : decode cL_law 143 = .ok (.iaload, 1) := by decide +kernel
theorem dL_law_144 : decode cL_law 144 = .ok (.aload_n 0, 1) := by decide +kernel
theorem dL_law_145 : decode cL_law 145 = .ok (.iload_n 3, 1) := by decide +kernel
theorem dL_law_146 : decode cL_law 146 = .ok (.iconst 3, 1) := by decide +kernel
theorem dL_law_147 : decode cL_law 147 = .ok (.iadd, 1) := by decide +kernel
theorem dL_law_148 : decode cL_law 148 = .ok (.iaload, 1) := by decide +kernel
theorem dL_law_149 : decode cL_law 149 = .ok (.aload_n 0, 1) := by decide +kernel
theorem dL_law_150 : decode cL_law 150 = .ok (.iload_n 3, 1) := by decide +kernel
theorem dL_law_151 : decode cL_law 151 = .ok (.iconst 4, 1) := by decide +kernel
theorem dL_law_152 : decode cL_law 152 = .ok (.iadd, 1) := by decide +kernel
theorem dL_law_153 : decode cL_law 153 = .ok (.iaload, 1) := by decide +kernel
theorem dL_law_154 : decode cL_law 154 = .ok (.aload_n 0, 1) := by decide +kernel
theorem dL_law_155 : decode cL_law 155 = .ok (.iload_n 3, 1) := by decide +kernel
theorem dL_law_156 : decode cL_law 156 = .ok (.iconst 5, 1) := by decide +kernel
theorem dL_law_157 : decode cL_law 157 = .ok (.iadd, 1) := by decide +kernel
theorem dL_law_158 : decode cL_law 158 = .ok (.iaload, 1) := by decide +kernel
theorem dL_law_159 : decode cL_law 159 = .ok (.invokevirtual 17, 3) := by decide +kernel
theorem dL_law_162 : decode cL_law 162 = .ok (.if_icmp .eq 284, 3) := by decide +kernel
theorem dL_law_165 : decode cL_law 165 = .ok (.iconst 0, 1) := by decide +kernel
theorem dL_law_166 : decode cL_law 166 = .ok (.ireturn, 1) := by decide +kernel
theorem dL_law_167 : decode cL_law 167 = .ok (.aload_n 1, 1) := by decide +kernel
theorem dL_law_168 : decode cL_law 168 = .ok (.aload_n 0, 1) := by decide +kernel
theorem dL_law_169 : decode cL_law 169 = .ok (.iload_n 3, 1) := by decide +kernel
theorem dL_law_170 : decode cL_law 170 = .ok (.iconst 1, 1) := by decide +kernel
theorem dL_law_171 : decode cL_law 171 = .ok (.iadd, 1) := by decide +kernel
theorem dL_law_172 : decode cL_law 172 = .ok (.iaload, 1) := by decide +kernel
theorem dL_law_173 : decode cL_law 173 = .ok (.invokevirtual 18, 3) := by decide +kernel
theorem dL_law_176 : decode cL_law 176 = .ok (.aload_n 2, 1) := by decide +kernel
theorem dL_law_177 : decode cL_law 177 = .ok (.aload_n 0, 1) := by decide +kernel
theorem dL_law_178 : decode cL_law 178 = .ok (.iload_n 3, 1) := by decide +kernel
theorem dL_law_179 : decode cL_law 179 = .ok (.iconst 1, 1) := by decide +kernel
theorem dL_law_180 : decode cL_law 180 = .ok (.iadd, 1) := by decide +kernel
theorem dL_law_181 : decode cL_law 181 = .ok (.iaload, 1) := by decide +kernel
theorem dL_law_182 : decode cL_law 182 = .ok (.invokevirtual 22, 3) := by decide +kernel
theorem dL_law_185 : decode cL_law 185 = .ok (.if_icmp .eq 261, 3) := by decide +kernel
theorem dL_law_188 : decode cL_law 188 = .ok (.iconst 0, 1) := by decide +kernel
theorem dL_law_189 : decode cL_law 189 = .ok (.ireturn, 1) := by decide +kernel
theorem dL_law_190 : decode cL_law 190 = .ok (.aload_n 1, 1) := by decide +kernel
theorem dL_law_191 : decode cL_law 191 = .ok (.aload_n 0, 1) := by decide +kernel
theorem dL_law_192 : decode cL_law 192 = .ok (.iload_n 3, 1) := by decide +kernel
theorem dL_law_193 : decode cL_law 193 = .ok (.iconst 1, 1) := by decide +kernel
theorem dL_law_194 : decode cL_law 194 = .ok (.iadd, 1) := by decide +kernel
theorem dL_law_195 : decode cL_law 195 = .ok (.iaload, 1) := by decide +kernel
theorem dL_law_196 : decode cL_law 196 = .ok (.invokevirtual 23, 3) := by decide +kernel
theorem dL_law_199 : decode cL_law 199 = .ok (.aload_n 2, 1) := by decide +kernel
theorem dL_law_200 : decode cL_law 200 = .ok (.aload_n 0, 1) := by decide +kernel
theorem dL_law_201 : decode cL_law 201 = .ok (.iload_n 3, 1) := by decide +kernel
theorem dL_law_202 : decode cL_law 202 = .ok (.iconst 1, 1) := by decide +kernel
theorem dL_law_203 : decode cL_law 203 = .ok (.iadd, 1) := by decide +kernel
theorem dL_law_204 : decode cL_law 204 = .ok (.iaload, 1) := by decide +kernel
theorem dL_law_205 : decode cL_law 205 = .ok (.invokevirtual 26, 3) := by decide +kernel
theorem dL_law_208 : decode cL_law 208 = .ok (.if_icmp .eq 238, 3) := by decide +kernel
theorem dL_law_211 : decode cL_law 211 = .ok (.iconst 0, 1) := by decide +kernel
theorem dL_law_212 : decode cL_law 212 = .ok (.ireturn, 1) := by decide +kernel
theorem dL_law_213 : decode cL_law 213 = .ok (.aload_n 1, 1) := by decide +kernel
theorem dL_law_214 : decode cL_law 214 = .ok (.invokevirtual 27, 3) := by decide +kernel
theorem dL_law_217 : decode cL_law 217 = .ok (.aload_n 2, 1) := by decide +kernel
theorem dL_law_218 : decode cL_law 218 = .ok (.invokevirtual 31, 3) := by decide +kernel
theorem dL_law_221 : decode cL_law 221 = .ok (.if_icmp .eq 225, 3) := by decide +kernel
theorem dL_law_224 : decode cL_law 224 = .ok (.iconst 0, 1) := by decide +kernel
theorem dL_law_225 : decode cL_law 225 = .ok (.ireturn, 1) := by decide +kernel
theorem dL_law_226 : decode cL_law 226 = .ok (.aload_n 1, 1) := by decide +kernel
theorem dL_law_227 : decode cL_law 227 = .ok (.aload_n 0, 1) := by decide +kernel
theorem dL_law_228 : decode cL_law 228 = .ok (.iload_n 3, 1) := by decide +kernel
theorem dL_law_229 : decode cL_law 229 = .ok (.iconst 1, 1) := by decide +kernel
theorem dL_law_230 : decode cL_law 230 = .ok (.iadd, 1) := by decide +kernel
theorem dL_law_231 : decode cL_law 231 = .ok (.iaload, 1) := by decide +kernel
theorem dL_law_232 : decode cL_law 232 = .ok (.invokevirtual 32, 3) := by decide +kernel
theorem dL_law_235 : decode cL_law 235 = .ok (.aload_n 2, 1) := by decide +kernel
theorem dL_law_236 : decode cL_law 236 = .ok (.aload_n 0, 1) := by decide +kernel
theorem dL_law_237 : decode cL_law 237 = .ok (.iload_n 3, 1) := by decide +kernel
theorem dL_law_238 : decode cL_law 238 = .ok (.iconst 1, 1) := by decide +kernel
theorem dL_law_239 : decode cL_law 239 = .ok (.iadd, 1) := by decide +kernel
theorem dL_law_240 : decode cL_law 240 = .ok (.iaload, 1) := by decide +kernel
theorem dL_law_241 : decode cL_law 241 = .ok (.invokevirtual 35, 3) := by decide +kernel
theorem dL_law_244 : decode cL_law 244 = .ok (.if_icmp .eq 202, 3) := by decide +kernel
theorem dL_law_247 : decode cL_law 247 = .ok (.iconst 0, 1) := by decide +kernel
theorem dL_law_248 : decode cL_law 248 = .ok (.ireturn, 1) := by decide +kernel
theorem dL_law_249 : decode cL_law 249 = .ok (.aload_n 1, 1) := by decide +kernel
theorem dL_law_250 : decode cL_law 250 = .ok (.aload_n 0, 1) := by decide +kernel
theorem dL_law_251 : decode cL_law 251 = .ok (.iload_n 3, 1) := by decide +kernel
theorem dL_law_252 : decode cL_law 252 = .ok (.iconst 1, 1) := by decide +kernel
theorem dL_law_253 : decode cL_law 253 = .ok (.iadd, 1) := by decide +kernel
theorem dL_law_254 : decode cL_law 254 = .ok (.iaload, 1) := by decide +kernel
theorem dL_law_255 : decode cL_law 255 = .ok (.invokevirtual 36, 3) := by decide +kernel
theorem dL_law_258 : decode cL_law 258 = .ok (.aload_n 2, 1) := by decide +kernel
theorem dL_law_259 : decode cL_law 259 = .ok (.aload_n 0, 1) := by decide +kernel
theorem dL_law_260 : decode cL_law 260 = .ok (.iload_n 3, 1) := by decide +kernel
theorem dL_law_261 : decode cL_law 261 = .ok (.iconst 1, 1) := by decide +kernel
theorem dL_law_262 : decode cL_law 262 = .ok (.iadd, 1) := by decide +kernel
theorem dL_law_263 : decode cL_law 263 = .ok (.iaload, 1) := by decide +kernel
theorem dL_law_264 : decode cL_law 264 = .ok (.invokevirtual 39, 3) := by decide +kernel
theorem dL_law_267 : decode cL_law 267 = .ok (.if_icmp .eq 179, 3) := by decide +kernel
theorem dL_law_270 : decode cL_law 270 = .ok (.iconst 0, 1) := by decide +kernel
theorem dL_law_271 : decode cL_law 271 = .ok (.ireturn, 1) := by decide +kernel
theorem dL_law_272 : decode cL_law 272 = .ok (.aload_n 1, 1) := by decide +kernel
theorem dL_law_273 : decode cL_law 273 = .ok (.aload_n 0, 1) := by decide +kernel
theorem dL_law_274 : decode cL_law 274 = .ok (.iload_n 3, 1) := by decide +kernel
theorem dL_law_275 : decode cL_law 275 = .ok (.iconst 1, 1) := by decide +kernel
theorem dL_law_276 : decode cL_law 276 = .ok (.iadd, 1) := by decide +kernel
theorem dL_law_277 : decode cL_law 277 = .ok (.iaload, 1) := by decide +kernel
theorem dL_law_278 : decode cL_law 278 = .ok (.invokevirtual 40, 3) := by decide +kernel
theorem dL_law_281 : decode cL_law 281 = .ok (.aload_n 2, 1) := by decide +kernel
theorem dL_law_282 : decode cL_law 282 = .ok (.aload_n 0, 1) := by decide +kernel
theorem dL_law_283 : decode cL_law 283 = .ok (.iload_n 3, 1) := by decide +kernel
theorem dL_law_284 : decode cL_law 284 = .ok (.iconst 1, 1) := by decide +kernel
theorem dL_law_285 : decode cL_law 285 = .ok (.iadd, 1) := by decide +kernel
theorem dL_law_286 : decode cL_law 286 = .ok (.iaload, 1) := by decide +kernel
theorem dL_law_287 : decode cL_law 287 = .ok (.invokevirtual 43, 3) := by decide +kernel
theorem dL_law_290 : decode cL_law 290 = .ok (.if_icmp .eq 156, 3) := by decide +kernel
theorem dL_law_293 : decode cL_law 293 = .ok (.iconst 0, 1) := by decide +kernel
theorem dL_law_294 : decode cL_law 294 = .ok (.ireturn, 1) := by decide +kernel
theorem dL_law_295 : decode cL_law 295 = .ok (.aload_n 1, 1) := by decide +kernel
theorem dL_law_296 : decode cL_law 296 = .ok (.invokevirtual 44, 3) := by decide +kernel
theorem dL_law_299 : decode cL_law 299 = .ok (.aload_n 2, 1) := by decide +kernel
theorem dL_law_300 : decode cL_law 300 = .ok (.invokevirtual 48, 3) := by decide +kernel
theorem dL_law_303 : decode cL_law 303 = .ok (.if_icmp .eq 143, 3) := by decide +kernel
theorem dL_law_306 : decode cL_law 306 = .ok (.iconst 0, 1) := by decide +kernel
theorem dL_law_307 : decode cL_law 307 = .ok (.ireturn, 1) := by decide +kernel
theorem dL_law_308 : decode cL_law 308 = .ok (.aload_n 1, 1) := by decide +kernel
theorem dL_law_309 : decode cL_law 309 = .ok (.aload_n 0, 1) := by decide +kernel
theorem dL_law_310 : decode cL_law 310 = .ok (.iload_n 3, 1) := by decide +kernel
theorem dL_law_311 : decode cL_law 311 = .ok (.iconst 1, 1) := by decide +kernel
theorem dL_law_312 : decode cL_law 312 = .ok (.iadd, 1) := by decide +kernel
theorem dL_law_313 : decode cL_law 313 = .ok (.iaload, 1) := by decide +kernel
theorem dL_law_314 : decode cL_law 314 = .ok (.invokevirtual 49, 3) := by decide +kernel
theorem dL_law_317 : decode cL_law 317 = .ok (.aload_n 2, 1) := by decide +kernel
theorem dL_law_318 : decode cL_law 318 = .ok (.aload_n 0, 1) := by decide +kernel
theorem dL_law_319 : decode cL_law 319 = .ok (.iload_n 3, 1) := by decide +kernel
theorem dL_law_320 : decode cL_law 320 = .ok (.iconst 1, 1) := by decide +kernel
theorem dL_law_321 : decode cL_law 321 = .ok (.iadd, 1) := by decide +kernel
theorem dL_law_322 : decode cL_law 322 = .ok (.iaload, 1) := by decide +kernel
theorem dL_law_323 : decode cL_law 323 = .ok (.invokevirtual 53, 3) := by decide +kernel
theorem dL_law_326 : decode cL_law 326 = .ok (.if_icmp .eq 120, 3) := by decide +kernel
theorem dL_law_329 : decode cL_law 329 = .ok (.iconst 0, 1) := by decide +kernel
theorem dL_law_330 : decode cL_law 330 = .ok (.ireturn, 1) := by decide +kernel
theorem dL_law_331 : decode cL_law 331 = .ok (.aload_n 1, 1) := by decide +kernel
theorem dL_law_332 : decode cL_law 332 = .ok (.aload_n 0, 1) := by decide +kernel
theorem dL_law_333 : decode cL_law 333 = .ok (.iload_n 3, 1) := by decide +kernel
theorem dL_law_334 : decode cL_law 334 = .ok (.iconst 1, 1) := by decide +kernel
theorem dL_law_335 : decode cL_law 335 = .ok (.iadd, 1) := by decide +kernel
theorem dL_law_336 : decode cL_law 336 = .ok (.iaload, 1) := by decide +kernel
theorem dL_law_337 : decode cL_law 337 = .ok (.invokevirtual 54, 3) := by decide +kernel
theorem dL_law_340 : decode cL_law 340 = .ok (.aload_n 2, 1) := by decide +kernel
theorem dL_law_341 : decode cL_law 341 = .ok (.aload_n 0, 1) := by decide +kernel
theorem dL_law_342 : decode cL_law 342 = .ok (.iload_n 3, 1) := by decide +kernel
theorem dL_law_343 : decode cL_law 343 = .ok (.iconst 1, 1) := by decide +kernel
theorem dL_law_344 : decode cL_law 344 = .ok (.iadd, 1) := by decide +kernel
theorem dL_law_345 : decode cL_law 345 = .ok (.iaload, 1) := by decide +kernel
theorem dL_law_346 : decode cL_law 346 = .ok (.invokevirtual 57, 3) := by decide +kernel
theorem dL_law_349 : decode cL_law 349 = .ok (.if_icmp .eq 97, 3) := by decide +kernel
theorem dL_law_352 : decode cL_law 352 = .ok (.iconst 0, 1) := by decide +kernel
theorem dL_law_353 : decode cL_law 353 = .ok (.ireturn, 1) := by decide +kernel
theorem dL_law_354 : decode cL_law 354 = .ok (.aload_n 1, 1) := by decide +kernel
theorem dL_law_355 : decode cL_law 355 = .ok (.aload_n 0, 1) := by decide +kernel
theorem dL_law_356 : decode cL_law 356 = .ok (.iload_n 3, 1) := by decide +kernel
theorem dL_law_357 : decode cL_law 357 = .ok (.iconst 1, 1) := by decide +kernel
theorem dL_law_358 : decode cL_law 358 = .ok (.iadd, 1) := by decide +kernel
theorem dL_law_359 : decode cL_law 359 = .ok (.iaload, 1) := by decide +kernel
theorem dL_law_360 : decode cL_law 360 = .ok (.invokevirtual 58, 3) := by decide +kernel
theorem dL_law_363 : decode cL_law 363 = .ok (.aload_n 2, 1) := by decide +kernel
theorem dL_law_364 : decode cL_law 364 = .ok (.aload_n 0, 1) := by decide +kernel
theorem dL_law_365 : decode cL_law 365 = .ok (.iload_n 3, 1) := by decide +kernel
theorem dL_law_366 : decode cL_law 366 = .ok (.iconst 1, 1) := by decide +kernel
theorem dL_law_367 : decode cL_law 367 = .ok (.iadd, 1) := by decide +kernel
theorem dL_law_368 : decode cL_law 368 = .ok (.iaload, 1) := by decide +kernel
theorem dL_law_369 : decode cL_law 369 = .ok (.invokevirtual 61, 3) := by decide +kernel
theorem dL_law_372 : decode cL_law 372 = .ok (.if_icmp .eq 74, 3) := by decide +kernel
theorem dL_law_375 : decode cL_law 375 = .ok (.iconst 0, 1) := by decide +kernel
theorem dL_law_376 : decode cL_law 376 = .ok (.ireturn, 1) := by decide +kernel
theorem dL_law_377 : decode cL_law 377 = .ok (.aload_n 1, 1) := by decide +kernel
theorem dL_law_378 : decode cL_law 378 = .ok (.aload_n 0, 1) := by decide +kernel
theorem dL_law_379 : decode cL_law 379 = .ok (.iload_n 3, 1) := by decide +kernel
theorem dL_law_380 : decode cL_law 380 = .ok (.iconst 1, 1) := by decide +kernel
theorem dL_law_381 : decode cL_law 381 = .ok (.iadd, 1) := by decide +kernel
theorem dL_law_382 : decode cL_law 382 = .ok (.iaload, 1) := by decide +kernel
theorem dL_law_383 : decode cL_law 383 = .ok (.invokevirtual 62, 3) := by decide +kernel
theorem dL_law_386 : decode cL_law 386 = .ok (.aload_n 2, 1) := by decide +kernel
theorem dL_law_387 : decode cL_law 387 = .ok (.aload_n 0, 1) := by decide +kernel
theorem dL_law_388 : decode cL_law 388 = .ok (.iload_n 3, 1) := by decide +kernel
theorem dL_law_389 : decode cL_law 389 = .ok (.iconst 1, 1) := by decide +kernel
theorem dL_law_390 : decode cL_law 390 = .ok (.iadd, 1) := by decide +kernel
theorem dL_law_391 : decode cL_law 391 = .ok (.iaload, 1) := by decide +kernel
theorem dL_law_392 : decode cL_law 392 = .ok (.invokevirtual 65, 3) := by decide +kernel
theorem dL_law_395 : decode cL_law 395 = .ok (.if_icmp .eq 51, 3) := by decide +kernel
theorem dL_law_398 : decode cL_law 398 = .ok (.iconst 0, 1) := by decide +kernel
theorem dL_law_399 : decode cL_law 399 = .ok (.ireturn, 1) := by decide +kernel
theorem dL_law_400 : decode cL_law 400 = .ok (.aload_n 1, 1) := by decide +kernel
theorem dL_law_401 : decode cL_law 401 = .ok (.aload_n 0, 1) := by decide +kernel
theorem dL_law_402 : decode cL_law 402 = .ok (.iload_n 3, 1) := by decide +kernel
theorem dL_law_403 : decode cL_law 403 = .ok (.iconst 1, 1) := by decide +kernel
theorem dL_law_404 : decode cL_law 404 = .ok (.iadd, 1) := by decide +kernel
theorem dL_law_405 : decode cL_law 405 = .ok (.iaload, 1) := by decide +kernel
theorem dL_law_406 : decode cL_law 406 = .ok (.invokevirtual 66, 3) := by decide +kernel
theorem dL_law_409 : decode cL_law 409 = .ok (.aload_n 2, 1) := by decide +kernel
theorem dL_law_410 : decode cL_law 410 = .ok (.aload_n 0, 1) := by decide +kernel
theorem dL_law_411 : decode cL_law 411 = .ok (.iload_n 3, 1) := by decide +kernel
theorem dL_law_412 : decode cL_law 412 = .ok (.iconst 1, 1) := by decide +kernel
theorem dL_law_413 : decode cL_law 413 = .ok (.iadd, 1) := by decide +kernel
theorem dL_law_414 : decode cL_law 414 = .ok (.iaload, 1) := by decide +kernel
theorem dL_law_415 : decode cL_law 415 = .ok (.invokevirtual 69, 3) := by decide +kernel
theorem dL_law_418 : decode cL_law 418 = .ok (.if_icmp .eq 28, 3) := by decide +kernel
theorem dL_law_421 : decode cL_law 421 = .ok (.iconst 0, 1) := by decide +kernel
theorem dL_law_422 : decode cL_law 422 = .ok (.ireturn, 1) := by decide +kernel
theorem dL_law_423 : decode cL_law 423 = .ok (.aload_n 1, 1) := by decide +kernel
theorem dL_law_424 : decode cL_law 424 = .ok (.aload_n 0, 1) := by decide +kernel
theorem dL_law_425 : decode cL_law 425 = .ok (.iload_n 3, 1) := by decide +kernel
theorem dL_law_426 : decode cL_law 426 = .ok (.iconst 1, 1) := by decide +kernel
theorem dL_law_427 : decode cL_law 427 = .ok (.iadd, 1) := by decide +kernel
theorem dL_law_428 : decode cL_law 428 = .ok (.iaload, 1) := by decide +kernel
theorem dL_law_429 : decode cL_law 429 = .ok (.invokevirtual 70, 3) := by decide +kernel
theorem dL_law_432 : decode cL_law 432 = .ok (.aload_n 2, 1) := by decide +kernel
theorem dL_law_433 : decode cL_law 433 = .ok (.aload_n 0, 1) := by decide +kernel
theorem dL_law_434 : decode cL_law 434 = .ok (.iload_n 3, 1) := by decide +kernel
theorem dL_law_435 : decode cL_law 435 = .ok (.iconst 1, 1) := by decide +kernel
theorem dL_law_436 : decode cL_law 436 = .ok (.iadd, 1) := by decide +kernel
theorem dL_law_437 : decode cL_law 437 = .ok (.iaload, 1) := by decide +kernel
theorem dL_law_438 : decode cL_law 438 = .ok (.invokevirtual 73, 3) := by decide +kernel
theorem dL_law_441 : decode cL_law 441 = .ok (.if_icmp .eq 5, 3) := by decide +kernel
theorem dL_law_444 : decode cL_law 444 = .ok (.iconst 0, 1) := by decide +kernel
theorem dL_law_445 : decode cL_law 445 = .ok (.ireturn, 1) := by decide +kernel
theorem dL_law_446 : decode cL_law 446 = .ok (.iinc 3 6, 3) := by decide +kernel
theorem dL_law_449 : decode cL_law 449 = .ok (.goto (-431), 3) := by decide +kernel
theorem dL_law_452 : decode cL_law 452 = .ok (.iconst 1, 1) := by decide +kernel
theorem dL_law_453 : decode cL_law 453 = .ok (.ireturn, 1) := by decide +kernel
theorem dX0_definedNumber_0 : decode cX0_definedNumber 0 = .ok (.iload_n 1, 1) := by decide +kernel
theorem dX0_definedNumber_1 : decode cX0_definedNumber 1 = .ok (.ifCond .lt 21, 3) := by decide +kernel
theorem dX0_definedNumber_4 : decode cX0_definedNumber 4 = .ok (.iload_n 1, 1) := by decide +kernel
theorem dX0_definedNumber_5 : decode cX0_definedNumber 5 = .ok (.aload_n 0, 1) := by decide +kernel
theorem dX0_definedNumber_6 : decode cX0_definedNumber 6 = .ok (.getfield 18, 3) := by decide +kernel
theorem dX0_definedNumber_9 : decode cX0_definedNumber 9 = .ok (.arraylength, 1) := by decide +kernel
theorem dX0_definedNumber_10 : decode cX0_definedNumber 10 = .ok (.if_icmp .ge 12, 3) := by decide +kernel
theorem dX0_definedNumber_13 : decode cX0_definedNumber 13 = .ok (.aload_n 0, 1) := by decide +kernel
theorem dX0_definedNumber_14 : decode cX0_definedNumber 14 = .ok (.getfield 18, 3) := by decide +kernel
theorem dX0_definedNumber_17 : decode cX0_definedNumber 17 = .ok (.iload_n 1, 1) := by decide +kernel
theorem dX0_definedNumber_18 : decode cX0_definedNumber 18 = .ok (.iaload, 1) := by decide +kernel
theorem dX0_definedNumber_19 : decode cX0_definedNumber 19 = .ok (.goto 4, 3) := by decide +kernel
theorem dX0_definedNumber_22 : decode cX0_definedNumber 22 = .ok (.iconst (-1), 1) := by decide +kernel
theorem dX0_definedNumber_23 : decode cX0_definedNumber 23 = .ok (.ireturn, 1) := by decide +kernel
theorem dX7_isInQuote_0 : decode cX7_isInQuote 0 = .ok (.aload_n 0, 1) := by decide +kernel
theorem dX7_isInQuote_1 : decode cX7_isInQuote 1 = .ok (.getfield 69, 3) := by decide +kernel
theorem dX7_isInQuote_4 : decode cX7_isInQuote 4 = .ok (.ifCond .le 28, 3) := by decide +kernel
theorem dX7_isInQuote_7 : decode cX7_isInQuote 7 = .ok (.aload_n 0, 1) := by decide +kernel
theorem dX7_isInQuote_8 : decode cX7_isInQuote 8 = .ok (.getfield 69, 3) := by decide +kernel
theorem dX7_isInQuote_11 : decode cX7_isInQuote 11 = .ok (.bipush 30, 2) := by decide +kernel
theorem dX7_isInQuote_13 : decode cX7_isInQuote 13 = .ok (.if_icmp .gt 19, 3) := by decide +kernel
theorem dX7_isInQuote_16 : decode cX7_isInQuote 16 = .ok (.aload_n 0, 1) := by decide +kernel
theorem dX7_isInQuote_17 : decode cX7_isInQuote 17 = .ok (.getfield 40, 3) := by decide +kernel
theorem dX7_isInQuote_20 : decode cX7_isInQuote 20 = .ok (.aload_n 0, 1) := by decide +kernel
theorem dX7_isInQuote_21 : decode cX7_isInQuote 21 = .ok (.getfield 69, 3) := by decide +kernel
theorem dX7_isInQuote_24 : decode cX7_isInQuote 24 = .ok (.baload, 1) := by decide +kernel
theorem dX7_isInQuote_25 : decode cX7_isInQuote 25 = .ok (.ifCond .eq 7, 3) := by decide +kernel
theorem dX7_isInQuote_28 : decode cX7_isInQuote 28 = .ok (.iconst 1, 1) := by decide +kernel
theorem dX7_isInQuote_29 : decode cX7_isInQuote 29 = .ok (.goto 4, 3) := by decide +kernel
theorem dX7_isInQuote_32 : decode cX7_isInQuote 32 = .ok (.iconst 0, 1) := by decide +kernel
theorem dX7_isInQuote_33 : decode cX7_isInQuote 33 = .ok (.ireturn, 1) := by decide +kernel
theorem dX9_ownerOf_0 : decode cX9_ownerOf 0 = .ok (.iload_n 1, 1) := by decide +kernel
theorem dX9_ownerOf_1 : decode cX9_ownerOf 1 = .ok (.ifCond .lt 20, 3) := by decide +kernel
theorem dX9_ownerOf_4 : decode cX9_ownerOf 4 = .ok (.iload_n 1, 1) := by decide +kernel
theorem dX9_ownerOf_5 : decode cX9_ownerOf 5 = .ok (.aload_n 0, 1) := by decide +kernel
theorem dX9_ownerOf_6 : decode cX9_ownerOf 6 = .ok (.getfield 27, 3) := by decide +kernel
theorem dX9_ownerOf_9 : decode cX9_ownerOf 9 = .ok (.if_icmp .ge 12, 3) := by decide +kernel
theorem dX9_ownerOf_12 : decode cX9_ownerOf 12 = .ok (.aload_n 0, 1) := by decide +kernel
theorem dX9_ownerOf_13 : decode cX9_ownerOf 13 = .ok (.getfield 18, 3) := by decide +kernel
theorem dX9_ownerOf_16 : decode cX9_ownerOf 16 = .ok (.iload_n 1, 1) := by decide +kernel
theorem dX9_ownerOf_17 : decode cX9_ownerOf 17 = .ok (.iaload, 1) := by decide +kernel
theorem dX9_ownerOf_18 : decode cX9_ownerOf 18 = .ok (.goto 7, 3) := by decide +kernel
theorem dX9_ownerOf_21 : decode cX9_ownerOf 21 = .ok (.aload_n 0, 1) := by decide +kernel
theorem dX9_ownerOf_22 : decode cX9_ownerOf 22 = .ok (.getfield 31, 3) := by decide +kernel
theorem dX9_ownerOf_25 : decode cX9_ownerOf 25 = .ok (.ireturn, 1) := by decide +kernel
