theorem dX11_freezes_0 : decode cX11_freezes 0 = .ok (.aload_n 0, 1) := by decide +kernel
theorem dX11_freezes_1 : decode cX11_freezes 1 = .ok (.iload_n 1, 1) := by decide +kernel
theorem dX11_freezes_2 : decode cX11_freezes 2 = .ok (.iload_n 2, 1) := by decide +kernel
theorem dX11_freezes_3 : decode cX11_freezes 3 = .ok (.iconst 1, 1) := by decide +kernel
theorem dX11_freezes_4 : decode cX11_freezes 4 = .ok (.invokevirtual 51, 3) := by decide +kernel
theorem dX11_freezes_7 : decode cX11_freezes 7 = .ok (.istore 4, 2) := by decide +kernel
theorem dX11_freezes_9 : decode cX11_freezes 9 = .ok (.iload_n 3, 1) := by decide +kernel
theorem dX11_freezes_10 : decode cX11_freezes 10 = .ok (.ifCond .le 42, 3) := by decide +kernel
theorem dX11_freezes_13 : decode cX11_freezes 13 = .ok (.bipush 100, 2) := by decide +kernel
theorem dX11_freezes_15 : decode cX11_freezes 15 = .ok (.iload 4, 2) := by decide +kernel
theorem dX11_freezes_17 : decode cX11_freezes 17 = .ok (.isub, 1) := by decide +kernel
theorem dX11_freezes_18 : decode cX11_freezes 18 = .ok (.iload_n 3, 1) := by decide +kernel
theorem dX11_freezes_19 : decode cX11_freezes 19 = .ok (.imul, 1) := by decide +kernel
theorem dX11_freezes_20 : decode cX11_freezes 20 = .ok (.sipush 400, 3) := by decide +kernel
theorem dX11_freezes_23 : decode cX11_freezes 23 = .ok (.idiv, 1) := by decide +kernel
theorem dX11_freezes_24 : decode cX11_freezes 24 = .ok (.istore 5, 2) := by decide +kernel
theorem dX11_freezes_26 : decode cX11_freezes 26 = .ok (.aload_n 0, 1) := by decide +kernel
theorem dX11_freezes_27 : decode cX11_freezes 27 = .ok (.iload_n 1, 1) := by decide +kernel
theorem dX11_freezes_28 : decode cX11_freezes 28 = .ok (.iload_n 2, 1) := by decide +kernel
theorem dX11_freezes_29 : decode cX11_freezes 29 = .ok (.iconst 1, 1) := by decide +kernel
theorem dX11_freezes_30 : decode cX11_freezes 30 = .ok (.iload 4, 2) := by decide +kernel
theorem dX11_freezes_32 : decode cX11_freezes 32 = .ok (.iload 5, 2) := by decide +kernel
theorem dX11_freezes_34 : decode cX11_freezes 34 = .ok (.iadd, 1) := by decide +kernel
theorem dX11_freezes_35 : decode cX11_freezes 35 = .ok (.invokevirtual 62, 3) := by decide +kernel
theorem dX11_freezes_38 : decode cX11_freezes 38 = .ok (.aload_n 0, 1) := by decide +kernel
theorem dX11_freezes_39 : decode cX11_freezes 39 = .ok (.getfield 8, 3) := by decide +kernel
theorem dX11_freezes_42 : decode cX11_freezes 42 = .ok (.iconst 5, 1) := by decide +kernel
theorem dX11_freezes_43 : decode cX11_freezes 43 = .ok (.dup2, 1) := by decide +kernel
theorem dX11_freezes_44 : decode cX11_freezes 44 = .ok (.iaload, 1) := by decide +kernel
theorem dX11_freezes_45 : decode cX11_freezes 45 = .ok (.iload 5, 2) := by decide +kernel
theorem dX11_freezes_47 : decode cX11_freezes 47 = .ok (.iadd, 1) := by decide +kernel
theorem dX11_freezes_48 : decode cX11_freezes 48 = .ok (.iastore, 1) := by decide +kernel
theorem dX11_freezes_49 : decode cX11_freezes 49 = .ok (.goto 78, 3) := by decide +kernel
theorem dX11_freezes_52 : decode cX11_freezes 52 = .ok (.iload_n 3, 1) := by decide +kernel
theorem dX11_freezes_53 : decode cX11_freezes 53 = .ok (.ifCond .ge 74, 3) := by decide +kernel
theorem dX11_freezes_56 : decode cX11_freezes 56 = .ok (.iload 4, 2) := by decide +kernel
theorem dX11_freezes_58 : decode cX11_freezes 58 = .ok (.iload_n 3, 1) := by decide +kernel
theorem dX11_freezes_59 : decode cX11_freezes 59 = .ok (.ineg, 1) := by decide +kernel
theorem dX11_freezes_60 : decode cX11_freezes 60 = .ok (.imul, 1) := by decide +kernel
theorem dX11_freezes_61 : decode cX11_freezes 61 = .ok (.sipush 400, 3) := by decide +kernel
theorem dX11_freezes_64 : decode cX11_freezes 64 = .ok (.idiv, 1) := by decide +kernel
theorem dX11_freezes_65 : decode cX11_freezes 65 = .ok (.istore 5, 2) := by decide +kernel
theorem dX11_freezes_67 : decode cX11_freezes 67 = .ok (.aload_n 0, 1) := by decide +kernel
theorem dX11_freezes_68 : decode cX11_freezes 68 = .ok (.iload_n 1, 1) := by decide +kernel
theorem dX11_freezes_69 : decode cX11_freezes 69 = .ok (.iload_n 2, 1) := by decide +kernel
theorem dX11_freezes_70 : decode cX11_freezes 70 = .ok (.iconst 2, 1) := by decide +kernel
theorem dX11_freezes_71 : decode cX11_freezes 71 = .ok (.invokevirtual 51, 3) := by decide +kernel
theorem dX11_freezes_74 : decode cX11_freezes 74 = .ok (.iload_n 3, 1) := by decide +kernel
theorem dX11_freezes_75 : decode cX11_freezes 75 = .ok (.ineg, 1) := by decide +kernel
theorem dX11_freezes_76 : decode cX11_freezes 76 = .ok (.imul, 1) := by decide +kernel
theorem dX11_freezes_77 : decode cX11_freezes 77 = .ok (.sipush 800, 3) := by decide +kernel
theorem dX11_freezes_80 : decode cX11_freezes 80 = .ok (.idiv, 1) := by decide +kernel
theorem dX11_freezes_81 : decode cX11_freezes 81 = .ok (.istore 6, 2) := by decide +kernel
theorem dX11_freezes_83 : decode cX11_freezes 83 = .ok (.aload_n 0, 1) := by decide +kernel
theorem dX11_freezes_84 : decode cX11_freezes 84 = .ok (.iload_n 1, 1) := by decide +kernel
theorem dX11_freezes_85 : decode cX11_freezes 85 = .ok (.iload_n 2, 1) := by decide +kernel
theorem dX11_freezes_86 : decode cX11_freezes 86 = .ok (.iconst 1, 1) := by decide +kernel
theorem dX11_freezes_87 : decode cX11_freezes 87 = .ok (.iload 4, 2) := by decide +kernel
theorem dX11_freezes_89 : decode cX11_freezes 89 = .ok (.iload 5, 2) := by decide +kernel
theorem dX11_freezes_91 : decode cX11_freezes 91 = .ok (.isub, 1) := by decide +kernel
theorem dX11_freezes_92 : decode cX11_freezes 92 = .ok (.invokevirtual 62, 3) := by decide +kernel
theorem dX11_freezes_95 : decode cX11_freezes 95 = .ok (.aload_n 0, 1) := by decide +kernel
theorem dX11_freezes_96 : decode cX11_freezes 96 = .ok (.iload_n 1, 1) := by decide +kernel
theorem dX11_freezes_97 : decode cX11_freezes 97 = .ok (.iload_n 2, 1) := by decide +kernel
theorem dX11_freezes_98 : decode cX11_freezes 98 = .ok (.iconst 2, 1) := by decide +kernel
theorem dX11_freezes_99 : decode cX11_freezes 99 = .ok (.aload_n 0, 1) := by decide +kernel
theorem dX11_freezes_100 : decode cX11_freezes 100 = .ok (.iload_n 1, 1) := by decide +kernel
theorem dX11_freezes_101 : decode cX11_freezes 101 = .ok (.iload_n 2, 1) := by decide +kernel
theorem dX11_freezes_102 : decode cX11_freezes 102 = .ok (.iconst 2, 1) := by decide +kernel
theorem dX11_freezes_103 : decode cX11_freezes 103 = .ok (.invokevirtual 51, 3) := by decide +kernel
theorem dX11_freezes_106 : decode cX11_freezes 106 = .ok (.iload 6, 2) := by decide +kernel
theorem dX11_freezes_108 : decode cX11_freezes 108 = .ok (.isub, 1) := by decide +kernel
theorem dX11_freezes_109 : decode cX11_freezes 109 = .ok (.invokevirtual 62, 3) := by decide +kernel
theorem dX11_freezes_112 : decode cX11_freezes 112 = .ok (.aload_n 0, 1) := by decide +kernel
theorem dX11_freezes_113 : decode cX11_freezes 113 = .ok (.getfield 8, 3) := by decide +kernel
theorem dX11_freezes_116 : decode cX11_freezes 116 = .ok (.bipush 6, 2) := by decide +kernel
theorem dX11_freezes_118 : decode cX11_freezes 118 = .ok (.dup2, 1) := by decide +kernel
theorem dX11_freezes_119 : decode cX11_freezes 119 = .ok (.iaload, 1) := by decide +kernel
theorem dX11_freezes_120 : decode cX11_freezes 120 = .ok (.iload 5, 2) := by decide +kernel
theorem dX11_freezes_122 : decode cX11_freezes 122 = .ok (.iload 6, 2) := by decide +kernel
theorem dX11_freezes_124 : decode cX11_freezes 124 = .ok (.iadd, 1) := by decide +kernel
theorem dX11_freezes_125 : decode cX11_freezes 125 = .ok (.iadd, 1) := by decide +kernel
theorem dX11_freezes_126 : decode cX11_freezes 126 = .ok (.iastore, 1) := by decide +kernel
theorem dX11_freezes_127 : decode cX11_freezes 127 = .ok (.return_, 1) := by decide +kernel

theorem dX11_drifts_0 : decode cX11_drifts 0 = .ok (.iconst 0, 1) := by decide +kernel
theorem dX11_drifts_1 : decode cX11_drifts 1 = .ok (.istore_n 3, 1) := by decide +kernel
theorem dX11_drifts_2 : decode cX11_drifts 2 = .ok (.iload_n 3, 1) := by decide +kernel
theorem dX11_drifts_3 : decode cX11_drifts 3 = .ok (.bipush 64, 2) := by decide +kernel
theorem dX11_drifts_5 : decode cX11_drifts 5 = .ok (.if_icmp .ge 23, 3) := by decide +kernel
theorem dX11_drifts_8 : decode cX11_drifts 8 = .ok (.aload_n 0, 1) := by decide +kernel
theorem dX11_drifts_9 : decode cX11_drifts 9 = .ok (.getfield 27, 3) := by decide +kernel
theorem dX11_drifts_12 : decode cX11_drifts 12 = .ok (.iload_n 3, 1) := by decide +kernel
theorem dX11_drifts_13 : decode cX11_drifts 13 = .ok (.iconst 0, 1) := by decide +kernel
theorem dX11_drifts_14 : decode cX11_drifts 14 = .ok (.iastore, 1) := by decide +kernel
theorem dX11_drifts_15 : decode cX11_drifts 15 = .ok (.aload_n 0, 1) := by decide +kernel
theorem dX11_drifts_16 : decode cX11_drifts 16 = .ok (.getfield 30, 3) := by decide +kernel
theorem dX11_drifts_19 : decode cX11_drifts 19 = .ok (.iload_n 3, 1) := by decide +kernel
theorem dX11_drifts_20 : decode cX11_drifts 20 = .ok (.iconst 0, 1) := by decide +kernel
theorem dX11_drifts_21 : decode cX11_drifts 21 = .ok (.iastore, 1) := by decide +kernel
theorem dX11_drifts_22 : decode cX11_drifts 22 = .ok (.iinc 3 1, 3) := by decide +kernel
theorem dX11_drifts_25 : decode cX11_drifts 25 = .ok (.goto (-23), 3) := by decide +kernel
theorem dX11_drifts_28 : decode cX11_drifts 28 = .ok (.iload_n 2, 1) := by decide +kernel
theorem dX11_drifts_29 : decode cX11_drifts 29 = .ok (.ifCond .ne 4, 3) := by decide +kernel
theorem dX11_drifts_32 : decode cX11_drifts 32 = .ok (.return_, 1) := by decide +kernel
theorem dX11_drifts_33 : decode cX11_drifts 33 = .ok (.iconst 0, 1) := by decide +kernel
theorem dX11_drifts_34 : decode cX11_drifts 34 = .ok (.istore_n 3, 1) := by decide +kernel
theorem dX11_drifts_35 : decode cX11_drifts 35 = .ok (.iload_n 3, 1) := by decide +kernel
theorem dX11_drifts_36 : decode cX11_drifts 36 = .ok (.aload_n 0, 1) := by decide +kernel
theorem dX11_drifts_37 : decode cX11_drifts 37 = .ok (.getfield 8, 3) := by decide +kernel
theorem dX11_drifts_40 : decode cX11_drifts 40 = .ok (.iconst 0, 1) := by decide +kernel
theorem dX11_drifts_41 : decode cX11_drifts 41 = .ok (.iaload, 1) := by decide +kernel
theorem dX11_drifts_42 : decode cX11_drifts 42 = .ok (.if_icmp .ge 138, 3) := by decide +kernel
theorem dX11_drifts_45 : decode cX11_drifts 45 = .ok (.iconst 0, 1) := by decide +kernel
theorem dX11_drifts_46 : decode cX11_drifts 46 = .ok (.istore 4, 2) := by decide +kernel
theorem dX11_drifts_48 : decode cX11_drifts 48 = .ok (.iload 4, 2) := by decide +kernel
theorem dX11_drifts_50 : decode cX11_drifts 50 = .ok (.aload_n 0, 1) := by decide +kernel
theorem dX11_drifts_51 : decode cX11_drifts 51 = .ok (.getfield 8, 3) := by decide +kernel
theorem dX11_drifts_54 : decode cX11_drifts 54 = .ok (.iconst 1, 1) := by decide +kernel
theorem dX11_drifts_55 : decode cX11_drifts 55 = .ok (.iaload, 1) := by decide +kernel
theorem dX11_drifts_56 : decode cX11_drifts 56 = .ok (.if_icmp .ge 118, 3) := by decide +kernel
theorem dX11_drifts_59 : decode cX11_drifts 59 = .ok (.bipush 8, 2) := by decide +kernel
theorem dX11_drifts_61 : decode cX11_drifts 61 = .ok (.iload_n 3, 1) := by decide +kernel
theorem dX11_drifts_62 : decode cX11_drifts 62 = .ok (.iload_n 1, 1) := by decide +kernel
theorem dX11_drifts_63 : decode cX11_drifts 63 = .ok (.invokestatic 196, 3) := by decide +kernel
theorem dX11_drifts_66 : decode cX11_drifts 66 = .ok (.iadd, 1) := by decide +kernel
theorem dX11_drifts_67 : decode cX11_drifts 67 = .ok (.imul, 1) := by decide +kernel
theorem dX11_drifts_68 : decode cX11_drifts 68 = .ok (.iload 4, 2) := by decide +kernel
theorem dX11_drifts_70 : decode cX11_drifts 70 = .ok (.iadd, 1) := by decide +kernel
theorem dX11_drifts_71 : decode cX11_drifts 71 = .ok (.iload_n 1, 1) := by decide +kernel
theorem dX11_drifts_72 : decode cX11_drifts 72 = .ok (.invokestatic 199, 3) := by decide +kernel
theorem dX11_drifts_75 : decode cX11_drifts 75 = .ok (.iadd, 1) := by decide +kernel
theorem dX11_drifts_76 : decode cX11_drifts 76 = .ok (.istore 5, 2) := by decide +kernel
theorem dX11_drifts_78 : decode cX11_drifts 78 = .ok (.aload_n 0, 1) := by decide +kernel
theorem dX11_drifts_79 : decode cX11_drifts 79 = .ok (.iload_n 3, 1) := by decide +kernel
theorem dX11_drifts_80 : decode cX11_drifts 80 = .ok (.iload 4, 2) := by decide +kernel
theorem dX11_drifts_82 : decode cX11_drifts 82 = .ok (.invokevirtual 66, 3) := by decide +kernel
theorem dX11_drifts_85 : decode cX11_drifts 85 = .ok (.ifCond .eq 83, 3) := by decide +kernel
theorem dX11_drifts_88 : decode cX11_drifts 88 = .ok (.aload_n 0, 1) := by decide +kernel
theorem dX11_drifts_89 : decode cX11_drifts 89 = .ok (.iload_n 3, 1) := by decide +kernel
theorem dX11_drifts_90 : decode cX11_drifts 90 = .ok (.iload 4, 2) := by decide +kernel
theorem dX11_drifts_92 : decode cX11_drifts 92 = .ok (.iconst 4, 1) := by decide +kernel
theorem dX11_drifts_93 : decode cX11_drifts 93 = .ok (.invokevirtual 51, 3) := by decide +kernel
theorem dX11_drifts_96 : decode cX11_drifts 96 = .ok (.iconst 1, 1) := by decide +kernel
theorem dX11_drifts_97 : decode cX11_drifts 97 = .ok (.if_icmp .eq 71, 3) := by decide +kernel
theorem dX11_drifts_100 : decode cX11_drifts 100 = .ok (.aload_n 0, 1) := by decide +kernel
theorem dX11_drifts_101 : decode cX11_drifts 101 = .ok (.iload_n 3, 1) := by decide +kernel
theorem dX11_drifts_102 : decode cX11_drifts 102 = .ok (.iload_n 1, 1) := by decide +kernel
theorem dX11_drifts_103 : decode cX11_drifts 103 = .ok (.invokestatic 196, 3) := by decide +kernel
theorem dX11_drifts_106 : decode cX11_drifts 106 = .ok (.iadd, 1) := by decide +kernel
theorem dX11_drifts_107 : decode cX11_drifts 107 = .ok (.iload 4, 2) := by decide +kernel
theorem dX11_drifts_109 : decode cX11_drifts 109 = .ok (.iload_n 1, 1) := by decide +kernel
theorem dX11_drifts_110 : decode cX11_drifts 110 = .ok (.invokestatic 199, 3) := by decide +kernel
theorem dX11_drifts_113 : decode cX11_drifts 113 = .ok (.iadd, 1) := by decide +kernel
theorem dX11_drifts_114 : decode cX11_drifts 114 = .ok (.invokevirtual 66, 3) := by decide +kernel
theorem dX11_drifts_117 : decode cX11_drifts 117 = .ok (.ifCond .ne 6, 3) := by decide +kernel
theorem dX11_drifts_120 : decode cX11_drifts 120 = .ok (.goto 48, 3) := by decide +kernel
theorem dX11_drifts_123 : decode cX11_drifts 123 = .ok (.aload_n 0, 1) := by decide +kernel
theorem dX11_drifts_124 : decode cX11_drifts 124 = .ok (.getfield 30, 3) := by decide +kernel
theorem dX11_drifts_127 : decode cX11_drifts 127 = .ok (.bipush 8, 2) := by decide +kernel
theorem dX11_drifts_129 : decode cX11_drifts 129 = .ok (.iload_n 3, 1) := by decide +kernel
theorem dX11_drifts_130 : decode cX11_drifts 130 = .ok (.imul, 1) := by decide +kernel
theorem dX11_drifts_131 : decode cX11_drifts 131 = .ok (.iload 4, 2) := by decide +kernel
theorem dX11_drifts_133 : decode cX11_drifts 133 = .ok (.iadd, 1) := by decide +kernel
theorem dX11_drifts_134 : decode cX11_drifts 134 = .ok (.aload_n 0, 1) := by decide +kernel
theorem dX11_drifts_135 : decode cX11_drifts 135 = .ok (.iload_n 3, 1) := by decide +kernel
theorem dX11_drifts_136 : decode cX11_drifts 136 = .ok (.iload 4, 2) := by decide +kernel
theorem dX11_drifts_138 : decode cX11_drifts 138 = .ok (.iconst 1, 1) := by decide +kernel
theorem dX11_drifts_139 : decode cX11_drifts 139 = .ok (.invokevirtual 51, 3) := by decide +kernel
theorem dX11_drifts_142 : decode cX11_drifts 142 = .ok (.iload_n 2, 1) := by decide +kernel
theorem dX11_drifts_143 : decode cX11_drifts 143 = .ok (.imul, 1) := by decide +kernel
theorem dX11_drifts_144 : decode cX11_drifts 144 = .ok (.sipush 200, 3) := by decide +kernel
theorem dX11_drifts_147 : decode cX11_drifts 147 = .ok (.idiv, 1) := by decide +kernel
theorem dX11_drifts_148 : decode cX11_drifts 148 = .ok (.iastore, 1) := by decide +kernel
theorem dX11_drifts_149 : decode cX11_drifts 149 = .ok (.aload_n 0, 1) := by decide +kernel
theorem dX11_drifts_150 : decode cX11_drifts 150 = .ok (.getfield 27, 3) := by decide +kernel
theorem dX11_drifts_153 : decode cX11_drifts 153 = .ok (.iload 5, 2) := by decide +kernel
theorem dX11_drifts_155 : decode cX11_drifts 155 = .ok (.aload_n 0, 1) := by decide +kernel
theorem dX11_drifts_156 : decode cX11_drifts 156 = .ok (.getfield 30, 3) := by decide +kernel
theorem dX11_drifts_159 : decode cX11_drifts 159 = .ok (.bipush 8, 2) := by decide +kernel
theorem dX11_drifts_161 : decode cX11_drifts 161 = .ok (.iload_n 3, 1) := by decide +kernel
theorem dX11_drifts_162 : decode cX11_drifts 162 = .ok (.imul, 1) := by decide +kernel
theorem dX11_drifts_163 : decode cX11_drifts 163 = .ok (.iload 4, 2) := by decide +kernel
theorem dX11_drifts_165 : decode cX11_drifts 165 = .ok (.iadd, 1) := by decide +kernel
theorem dX11_drifts_166 : decode cX11_drifts 166 = .ok (.iaload, 1) := by decide +kernel
theorem dX11_drifts_167 : decode cX11_drifts 167 = .ok (.iastore, 1) := by decide +kernel
theorem dX11_drifts_168 : decode cX11_drifts 168 = .ok (.iinc 4 1, 3) := by decide +kernel
theorem dX11_drifts_171 : decode cX11_drifts 171 = .ok (.goto (-123), 3) := by decide +kernel
theorem dX11_drifts_174 : decode cX11_drifts 174 = .ok (.iinc 3 1, 3) := by decide +kernel
theorem dX11_drifts_177 : decode cX11_drifts 177 = .ok (.goto (-142), 3) := by decide +kernel
theorem dX11_drifts_180 : decode cX11_drifts 180 = .ok (.iconst 0, 1) := by decide +kernel
theorem dX11_drifts_181 : decode cX11_drifts 181 = .ok (.istore_n 3, 1) := by decide +kernel
theorem dX11_drifts_182 : decode cX11_drifts 182 = .ok (.iload_n 3, 1) := by decide +kernel
theorem dX11_drifts_183 : decode cX11_drifts 183 = .ok (.bipush 64, 2) := by decide +kernel
theorem dX11_drifts_185 : decode cX11_drifts 185 = .ok (.if_icmp .ge 94, 3) := by decide +kernel
theorem dX11_drifts_188 : decode cX11_drifts 188 = .ok (.bipush 40, 2) := by decide +kernel
theorem dX11_drifts_190 : decode cX11_drifts 190 = .ok (.iconst 5, 1) := by decide +kernel
theorem dX11_drifts_191 : decode cX11_drifts 191 = .ok (.iload_n 3, 1) := by decide +kernel
theorem dX11_drifts_192 : decode cX11_drifts 192 = .ok (.imul, 1) := by decide +kernel
theorem dX11_drifts_193 : decode cX11_drifts 193 = .ok (.iadd, 1) := by decide +kernel
theorem dX11_drifts_194 : decode cX11_drifts 194 = .ok (.istore 4, 2) := by decide +kernel
theorem dX11_drifts_196 : decode cX11_drifts 196 = .ok (.aload_n 0, 1) := by decide +kernel
theorem dX11_drifts_197 : decode cX11_drifts 197 = .ok (.getfield 8, 3) := by decide +kernel
theorem dX11_drifts_200 : decode cX11_drifts 200 = .ok (.iload 4, 2) := by decide +kernel
theorem dX11_drifts_202 : decode cX11_drifts 202 = .ok (.iconst 1, 1) := by decide +kernel
theorem dX11_drifts_203 : decode cX11_drifts 203 = .ok (.iadd, 1) := by decide +kernel
theorem dX11_drifts_204 : decode cX11_drifts 204 = .ok (.dup2, 1) := by decide +kernel
theorem dX11_drifts_205 : decode cX11_drifts 205 = .ok (.iaload, 1) := by decide +kernel
theorem dX11_drifts_206 : decode cX11_drifts 206 = .ok (.aload_n 0, 1) := by decide +kernel
theorem dX11_drifts_207 : decode cX11_drifts 207 = .ok (.getfield 27, 3) := by decide +kernel
theorem dX11_drifts_210 : decode cX11_drifts 210 = .ok (.iload_n 3, 1) := by decide +kernel
theorem dX11_drifts_211 : decode cX11_drifts 211 = .ok (.iaload, 1) := by decide +kernel
theorem dX11_drifts_212 : decode cX11_drifts 212 = .ok (.aload_n 0, 1) := by decide +kernel
theorem dX11_drifts_213 : decode cX11_drifts 213 = .ok (.getfield 30, 3) := by decide +kernel
theorem dX11_drifts_216 : decode cX11_drifts 216 = .ok (.iload_n 3, 1) := by decide +kernel
theorem dX11_drifts_217 : decode cX11_drifts 217 = .ok (.iaload, 1) := by decide +kernel
theorem dX11_drifts_218 : decode cX11_drifts 218 = .ok (.isub, 1) := by decide +kernel
theorem dX11_drifts_219 : decode cX11_drifts 219 = .ok (.iadd, 1) := by decide +kernel
theorem dX11_drifts_220 : decode cX11_drifts 220 = .ok (.iastore, 1) := by decide +kernel
theorem dX11_drifts_221 : decode cX11_drifts 221 = .ok (.aload_n 0, 1) := by decide +kernel
theorem dX11_drifts_222 : decode cX11_drifts 222 = .ok (.getfield 8, 3) := by decide +kernel
theorem dX11_drifts_225 : decode cX11_drifts 225 = .ok (.iload 4, 2) := by decide +kernel
theorem dX11_drifts_227 : decode cX11_drifts 227 = .ok (.iconst 1, 1) := by decide +kernel
theorem dX11_drifts_228 : decode cX11_drifts 228 = .ok (.iadd, 1) := by decide +kernel
theorem dX11_drifts_229 : decode cX11_drifts 229 = .ok (.iaload, 1) := by decide +kernel
theorem dX11_drifts_230 : decode cX11_drifts 230 = .ok (.bipush 100, 2) := by decide +kernel
theorem dX11_drifts_232 : decode cX11_drifts 232 = .ok (.if_icmp .gt 6, 3) := by decide +kernel
theorem dX11_drifts_235 : decode cX11_drifts 235 = .ok (.goto 38, 3) := by decide +kernel
theorem dX11_drifts_238 : decode cX11_drifts 238 = .ok (.aload_n 0, 1) := by decide +kernel
theorem dX11_drifts_239 : decode cX11_drifts 239 = .ok (.getfield 8, 3) := by decide +kernel
theorem dX11_drifts_242 : decode cX11_drifts 242 = .ok (.iload 4, 2) := by decide +kernel
theorem dX11_drifts_244 : decode cX11_drifts 244 = .ok (.iconst 2, 1) := by decide +kernel
theorem dX11_drifts_245 : decode cX11_drifts 245 = .ok (.iadd, 1) := by decide +kernel
theorem dX11_drifts_246 : decode cX11_drifts 246 = .ok (.dup2, 1) := by decide +kernel
theorem dX11_drifts_247 : decode cX11_drifts 247 = .ok (.iaload, 1) := by decide +kernel
theorem dX11_drifts_248 : decode cX11_drifts 248 = .ok (.aload_n 0, 1) := by decide +kernel
theorem dX11_drifts_249 : decode cX11_drifts 249 = .ok (.getfield 8, 3) := by decide +kernel
theorem dX11_drifts_252 : decode cX11_drifts 252 = .ok (.iload 4, 2) := by decide +kernel
theorem dX11_drifts_254 : decode cX11_drifts 254 = .ok (.iconst 1, 1) := by decide +kernel
theorem dX11_drifts_255 : decode cX11_drifts 255 = .ok (.iadd, 1) := by decide +kernel
theorem dX11_drifts_256 : decode cX11_drifts 256 = .ok (.iaload, 1) := by decide +kernel
theorem dX11_drifts_257 : decode cX11_drifts 257 = .ok (.bipush 100, 2) := by decide +kernel
theorem dX11_drifts_259 : decode cX11_drifts 259 = .ok (.isub, 1) := by decide +kernel
theorem dX11_drifts_260 : decode cX11_drifts 260 = .ok (.iadd, 1) := by decide +kernel
theorem dX11_drifts_261 : decode cX11_drifts 261 = .ok (.iastore, 1) := by decide +kernel
theorem dX11_drifts_262 : decode cX11_drifts 262 = .ok (.aload_n 0, 1) := by decide +kernel
theorem dX11_drifts_263 : decode cX11_drifts 263 = .ok (.getfield 8, 3) := by decide +kernel
theorem dX11_drifts_266 : decode cX11_drifts 266 = .ok (.iload 4, 2) := by decide +kernel
theorem dX11_drifts_268 : decode cX11_drifts 268 = .ok (.iconst 1, 1) := by decide +kernel
theorem dX11_drifts_269 : decode cX11_drifts 269 = .ok (.iadd, 1) := by decide +kernel
theorem dX11_drifts_270 : decode cX11_drifts 270 = .ok (.bipush 100, 2) := by decide +kernel
theorem dX11_drifts_272 : decode cX11_drifts 272 = .ok (.iastore, 1) := by decide +kernel
theorem dX11_drifts_273 : decode cX11_drifts 273 = .ok (.iinc 3 1, 3) := by decide +kernel
theorem dX11_drifts_276 : decode cX11_drifts 276 = .ok (.goto (-94), 3) := by decide +kernel
theorem dX11_drifts_279 : decode cX11_drifts 279 = .ok (.return_, 1) := by decide +kernel

theorem dX11_anHour_0 : decode cX11_anHour 0 = .ok (.aload_n 0, 1) := by decide +kernel
theorem dX11_anHour_1 : decode cX11_anHour 1 = .ok (.getfield 8, 3) := by decide +kernel
theorem dX11_anHour_4 : decode cX11_anHour 4 = .ok (.iconst 3, 1) := by decide +kernel
theorem dX11_anHour_5 : decode cX11_anHour 5 = .ok (.iaload, 1) := by decide +kernel
theorem dX11_anHour_6 : decode cX11_anHour 6 = .ok (.istore_n 1, 1) := by decide +kernel
theorem dX11_anHour_7 : decode cX11_anHour 7 = .ok (.aload_n 0, 1) := by decide +kernel
theorem dX11_anHour_8 : decode cX11_anHour 8 = .ok (.getfield 8, 3) := by decide +kernel
theorem dX11_anHour_11 : decode cX11_anHour 11 = .ok (.sipush 460, 3) := by decide +kernel
theorem dX11_anHour_14 : decode cX11_anHour 14 = .ok (.iconst 3, 1) := by decide +kernel
theorem dX11_anHour_15 : decode cX11_anHour 15 = .ok (.iload_n 1, 1) := by decide +kernel
theorem dX11_anHour_16 : decode cX11_anHour 16 = .ok (.imul, 1) := by decide +kernel
theorem dX11_anHour_17 : decode cX11_anHour 17 = .ok (.iadd, 1) := by decide +kernel
theorem dX11_anHour_18 : decode cX11_anHour 18 = .ok (.iaload, 1) := by decide +kernel
theorem dX11_anHour_19 : decode cX11_anHour 19 = .ok (.istore_n 2, 1) := by decide +kernel
theorem dX11_anHour_20 : decode cX11_anHour 20 = .ok (.iconst 0, 1) := by decide +kernel
theorem dX11_anHour_21 : decode cX11_anHour 21 = .ok (.istore_n 3, 1) := by decide +kernel
theorem dX11_anHour_22 : decode cX11_anHour 22 = .ok (.iload_n 3, 1) := by decide +kernel
theorem dX11_anHour_23 : decode cX11_anHour 23 = .ok (.aload_n 0, 1) := by decide +kernel
theorem dX11_anHour_24 : decode cX11_anHour 24 = .ok (.getfield 8, 3) := by decide +kernel
theorem dX11_anHour_27 : decode cX11_anHour 27 = .ok (.iconst 2, 1) := by decide +kernel
theorem dX11_anHour_28 : decode cX11_anHour 28 = .ok (.iaload, 1) := by decide +kernel
theorem dX11_anHour_29 : decode cX11_anHour 29 = .ok (.if_icmp .ge 14, 3) := by decide +kernel
theorem dX11_anHour_32 : decode cX11_anHour 32 = .ok (.aload_n 0, 1) := by decide +kernel
theorem dX11_anHour_33 : decode cX11_anHour 33 = .ok (.iload_n 3, 1) := by decide +kernel
theorem dX11_anHour_34 : decode cX11_anHour 34 = .ok (.invokevirtual 229, 3) := by decide +kernel
theorem dX11_anHour_37 : decode cX11_anHour 37 = .ok (.iinc 3 1, 3) := by decide +kernel
theorem dX11_anHour_40 : decode cX11_anHour 40 = .ok (.goto (-18), 3) := by decide +kernel
theorem dX11_anHour_43 : decode cX11_anHour 43 = .ok (.iconst 0, 1) := by decide +kernel
theorem dX11_anHour_44 : decode cX11_anHour 44 = .ok (.istore_n 3, 1) := by decide +kernel
theorem dX11_anHour_45 : decode cX11_anHour 45 = .ok (.iload_n 3, 1) := by decide +kernel
theorem dX11_anHour_46 : decode cX11_anHour 46 = .ok (.aload_n 0, 1) := by decide +kernel
theorem dX11_anHour_47 : decode cX11_anHour 47 = .ok (.getfield 8, 3) := by decide +kernel
theorem dX11_anHour_50 : decode cX11_anHour 50 = .ok (.iconst 0, 1) := by decide +kernel
theorem dX11_anHour_51 : decode cX11_anHour 51 = .ok (.iaload, 1) := by decide +kernel
theorem dX11_anHour_52 : decode cX11_anHour 52 = .ok (.if_icmp .ge 47, 3) := by decide +kernel
theorem dX11_anHour_55 : decode cX11_anHour 55 = .ok (.iconst 0, 1) := by decide +kernel
theorem dX11_anHour_56 : decode cX11_anHour 56 = .ok (.istore 4, 2) := by decide +kernel
theorem dX11_anHour_58 : decode cX11_anHour 58 = .ok (.iload 4, 2) := by decide +kernel
theorem dX11_anHour_60 : decode cX11_anHour 60 = .ok (.aload_n 0, 1) := by decide +kernel
theorem dX11_anHour_61 : decode cX11_anHour 61 = .ok (.getfield 8, 3) := by decide +kernel
theorem dX11_anHour_64 : decode cX11_anHour 64 = .ok (.iconst 1, 1) := by decide +kernel
theorem dX11_anHour_65 : decode cX11_anHour 65 = .ok (.iaload, 1) := by decide +kernel
theorem dX11_anHour_66 : decode cX11_anHour 66 = .ok (.if_icmp .ge 27, 3) := by decide +kernel
theorem dX11_anHour_69 : decode cX11_anHour 69 = .ok (.aload_n 0, 1) := by decide +kernel
theorem dX11_anHour_70 : decode cX11_anHour 70 = .ok (.iload_n 3, 1) := by decide +kernel
theorem dX11_anHour_71 : decode cX11_anHour 71 = .ok (.iload 4, 2) := by decide +kernel
theorem dX11_anHour_73 : decode cX11_anHour 73 = .ok (.invokevirtual 66, 3) := by decide +kernel
theorem dX11_anHour_76 : decode cX11_anHour 76 = .ok (.ifCond .eq 11, 3) := by decide +kernel
theorem dX11_anHour_79 : decode cX11_anHour 79 = .ok (.aload_n 0, 1) := by decide +kernel
theorem dX11_anHour_80 : decode cX11_anHour 80 = .ok (.iload_n 3, 1) := by decide +kernel
theorem dX11_anHour_81 : decode cX11_anHour 81 = .ok (.iload 4, 2) := by decide +kernel
theorem dX11_anHour_83 : decode cX11_anHour 83 = .ok (.iload_n 2, 1) := by decide +kernel
theorem dX11_anHour_84 : decode cX11_anHour 84 = .ok (.invokevirtual 232, 3) := by decide +kernel
theorem dX11_anHour_87 : decode cX11_anHour 87 = .ok (.iinc 4 1, 3) := by decide +kernel
theorem dX11_anHour_90 : decode cX11_anHour 90 = .ok (.goto (-32), 3) := by decide +kernel
theorem dX11_anHour_93 : decode cX11_anHour 93 = .ok (.iinc 3 1, 3) := by decide +kernel
theorem dX11_anHour_96 : decode cX11_anHour 96 = .ok (.goto (-51), 3) := by decide +kernel
theorem dX11_anHour_99 : decode cX11_anHour 99 = .ok (.aload_n 0, 1) := by decide +kernel
theorem dX11_anHour_100 : decode cX11_anHour 100 = .ok (.aload_n 0, 1) := by decide +kernel
theorem dX11_anHour_101 : decode cX11_anHour 101 = .ok (.getfield 8, 3) := by decide +kernel
theorem dX11_anHour_104 : decode cX11_anHour 104 = .ok (.sipush 460, 3) := by decide +kernel
theorem dX11_anHour_107 : decode cX11_anHour 107 = .ok (.iconst 3, 1) := by decide +kernel
theorem dX11_anHour_108 : decode cX11_anHour 108 = .ok (.iload_n 1, 1) := by decide +kernel
theorem dX11_anHour_109 : decode cX11_anHour 109 = .ok (.imul, 1) := by decide +kernel
theorem dX11_anHour_110 : decode cX11_anHour 110 = .ok (.iadd, 1) := by decide +kernel
theorem dX11_anHour_111 : decode cX11_anHour 111 = .ok (.iconst 1, 1) := by decide +kernel
theorem dX11_anHour_112 : decode cX11_anHour 112 = .ok (.iadd, 1) := by decide +kernel
theorem dX11_anHour_113 : decode cX11_anHour 113 = .ok (.iaload, 1) := by decide +kernel
theorem dX11_anHour_114 : decode cX11_anHour 114 = .ok (.aload_n 0, 1) := by decide +kernel
theorem dX11_anHour_115 : decode cX11_anHour 115 = .ok (.getfield 8, 3) := by decide +kernel
theorem dX11_anHour_118 : decode cX11_anHour 118 = .ok (.sipush 460, 3) := by decide +kernel
theorem dX11_anHour_121 : decode cX11_anHour 121 = .ok (.iconst 3, 1) := by decide +kernel
theorem dX11_anHour_122 : decode cX11_anHour 122 = .ok (.iload_n 1, 1) := by decide +kernel
theorem dX11_anHour_123 : decode cX11_anHour 123 = .ok (.imul, 1) := by decide +kernel
theorem dX11_anHour_124 : decode cX11_anHour 124 = .ok (.iadd, 1) := by decide +kernel
theorem dX11_anHour_125 : decode cX11_anHour 125 = .ok (.iconst 2, 1) := by decide +kernel
theorem dX11_anHour_126 : decode cX11_anHour 126 = .ok (.iadd, 1) := by decide +kernel
theorem dX11_anHour_127 : decode cX11_anHour 127 = .ok (.iaload, 1) := by decide +kernel
theorem dX11_anHour_128 : decode cX11_anHour 128 = .ok (.invokevirtual 235, 3) := by decide +kernel
theorem dX11_anHour_131 : decode cX11_anHour 131 = .ok (.bipush 7, 2) := by decide +kernel
theorem dX11_anHour_133 : decode cX11_anHour 133 = .ok (.iload_n 2, 1) := by decide +kernel
theorem dX11_anHour_134 : decode cX11_anHour 134 = .ok (.ifCond .ge 7, 3) := by decide +kernel
theorem dX11_anHour_137 : decode cX11_anHour 137 = .ok (.iconst 0, 1) := by decide +kernel
theorem dX11_anHour_138 : decode cX11_anHour 138 = .ok (.goto 4, 3) := by decide +kernel
theorem dX11_anHour_141 : decode cX11_anHour 141 = .ok (.iload_n 2, 1) := by decide +kernel
theorem dX11_anHour_142 : decode cX11_anHour 142 = .ok (.bipush 10, 2) := by decide +kernel
theorem dX11_anHour_144 : decode cX11_anHour 144 = .ok (.idiv, 1) := by decide +kernel
theorem dX11_anHour_145 : decode cX11_anHour 145 = .ok (.isub, 1) := by decide +kernel
theorem dX11_anHour_146 : decode cX11_anHour 146 = .ok (.istore_n 3, 1) := by decide +kernel
theorem dX11_anHour_147 : decode cX11_anHour 147 = .ok (.iconst 0, 1) := by decide +kernel
theorem dX11_anHour_148 : decode cX11_anHour 148 = .ok (.istore 4, 2) := by decide +kernel
theorem dX11_anHour_150 : decode cX11_anHour 150 = .ok (.iload 4, 2) := by decide +kernel
theorem dX11_anHour_152 : decode cX11_anHour 152 = .ok (.bipush 64, 2) := by decide +kernel
theorem dX11_anHour_154 : decode cX11_anHour 154 = .ok (.if_icmp .ge 63, 3) := by decide +kernel
theorem dX11_anHour_157 : decode cX11_anHour 157 = .ok (.aload_n 0, 1) := by decide +kernel
theorem dX11_anHour_158 : decode cX11_anHour 158 = .ok (.getfield 8, 3) := by decide +kernel
theorem dX11_anHour_161 : decode cX11_anHour 161 = .ok (.bipush 40, 2) := by decide +kernel
theorem dX11_anHour_163 : decode cX11_anHour 163 = .ok (.iconst 5, 1) := by decide +kernel
theorem dX11_anHour_164 : decode cX11_anHour 164 = .ok (.iload 4, 2) := by decide +kernel
theorem dX11_anHour_166 : decode cX11_anHour 166 = .ok (.imul, 1) := by decide +kernel
theorem dX11_anHour_167 : decode cX11_anHour 167 = .ok (.iadd, 1) := by decide +kernel
theorem dX11_anHour_168 : decode cX11_anHour 168 = .ok (.iconst 3, 1) := by decide +kernel
theorem dX11_anHour_169 : decode cX11_anHour 169 = .ok (.iadd, 1) := by decide +kernel
theorem dX11_anHour_170 : decode cX11_anHour 170 = .ok (.iaload, 1) := by decide +kernel
theorem dX11_anHour_171 : decode cX11_anHour 171 = .ok (.istore 5, 2) := by decide +kernel
theorem dX11_anHour_173 : decode cX11_anHour 173 = .ok (.iload 5, 2) := by decide +kernel
theorem dX11_anHour_175 : decode cX11_anHour 175 = .ok (.ifCond .lt 36, 3) := by decide +kernel
theorem dX11_anHour_178 : decode cX11_anHour 178 = .ok (.aload_n 0, 1) := by decide +kernel
theorem dX11_anHour_179 : decode cX11_anHour 179 = .ok (.getfield 27, 3) := by decide +kernel
theorem dX11_anHour_182 : decode cX11_anHour 182 = .ok (.iload 4, 2) := by decide +kernel
theorem dX11_anHour_184 : decode cX11_anHour 184 = .ok (.iaload, 1) := by decide +kernel
theorem dX11_anHour_185 : decode cX11_anHour 185 = .ok (.ifCond .gt 11, 3) := by decide +kernel
theorem dX11_anHour_188 : decode cX11_anHour 188 = .ok (.iload_n 1, 1) := by decide +kernel
theorem dX11_anHour_189 : decode cX11_anHour 189 = .ok (.iload 5, 2) := by decide +kernel
theorem dX11_anHour_191 : decode cX11_anHour 191 = .ok (.iload_n 3, 1) := by decide +kernel
theorem dX11_anHour_192 : decode cX11_anHour 192 = .ok (.iadd, 1) := by decide +kernel
theorem dX11_anHour_193 : decode cX11_anHour 193 = .ok (.if_icmp .lt 18, 3) := by decide +kernel
theorem dX11_anHour_196 : decode cX11_anHour 196 = .ok (.aload_n 0, 1) := by decide +kernel
theorem dX11_anHour_197 : decode cX11_anHour 197 = .ok (.getfield 8, 3) := by decide +kernel
theorem dX11_anHour_200 : decode cX11_anHour 200 = .ok (.bipush 40, 2) := by decide +kernel
theorem dX11_anHour_202 : decode cX11_anHour 202 = .ok (.iconst 5, 1) := by decide +kernel
theorem dX11_anHour_203 : decode cX11_anHour 203 = .ok (.iload 4, 2) := by decide +kernel
theorem dX11_anHour_205 : decode cX11_anHour 205 = .ok (.imul, 1) := by decide +kernel
theorem dX11_anHour_206 : decode cX11_anHour 206 = .ok (.iadd, 1) := by decide +kernel
theorem dX11_anHour_207 : decode cX11_anHour 207 = .ok (.iconst 3, 1) := by decide +kernel
theorem dX11_anHour_208 : decode cX11_anHour 208 = .ok (.iadd, 1) := by decide +kernel
theorem dX11_anHour_209 : decode cX11_anHour 209 = .ok (.iconst (-1), 1) := by decide +kernel
theorem dX11_anHour_210 : decode cX11_anHour 210 = .ok (.iastore, 1) := by decide +kernel
theorem dX11_anHour_211 : decode cX11_anHour 211 = .ok (.iinc 4 1, 3) := by decide +kernel
theorem dX11_anHour_214 : decode cX11_anHour 214 = .ok (.goto (-64), 3) := by decide +kernel
theorem dX11_anHour_217 : decode cX11_anHour 217 = .ok (.aload_n 0, 1) := by decide +kernel
theorem dX11_anHour_218 : decode cX11_anHour 218 = .ok (.getfield 8, 3) := by decide +kernel
theorem dX11_anHour_221 : decode cX11_anHour 221 = .ok (.iconst 3, 1) := by decide +kernel
theorem dX11_anHour_222 : decode cX11_anHour 222 = .ok (.dup2, 1) := by decide +kernel
theorem dX11_anHour_223 : decode cX11_anHour 223 = .ok (.iaload, 1) := by decide +kernel
theorem dX11_anHour_224 : decode cX11_anHour 224 = .ok (.iconst 1, 1) := by decide +kernel
theorem dX11_anHour_225 : decode cX11_anHour 225 = .ok (.iadd, 1) := by decide +kernel
theorem dX11_anHour_226 : decode cX11_anHour 226 = .ok (.iastore, 1) := by decide +kernel
theorem dX11_anHour_227 : decode cX11_anHour 227 = .ok (.return_, 1) := by decide +kernel

theorem dX11_hours_0 : decode cX11_hours 0 = .ok (.aload_n 0, 1) := by decide +kernel
theorem dX11_hours_1 : decode cX11_hours 1 = .ok (.iload_n 1, 1) := by decide +kernel
theorem dX11_hours_2 : decode cX11_hours 2 = .ok (.invokevirtual 238, 3) := by decide +kernel
theorem dX11_hours_5 : decode cX11_hours 5 = .ok (.ifCond .ne 5, 3) := by decide +kernel
theorem dX11_hours_8 : decode cX11_hours 8 = .ok (.iconst (-1), 1) := by decide +kernel
theorem dX11_hours_9 : decode cX11_hours 9 = .ok (.ireturn, 1) := by decide +kernel
theorem dX11_hours_10 : decode cX11_hours 10 = .ok (.iconst 0, 1) := by decide +kernel
theorem dX11_hours_11 : decode cX11_hours 11 = .ok (.istore_n 2, 1) := by decide +kernel
theorem dX11_hours_12 : decode cX11_hours 12 = .ok (.iload_n 2, 1) := by decide +kernel
theorem dX11_hours_13 : decode cX11_hours 13 = .ok (.iload_n 1, 1) := by decide +kernel
theorem dX11_hours_14 : decode cX11_hours 14 = .ok (.if_icmp .ge 13, 3) := by decide +kernel
theorem dX11_hours_17 : decode cX11_hours 17 = .ok (.aload_n 0, 1) := by decide +kernel
theorem dX11_hours_18 : decode cX11_hours 18 = .ok (.invokevirtual 241, 3) := by decide +kernel
theorem dX11_hours_21 : decode cX11_hours 21 = .ok (.iinc 2 1, 3) := by decide +kernel
theorem dX11_hours_24 : decode cX11_hours 24 = .ok (.goto (-12), 3) := by decide +kernel
theorem dX11_hours_27 : decode cX11_hours 27 = .ok (.aload_n 0, 1) := by decide +kernel
theorem dX11_hours_28 : decode cX11_hours 28 = .ok (.getfield 8, 3) := by decide +kernel
theorem dX11_hours_31 : decode cX11_hours 31 = .ok (.iconst 3, 1) := by decide +kernel
theorem dX11_hours_32 : decode cX11_hours 32 = .ok (.iaload, 1) := by decide +kernel
theorem dX11_hours_33 : decode cX11_hours 33 = .ok (.ireturn, 1) := by decide +kernel

theorem dX11_ahead_0 : decode cX11_ahead 0 = .ok (.aload_n 0, 1) := by decide +kernel
theorem dX11_ahead_1 : decode cX11_ahead 1 = .ok (.iload_n 1, 1) := by decide +kernel
theorem dX11_ahead_2 : decode cX11_ahead 2 = .ok (.invokevirtual 238, 3) := by decide +kernel
theorem dX11_ahead_5 : decode cX11_ahead 5 = .ok (.ifCond .eq 25, 3) := by decide +kernel
theorem dX11_ahead_8 : decode cX11_ahead 8 = .ok (.iload_n 3, 1) := by decide +kernel
theorem dX11_ahead_9 : decode cX11_ahead 9 = .ok (.iconst 0, 1) := by decide +kernel
theorem dX11_ahead_10 : decode cX11_ahead 10 = .ok (.iconst 5, 1) := by decide +kernel
theorem dX11_ahead_11 : decode cX11_ahead 11 = .ok (.invokestatic 43, 3) := by decide +kernel
theorem dX11_ahead_14 : decode cX11_ahead 14 = .ok (.ifCond .eq 16, 3) := by decide +kernel
theorem dX11_ahead_17 : decode cX11_ahead 17 = .ok (.iload_n 3, 1) := by decide +kernel
theorem dX11_ahead_18 : decode cX11_ahead 18 = .ok (.iconst 4, 1) := by decide +kernel
theorem dX11_ahead_19 : decode cX11_ahead 19 = .ok (.if_icmp .ge 14, 3) := by decide +kernel
theorem dX11_ahead_22 : decode cX11_ahead 22 = .ok (.aload_n 0, 1) := by decide +kernel
theorem dX11_ahead_23 : decode cX11_ahead 23 = .ok (.iload_n 2, 1) := by decide +kernel
theorem dX11_ahead_24 : decode cX11_ahead 24 = .ok (.invokevirtual 190, 3) := by decide +kernel
theorem dX11_ahead_27 : decode cX11_ahead 27 = .ok (.ifCond .ne 6, 3) := by decide +kernel
theorem dX11_ahead_30 : decode cX11_ahead 30 = .ok (.bipush (-2), 2) := by decide +kernel
theorem dX11_ahead_32 : decode cX11_ahead 32 = .ok (.ireturn, 1) := by decide +kernel
theorem dX11_ahead_33 : decode cX11_ahead 33 = .ok (.aload_n 0, 1) := by decide +kernel
theorem dX11_ahead_34 : decode cX11_ahead 34 = .ok (.iconst 0, 1) := by decide +kernel
theorem dX11_ahead_35 : decode cX11_ahead 35 = .ok (.iconst 4, 1) := by decide +kernel
theorem dX11_ahead_36 : decode cX11_ahead 36 = .ok (.invokevirtual 244, 3) := by decide +kernel
theorem dX11_ahead_39 : decode cX11_ahead 39 = .ok (.iconst 0, 1) := by decide +kernel
theorem dX11_ahead_40 : decode cX11_ahead 40 = .ok (.istore 4, 2) := by decide +kernel
theorem dX11_ahead_42 : decode cX11_ahead 42 = .ok (.iload 4, 2) := by decide +kernel
theorem dX11_ahead_44 : decode cX11_ahead 44 = .ok (.iload_n 1, 1) := by decide +kernel
theorem dX11_ahead_45 : decode cX11_ahead 45 = .ok (.if_icmp .ge 13, 3) := by decide +kernel
theorem dX11_ahead_48 : decode cX11_ahead 48 = .ok (.aload_n 0, 1) := by decide +kernel
theorem dX11_ahead_49 : decode cX11_ahead 49 = .ok (.invokevirtual 241, 3) := by decide +kernel
theorem dX11_ahead_52 : decode cX11_ahead 52 = .ok (.iinc 4 1, 3) := by decide +kernel
theorem dX11_ahead_55 : decode cX11_ahead 55 = .ok (.goto (-13), 3) := by decide +kernel
theorem dX11_ahead_58 : decode cX11_ahead 58 = .ok (.iload_n 3, 1) := by decide +kernel
theorem dX11_ahead_59 : decode cX11_ahead 59 = .ok (.iconst 4, 1) := by decide +kernel
theorem dX11_ahead_60 : decode cX11_ahead 60 = .ok (.if_icmp .ne 11, 3) := by decide +kernel
theorem dX11_ahead_63 : decode cX11_ahead 63 = .ok (.aload_n 0, 1) := by decide +kernel
theorem dX11_ahead_64 : decode cX11_ahead 64 = .ok (.iconst 1, 1) := by decide +kernel
theorem dX11_ahead_65 : decode cX11_ahead 65 = .ok (.invokevirtual 247, 3) := by decide +kernel
theorem dX11_ahead_68 : decode cX11_ahead 68 = .ok (.goto 63, 3) := by decide +kernel
theorem dX11_ahead_71 : decode cX11_ahead 71 = .ok (.iload_n 3, 1) := by decide +kernel
theorem dX11_ahead_72 : decode cX11_ahead 72 = .ok (.iconst 5, 1) := by decide +kernel
theorem dX11_ahead_73 : decode cX11_ahead 73 = .ok (.if_icmp .ne 11, 3) := by decide +kernel
theorem dX11_ahead_76 : decode cX11_ahead 76 = .ok (.aload_n 0, 1) := by decide +kernel
theorem dX11_ahead_77 : decode cX11_ahead 77 = .ok (.iconst 2, 1) := by decide +kernel
theorem dX11_ahead_78 : decode cX11_ahead 78 = .ok (.invokevirtual 247, 3) := by decide +kernel
theorem dX11_ahead_81 : decode cX11_ahead 81 = .ok (.goto 50, 3) := by decide +kernel
theorem dX11_ahead_84 : decode cX11_ahead 84 = .ok (.iload_n 3, 1) := by decide +kernel
theorem dX11_ahead_85 : decode cX11_ahead 85 = .ok (.ifCond .ne 12, 3) := by decide +kernel
theorem dX11_ahead_88 : decode cX11_ahead 88 = .ok (.aload_n 0, 1) := by decide +kernel
theorem dX11_ahead_89 : decode cX11_ahead 89 = .ok (.iload_n 2, 1) := by decide +kernel
theorem dX11_ahead_90 : decode cX11_ahead 90 = .ok (.iconst 2, 1) := by decide +kernel
theorem dX11_ahead_91 : decode cX11_ahead 91 = .ok (.invokevirtual 55, 3) := by decide +kernel
theorem dX11_ahead_94 : decode cX11_ahead 94 = .ok (.goto 37, 3) := by decide +kernel
theorem dX11_ahead_97 : decode cX11_ahead 97 = .ok (.iload_n 3, 1) := by decide +kernel
theorem dX11_ahead_98 : decode cX11_ahead 98 = .ok (.iconst 1, 1) := by decide +kernel
theorem dX11_ahead_99 : decode cX11_ahead 99 = .ok (.if_icmp .ne 12, 3) := by decide +kernel
theorem dX11_ahead_102 : decode cX11_ahead 102 = .ok (.aload_n 0, 1) := by decide +kernel
theorem dX11_ahead_103 : decode cX11_ahead 103 = .ok (.iload_n 2, 1) := by decide +kernel
theorem dX11_ahead_104 : decode cX11_ahead 104 = .ok (.iconst 3, 1) := by decide +kernel
theorem dX11_ahead_105 : decode cX11_ahead 105 = .ok (.invokevirtual 55, 3) := by decide +kernel
theorem dX11_ahead_108 : decode cX11_ahead 108 = .ok (.goto 23, 3) := by decide +kernel
theorem dX11_ahead_111 : decode cX11_ahead 111 = .ok (.iload_n 3, 1) := by decide +kernel
theorem dX11_ahead_112 : decode cX11_ahead 112 = .ok (.iconst 2, 1) := by decide +kernel
theorem dX11_ahead_113 : decode cX11_ahead 113 = .ok (.if_icmp .ne 12, 3) := by decide +kernel
theorem dX11_ahead_116 : decode cX11_ahead 116 = .ok (.aload_n 0, 1) := by decide +kernel
theorem dX11_ahead_117 : decode cX11_ahead 117 = .ok (.iload_n 2, 1) := by decide +kernel
theorem dX11_ahead_118 : decode cX11_ahead 118 = .ok (.iconst 1, 1) := by decide +kernel
theorem dX11_ahead_119 : decode cX11_ahead 119 = .ok (.invokevirtual 55, 3) := by decide +kernel
theorem dX11_ahead_122 : decode cX11_ahead 122 = .ok (.goto 9, 3) := by decide +kernel
theorem dX11_ahead_125 : decode cX11_ahead 125 = .ok (.aload_n 0, 1) := by decide +kernel
theorem dX11_ahead_126 : decode cX11_ahead 126 = .ok (.iload_n 2, 1) := by decide +kernel
theorem dX11_ahead_127 : decode cX11_ahead 127 = .ok (.iconst 5, 1) := by decide +kernel
theorem dX11_ahead_128 : decode cX11_ahead 128 = .ok (.invokevirtual 55, 3) := by decide +kernel
theorem dX11_ahead_131 : decode cX11_ahead 131 = .ok (.istore 4, 2) := by decide +kernel
theorem dX11_ahead_133 : decode cX11_ahead 133 = .ok (.aload_n 0, 1) := by decide +kernel
theorem dX11_ahead_134 : decode cX11_ahead 134 = .ok (.iconst 4, 1) := by decide +kernel
theorem dX11_ahead_135 : decode cX11_ahead 135 = .ok (.iconst 0, 1) := by decide +kernel
theorem dX11_ahead_136 : decode cX11_ahead 136 = .ok (.invokevirtual 244, 3) := by decide +kernel
theorem dX11_ahead_139 : decode cX11_ahead 139 = .ok (.iload_n 3, 1) := by decide +kernel
theorem dX11_ahead_140 : decode cX11_ahead 140 = .ok (.iconst 3, 1) := by decide +kernel
theorem dX11_ahead_141 : decode cX11_ahead 141 = .ok (.if_icmp .ne 15, 3) := by decide +kernel
theorem dX11_ahead_144 : decode cX11_ahead 144 = .ok (.iload 4, 2) := by decide +kernel
theorem dX11_ahead_146 : decode cX11_ahead 146 = .ok (.aload_n 0, 1) := by decide +kernel
theorem dX11_ahead_147 : decode cX11_ahead 147 = .ok (.iload_n 2, 1) := by decide +kernel
theorem dX11_ahead_148 : decode cX11_ahead 148 = .ok (.iconst 5, 1) := by decide +kernel
theorem dX11_ahead_149 : decode cX11_ahead 149 = .ok (.invokevirtual 55, 3) := by decide +kernel
theorem dX11_ahead_152 : decode cX11_ahead 152 = .ok (.isub, 1) := by decide +kernel
theorem dX11_ahead_153 : decode cX11_ahead 153 = .ok (.goto 5, 3) := by decide +kernel
theorem dX11_ahead_156 : decode cX11_ahead 156 = .ok (.iload 4, 2) := by decide +kernel
theorem dX11_ahead_158 : decode cX11_ahead 158 = .ok (.ireturn, 1) := by decide +kernel

theorem dX11_cell_0 : decode cX11_cell 0 = .ok (.aload_n 0, 1) := by decide +kernel
theorem dX11_cell_1 : decode cX11_cell 1 = .ok (.iload_n 1, 1) := by decide +kernel
theorem dX11_cell_2 : decode cX11_cell 2 = .ok (.iload_n 2, 1) := by decide +kernel
theorem dX11_cell_3 : decode cX11_cell 3 = .ok (.invokevirtual 47, 3) := by decide +kernel
theorem dX11_cell_6 : decode cX11_cell 6 = .ok (.ifCond .ne 5, 3) := by decide +kernel
theorem dX11_cell_9 : decode cX11_cell 9 = .ok (.iconst (-1), 1) := by decide +kernel
theorem dX11_cell_10 : decode cX11_cell 10 = .ok (.ireturn, 1) := by decide +kernel
theorem dX11_cell_11 : decode cX11_cell 11 = .ok (.iload_n 3, 1) := by decide +kernel
theorem dX11_cell_12 : decode cX11_cell 12 = .ok (.tableswitch 66 0 6 #[44, 44, 44, 44, 44, 52, 59], 44) := by decide +kernel
theorem dX11_cell_56 : decode cX11_cell 56 = .ok (.aload_n 0, 1) := by decide +kernel
theorem dX11_cell_57 : decode cX11_cell 57 = .ok (.iload_n 1, 1) := by decide +kernel
theorem dX11_cell_58 : decode cX11_cell 58 = .ok (.iload_n 2, 1) := by decide +kernel
theorem dX11_cell_59 : decode cX11_cell 59 = .ok (.iload_n 3, 1) := by decide +kernel
theorem dX11_cell_60 : decode cX11_cell 60 = .ok (.invokevirtual 51, 3) := by decide +kernel
theorem dX11_cell_63 : decode cX11_cell 63 = .ok (.ireturn, 1) := by decide +kernel
theorem dX11_cell_64 : decode cX11_cell 64 = .ok (.aload_n 0, 1) := by decide +kernel
theorem dX11_cell_65 : decode cX11_cell 65 = .ok (.iload_n 1, 1) := by decide +kernel
theorem dX11_cell_66 : decode cX11_cell 66 = .ok (.iload_n 2, 1) := by decide +kernel
theorem dX11_cell_67 : decode cX11_cell 67 = .ok (.invokevirtual 202, 3) := by decide +kernel
theorem dX11_cell_70 : decode cX11_cell 70 = .ok (.ireturn, 1) := by decide +kernel
theorem dX11_cell_71 : decode cX11_cell 71 = .ok (.aload_n 0, 1) := by decide +kernel
theorem dX11_cell_72 : decode cX11_cell 72 = .ok (.iload_n 1, 1) := by decide +kernel
theorem dX11_cell_73 : decode cX11_cell 73 = .ok (.iload_n 2, 1) := by decide +kernel
theorem dX11_cell_74 : decode cX11_cell 74 = .ok (.invokevirtual 59, 3) := by decide +kernel
theorem dX11_cell_77 : decode cX11_cell 77 = .ok (.ireturn, 1) := by decide +kernel
theorem dX11_cell_78 : decode cX11_cell 78 = .ok (.iconst (-1), 1) := by decide +kernel
theorem dX11_cell_79 : decode cX11_cell 79 = .ok (.ireturn, 1) := by decide +kernel

theorem dX11_tell_0 : decode cX11_tell 0 = .ok (.aload_n 0, 1) := by decide +kernel
theorem dX11_tell_1 : decode cX11_tell 1 = .ok (.iload_n 1, 1) := by decide +kernel
theorem dX11_tell_2 : decode cX11_tell 2 = .ok (.invokevirtual 190, 3) := by decide +kernel
theorem dX11_tell_5 : decode cX11_tell 5 = .ok (.ifCond .ne 5, 3) := by decide +kernel
theorem dX11_tell_8 : decode cX11_tell 8 = .ok (.iconst (-1), 1) := by decide +kernel
theorem dX11_tell_9 : decode cX11_tell 9 = .ok (.ireturn, 1) := by decide +kernel
theorem dX11_tell_10 : decode cX11_tell 10 = .ok (.iload_n 2, 1) := by decide +kernel
theorem dX11_tell_11 : decode cX11_tell 11 = .ok (.tableswitch 133 0 9 #[53, 60, 67, 74, 81, 95, 102, 109, 117, 125], 53) := by decide +kernel
theorem dX11_tell_64 : decode cX11_tell 64 = .ok (.aload_n 0, 1) := by decide +kernel
theorem dX11_tell_65 : decode cX11_tell 65 = .ok (.iload_n 1, 1) := by decide +kernel
theorem dX11_tell_66 : decode cX11_tell 66 = .ok (.iconst 0, 1) := by decide +kernel
theorem dX11_tell_67 : decode cX11_tell 67 = .ok (.invokevirtual 55, 3) := by decide +kernel
theorem dX11_tell_70 : decode cX11_tell 70 = .ok (.ireturn, 1) := by decide +kernel
theorem dX11_tell_71 : decode cX11_tell 71 = .ok (.aload_n 0, 1) := by decide +kernel
theorem dX11_tell_72 : decode cX11_tell 72 = .ok (.iload_n 1, 1) := by decide +kernel
theorem dX11_tell_73 : decode cX11_tell 73 = .ok (.iconst 1, 1) := by decide +kernel
theorem dX11_tell_74 : decode cX11_tell 74 = .ok (.invokevirtual 55, 3) := by decide +kernel
theorem dX11_tell_77 : decode cX11_tell 77 = .ok (.ireturn, 1) := by decide +kernel
theorem dX11_tell_78 : decode cX11_tell 78 = .ok (.aload_n 0, 1) := by decide +kernel
theorem dX11_tell_79 : decode cX11_tell 79 = .ok (.iload_n 1, 1) := by decide +kernel
theorem dX11_tell_80 : decode cX11_tell 80 = .ok (.iconst 2, 1) := by decide +kernel
theorem dX11_tell_81 : decode cX11_tell 81 = .ok (.invokevirtual 55, 3) := by decide +kernel
theorem dX11_tell_84 : decode cX11_tell 84 = .ok (.ireturn, 1) := by decide +kernel
theorem dX11_tell_85 : decode cX11_tell 85 = .ok (.aload_n 0, 1) := by decide +kernel
theorem dX11_tell_86 : decode cX11_tell 86 = .ok (.iload_n 1, 1) := by decide +kernel
theorem dX11_tell_87 : decode cX11_tell 87 = .ok (.iconst 3, 1) := by decide +kernel
theorem dX11_tell_88 : decode cX11_tell 88 = .ok (.invokevirtual 55, 3) := by decide +kernel
theorem dX11_tell_91 : decode cX11_tell 91 = .ok (.ireturn, 1) := by decide +kernel
theorem dX11_tell_92 : decode cX11_tell 92 = .ok (.aload_n 0, 1) := by decide +kernel
theorem dX11_tell_93 : decode cX11_tell 93 = .ok (.iload_n 1, 1) := by decide +kernel
theorem dX11_tell_94 : decode cX11_tell 94 = .ok (.invokevirtual 208, 3) := by decide +kernel
theorem dX11_tell_97 : decode cX11_tell 97 = .ok (.ifCond .eq 7, 3) := by decide +kernel
theorem dX11_tell_100 : decode cX11_tell 100 = .ok (.iconst 1, 1) := by decide +kernel
theorem dX11_tell_101 : decode cX11_tell 101 = .ok (.goto 4, 3) := by decide +kernel
theorem dX11_tell_104 : decode cX11_tell 104 = .ok (.iconst 0, 1) := by decide +kernel
theorem dX11_tell_105 : decode cX11_tell 105 = .ok (.ireturn, 1) := by decide +kernel
theorem dX11_tell_106 : decode cX11_tell 106 = .ok (.aload_n 0, 1) := by decide +kernel
theorem dX11_tell_107 : decode cX11_tell 107 = .ok (.iload_n 1, 1) := by decide +kernel
theorem dX11_tell_108 : decode cX11_tell 108 = .ok (.iconst 4, 1) := by decide +kernel
theorem dX11_tell_109 : decode cX11_tell 109 = .ok (.invokevirtual 55, 3) := by decide +kernel
theorem dX11_tell_112 : decode cX11_tell 112 = .ok (.ireturn, 1) := by decide +kernel
theorem dX11_tell_113 : decode cX11_tell 113 = .ok (.aload_n 0, 1) := by decide +kernel
theorem dX11_tell_114 : decode cX11_tell 114 = .ok (.iload_n 1, 1) := by decide +kernel
theorem dX11_tell_115 : decode cX11_tell 115 = .ok (.iconst 5, 1) := by decide +kernel
theorem dX11_tell_116 : decode cX11_tell 116 = .ok (.invokevirtual 55, 3) := by decide +kernel
theorem dX11_tell_119 : decode cX11_tell 119 = .ok (.ireturn, 1) := by decide +kernel
theorem dX11_tell_120 : decode cX11_tell 120 = .ok (.aload_n 0, 1) := by decide +kernel
theorem dX11_tell_121 : decode cX11_tell 121 = .ok (.iload_n 1, 1) := by decide +kernel
theorem dX11_tell_122 : decode cX11_tell 122 = .ok (.bipush 6, 2) := by decide +kernel
theorem dX11_tell_124 : decode cX11_tell 124 = .ok (.invokevirtual 55, 3) := by decide +kernel
theorem dX11_tell_127 : decode cX11_tell 127 = .ok (.ireturn, 1) := by decide +kernel
theorem dX11_tell_128 : decode cX11_tell 128 = .ok (.aload_n 0, 1) := by decide +kernel
theorem dX11_tell_129 : decode cX11_tell 129 = .ok (.iload_n 1, 1) := by decide +kernel
theorem dX11_tell_130 : decode cX11_tell 130 = .ok (.bipush 7, 2) := by decide +kernel
theorem dX11_tell_132 : decode cX11_tell 132 = .ok (.invokevirtual 55, 3) := by decide +kernel
theorem dX11_tell_135 : decode cX11_tell 135 = .ok (.ireturn, 1) := by decide +kernel
theorem dX11_tell_136 : decode cX11_tell 136 = .ok (.aload_n 0, 1) := by decide +kernel
theorem dX11_tell_137 : decode cX11_tell 137 = .ok (.iload_n 1, 1) := by decide +kernel
theorem dX11_tell_138 : decode cX11_tell 138 = .ok (.bipush 8, 2) := by decide +kernel
theorem dX11_tell_140 : decode cX11_tell 140 = .ok (.invokevirtual 55, 3) := by decide +kernel
theorem dX11_tell_143 : decode cX11_tell 143 = .ok (.ireturn, 1) := by decide +kernel
theorem dX11_tell_144 : decode cX11_tell 144 = .ok (.iconst (-1), 1) := by decide +kernel
theorem dX11_tell_145 : decode cX11_tell 145 = .ok (.ireturn, 1) := by decide +kernel

/-! X11_freezes -/
def wX11_freezes (Q : (Nat → Int32) → Prop) (x1 : Int32) (x2 : Int32) (x3 : Int32) (r_all : Nat → Int32) : Prop :=
  (wX11_of (fun r_1 => ((x3 ≤ 0 → ((0 ≤ x3 → (Q r_all)) ∧ (¬ 0 ≤ x3 → (wX11_of (fun r_4 => (wX11_sets (fun r_all_5 => (wX11_of (fun r_6 => (wX11_sets (fun r_all_7 => (vp_in (6 : Int32) 53700 ∧ (vp_in (6 : Int32) 53700 ∧ (Q (upd r_all_7 (6 : Int32).toNatClampNeg ((r_all_7 (6 : Int32).toNatClampNeg) + (((r_1 * (-x3)) / (400 : Int32)) + ((r_4 * (-x3)) / (800 : Int32))))))))) x1 x2 (2 : Int32) (r_6 - ((r_4 * (-x3)) / (800 : Int32))) r_all_5)) x1 x2 (2 : Int32) r_all_5)) x1 x2 (1 : Int32) (r_1 - ((r_1 * (-x3)) / (400 : Int32))) r_all)) x1 x2 (2 : Int32) r_all)))) ∧ (¬ x3 ≤ 0 → (wX11_sets (fun r_all_10 => (vp_in (5 : Int32) 53700 ∧ (vp_in (5 : Int32) 53700 ∧ (Q (upd r_all_10 (5 : Int32).toNatClampNeg ((r_all_10 (5 : Int32).toNatClampNeg) + ((((100 : Int32) - r_1) * x3) / (400 : Int32)))))))) x1 x2 (1 : Int32) (r_1 + ((((100 : Int32) - r_1) * x3) / (400 : Int32))) r_all)))) x1 x2 (1 : Int32) r_all)
abbrev vX11_freezes (cI cZ : ClassId) (h h_all h_has h_line h_act h_pile h_comes h_leaves h_tried h_met : Nat) (f_size : Int32) (f_next : Int32) (f_where : Int32) (f_token : Int32) (f_number : Int32) (f_sign : Int32) (f_word : Int32) (f_wrong : Int32) (f_open : Int32) (f_lines : Int32) (f_acts : Int32) (r_all : Nat → Int32) : va_W := [(h, .inr (10, [.ref h_all, .ref h_has, .int f_size, .int f_next, .int f_where, .int f_token, .int f_number, .int f_sign, .int f_word, .int f_wrong, .int f_open, .int f_lines, .int f_acts, .ref h_line, .ref h_act, .ref h_pile, .ref h_comes, .ref h_leaves, .ref h_tried, .ref h_met])), (h_all, .inl (cI, 53700, .inl r_all))]
abbrev rmX11_freezes : Room := { frames := 1, cells := 0, slots := 0, locals := 24 }
abbrev qX11_freezes (dC : Nat → ClassId) (dI : Nat → Nat → Nat) (cI cZ cO cW : ClassId) (h h_all h_has h_line h_act h_pile h_comes h_leaves h_tried h_met : Nat) (f_size : Int32) (f_next : Int32) (f_where : Int32) (f_token : Int32) (f_number : Int32) (f_sign : Int32) (f_word : Int32) (f_wrong : Int32) (f_open : Int32) (f_lines : Int32) (f_acts : Int32) (Q : (Nat → Int32) → Prop) (A : Nat → Prop) : Array Value → State → Outcome → State → Prop := va_Qv (fun (u : (Nat → Int32)) => Q u) (fun (u : (Nat → Int32)) (t : State) => va_P (dC, dI) vwCl (vX11_freezes cI cZ h h_all h_has h_line h_act h_pile h_comes h_leaves h_tried h_met f_size f_next f_where f_token f_number f_sign f_word f_wrong f_open f_lines f_acts u) t.heap ∧ va_K (dC, dI) vwCl (tysA cI cZ cO cW) t ∧ va_D A (vX11_freezes cI cZ h h_all h_has h_line h_act h_pile h_comes h_leaves h_tried h_met f_size f_next f_where f_token f_number f_sign f_word f_wrong f_open f_lines f_acts u)) A
def zsX11_freezes : List Cond := Cond.code yX11_freezes cX11_freezes 7 none :: GW
set_option maxHeartbeats 4000000 in
set_option maxRecDepth 100000 in
theorem tX11_freezes_e {p : Program} {l : Launch} {e : Env} {s : State} {m : MethodId} {args : Array Value} {below : List Frame} {meth : Method} {c : Code} {dC : Nat → ClassId} {dI : Nat → Nat → Nat} {cI cZ cO cW : ClassId} {A : Nat → Prop} {h h_all h_has h_line h_act h_pile h_comes h_leaves h_tried h_met : Nat} {f_size f_next f_where f_token f_number f_sign f_word f_wrong f_open f_lines f_acts : Int32} {Q : (Nat → Int32) → Prop} (hC : Cx p s m args meth c cX11_freezes none 7 GW RX11) (hK : va_K (dC, dI) vwCl (tysA cI cZ cO cW) s) (hA : ∀ q : Nat, s.heap.size ≤ q → A q) :
    ∀ (x1 : Int32) (x2 : Int32) (x3 : Int32) (r_all : Nat → Int32) (H : Heap) (locs : List Loc) (ls : Array Slot), wX11_freezes Q x1 x2 x3 r_all → va_P (dC, dI) vwCl (vX11_freezes cI cZ h h_all h_has h_line h_act h_pile h_comes h_leaves h_tried h_met f_size f_next f_where f_token f_number f_sign f_word f_wrong f_open f_lines f_acts r_all) H → va_D A (vX11_freezes cI cZ h h_all h_has h_line h_act h_pile h_comes h_leaves h_tried h_met f_size f_next f_where f_token f_number f_sign f_word f_wrong f_open f_lines f_acts r_all) → va_S A s.heap H locs → lv_has ls 7 [(0, .ref h), (1, .int x1), (2, .int x2), (3, .int x3)] → W p l e rmX11_freezes s m args below meth c H locs 0 0 (MQ below (qX11_freezes dC dI cI cZ cO cW h h_all h_has h_line h_act h_pile h_comes h_leaves h_tried h_met f_size f_next f_where f_token f_number f_sign f_word f_wrong f_open f_lines f_acts Q A) args s 0 0 A) (F0 m 0 ls []) := by
  obtain ⟨hx, hb, hr, hml, hown, hts, hlocks⟩ := id hC
  intro x1 x2 x3 r_all H locs ls hw hP hD hS hl
  refine lv_aload_n hx hb dX11_freezes_0 rfl (lv_at hl 0 rfl) ?_
  refine lv_iload_n hx hb dX11_freezes_1 rfl (lv_at hl 1 rfl) ?_
  refine lv_iload_n hx hb dX11_freezes_2 rfl (lv_at hl 2 rfl) ?_
  refine lv_iconst (v := (1 : Int32)) hx hb dX11_freezes_3 (by decide) ?_
  have hPc := hP.sub (ws' := [(h, .inr (10, [.ref h_all, .ref h_has, .int f_size, .int f_next, .int f_where, .int f_token, .int f_number, .int f_sign, .int f_word, .int f_wrong, .int f_open, .int f_lines, .int f_acts, .ref h_line, .ref h_act, .ref h_pile, .ref h_comes, .ref h_leaves, .ref h_tried, .ref h_met])), (h_all, .inl (cI, 53700, .inl r_all))]) [0, 1] rfl
  have hDc := hD.sub (ws' := [(h, .inr (10, [.ref h_all, .ref h_has, .int f_size, .int f_next, .int f_where, .int f_token, .int f_number, .int f_sign, .int f_word, .int f_wrong, .int f_open, .int f_lines, .int f_acts, .ref h_line, .ref h_act, .ref h_pile, .ref h_comes, .ref h_leaves, .ref h_tried, .ref h_met])), (h_all, .inl (cI, 53700, .inl r_all))]) [0, 1] (by decide) rfl
  have hFc := va_free (wc := [(h, .inr (10, [.ref h_all, .ref h_has, .int f_size, .int f_next, .int f_where, .int f_token, .int f_number, .int f_sign, .int f_word, .int f_wrong, .int f_open, .int f_lines, .int f_acts, .ref h_line, .ref h_act, .ref h_pile, .ref h_comes, .ref h_leaves, .ref h_tried, .ref h_met])), (h_all, .inl (cI, 53700, .inl r_all))]) hD hS hA [0, 1] rfl
  refine va_calli (va_runV (As := [.int x1, .int x2, .int (1 : Int32)]) (rest := []) ⟨hx, hb, hml, hown, hts⟩ (kX11_of l dC dI cI cZ cO cW h h_all h_has h_line h_act h_pile h_comes h_leaves h_tried h_met H.size f_size f_next f_where f_token f_number f_sign f_word f_wrong f_open f_lines f_acts r_all x1 x2 (1 : Int32) _ hw) (cwV 3 hts (gV gw_634 gw_635 gw_636 gw_622 (gM gw_628)) rfl rfl rfl (by decide +kernel) ⟨Nat.le_of_ble_eq_true rfl, Nat.le_of_ble_eq_true rfl⟩) (pv_of hPc hK hDc (va_recv hK hPc (ci := 10) (q0 := 0) rfl rfl)) rfl rfl hl.1 rfl (lv_room (Nat.le_of_ble_eq_true rfl)) dX11_freezes_4 ⟨Nat.zero_le _, Nat.zero_le _⟩) hS (fun q _ h => hFc q h) hFc (fun r_1 u t H locs ht hvm hw hB hz1 hk1 hS => ?_)
  obtain ⟨hP, hD⟩ := af_join (wr := []) (w1 := [(h, .inr (10, [.ref h_all, .ref h_has, .int f_size, .int f_next, .int f_where, .int f_token, .int f_number, .int f_sign, .int f_word, .int f_wrong, .int f_open, .int f_lines, .int f_acts, .ref h_line, .ref h_act, .ref h_pile, .ref h_comes, .ref h_leaves, .ref h_tried, .ref h_met])), (h_all, .inl (cI, 53700, .inl r_all))]) hB ht hP hD [0, 1] [] rfl rfl (by decide) (by decide) hk1 hFc
  have hP : va_P (dC, dI) vwCl [(h, .inr (10, [.ref h_all, .ref h_has, .int f_size, .int f_next, .int f_where, .int f_token, .int f_number, .int f_sign, .int f_word, .int f_wrong, .int f_open, .int f_lines, .int f_acts, .ref h_line, .ref h_act, .ref h_pile, .ref h_comes, .ref h_leaves, .ref h_tried, .ref h_met])), (h_all, .inl (cI, 53700, .inl r_all))] _ := hP
  have hD : va_D A [(h, .inr (10, [.ref h_all, .ref h_has, .int f_size, .int f_next, .int f_where, .int f_token, .int f_number, .int f_sign, .int f_word, .int f_wrong, .int f_open, .int f_lines, .int f_acts, .ref h_line, .ref h_act, .ref h_pile, .ref h_comes, .ref h_leaves, .ref h_tried, .ref h_met])), (h_all, .inl (cI, 53700, .inl r_all))] := hD
  refine lv_istore (lv' := [(4, .int r_1), (0, .ref h), (1, .int x1), (2, .int x2), (3, .int x3)]) hx hb dX11_freezes_7 hl (by decide) rfl (fun ls hl => ?_)
  refine lv_iload_n hx hb dX11_freezes_9 rfl (lv_at hl 4 rfl) ?_
  refine lv_if_le (tgt := 52) hx hb dX11_freezes_10 (by decide) (fun c_2 => ?_) (fun c_2 => ?_)
  · have hw := hw.1 c_2
    refine lv_iload_n hx hb dX11_freezes_52 rfl (lv_at hl 4 rfl) ?_
    refine lv_if_ge (tgt := 127) hx hb dX11_freezes_53 (by decide) (fun c_3 => ?_) (fun c_3 => ?_)
    · have hw := hw.1 c_3
      have hP9 := hP.sub (ws' := (vX11_freezes cI cZ h h_all h_has h_line h_act h_pile h_comes h_leaves h_tried h_met f_size f_next f_where f_token f_number f_sign f_word f_wrong f_open f_lines f_acts r_all)) [0, 1] rfl
      have hD9 := hD.sub (ws' := (vX11_freezes cI cZ h h_all h_has h_line h_act h_pile h_comes h_leaves h_tried h_met f_size f_next f_where f_token f_number f_sign f_word f_wrong f_open f_lines f_acts r_all)) [0, 1] (by decide) rfl
      exact W.vret hx hb hr (fun t ht hW => ⟨⟨r_all, rfl, hw, by rw [ht]; exact hP9, va_K.moved hW.alike hK, hD9⟩, hS.F ht⟩) hS.2.2 dX11_freezes_127
    · have hw := hw.2 c_3
      refine lv_iload hx hb dX11_freezes_56 (lv_at hl 0 rfl) ?_
      refine lv_iload_n hx hb dX11_freezes_58 rfl (lv_at hl 4 rfl) ?_
      refine lv_ineg hx hb dX11_freezes_59 ?_
      refine lv_imul hx hb dX11_freezes_60 ?_
      refine lv_sipush (v := (400 : Int32)) hx hb dX11_freezes_61 (by decide) ?_
      refine lv_idiv hx hb dX11_freezes_64 (by decide) ?_
      refine lv_istore (lv' := [(5, .int ((r_1 * (-x3)) / (400 : Int32))), (4, .int r_1), (0, .ref h), (1, .int x1), (2, .int x2), (3, .int x3)]) hx hb dX11_freezes_65 hl (by decide) rfl (fun ls hl => ?_)
      refine lv_aload_n hx hb dX11_freezes_67 rfl (lv_at hl 2 rfl) ?_
      refine lv_iload_n hx hb dX11_freezes_68 rfl (lv_at hl 3 rfl) ?_
      refine lv_iload_n hx hb dX11_freezes_69 rfl (lv_at hl 4 rfl) ?_
      refine lv_iconst (v := (2 : Int32)) hx hb dX11_freezes_70 (by decide) ?_
      have hPc := hP.sub (ws' := [(h, .inr (10, [.ref h_all, .ref h_has, .int f_size, .int f_next, .int f_where, .int f_token, .int f_number, .int f_sign, .int f_word, .int f_wrong, .int f_open, .int f_lines, .int f_acts, .ref h_line, .ref h_act, .ref h_pile, .ref h_comes, .ref h_leaves, .ref h_tried, .ref h_met])), (h_all, .inl (cI, 53700, .inl r_all))]) [0, 1] rfl
      have hDc := hD.sub (ws' := [(h, .inr (10, [.ref h_all, .ref h_has, .int f_size, .int f_next, .int f_where, .int f_token, .int f_number, .int f_sign, .int f_word, .int f_wrong, .int f_open, .int f_lines, .int f_acts, .ref h_line, .ref h_act, .ref h_pile, .ref h_comes, .ref h_leaves, .ref h_tried, .ref h_met])), (h_all, .inl (cI, 53700, .inl r_all))]) [0, 1] (by decide) rfl
      have hFc := va_free (wc := [(h, .inr (10, [.ref h_all, .ref h_has, .int f_size, .int f_next, .int f_where, .int f_token, .int f_number, .int f_sign, .int f_word, .int f_wrong, .int f_open, .int f_lines, .int f_acts, .ref h_line, .ref h_act, .ref h_pile, .ref h_comes, .ref h_leaves, .ref h_tried, .ref h_met])), (h_all, .inl (cI, 53700, .inl r_all))]) hD hS hA [0, 1] rfl
      refine va_calli (va_runV (As := [.int x1, .int x2, .int (2 : Int32)]) (rest := []) ⟨hx, hb, hml, hown, hts⟩ (kX11_of l dC dI cI cZ cO cW h h_all h_has h_line h_act h_pile h_comes h_leaves h_tried h_met H.size f_size f_next f_where f_token f_number f_sign f_word f_wrong f_open f_lines f_acts r_all x1 x2 (2 : Int32) _ hw) (cwV 3 hts (gV gw_634 gw_635 gw_636 gw_622 (gM gw_628)) rfl rfl rfl (by decide +kernel) ⟨Nat.le_of_ble_eq_true rfl, Nat.le_of_ble_eq_true rfl⟩) (pv_of hPc hK hDc (va_recv hK hPc (ci := 10) (q0 := 0) rfl rfl)) rfl rfl hl.1 rfl (lv_room (Nat.le_of_ble_eq_true rfl)) dX11_freezes_71 ⟨Nat.zero_le _, Nat.zero_le _⟩) hS (fun q _ h => hFc q h) hFc (fun r_4 u t H locs ht hvm hw hB hz1 hk1 hS => ?_)
      obtain ⟨hP, hD⟩ := af_join (wr := []) (w1 := [(h, .inr (10, [.ref h_all, .ref h_has, .int f_size, .int f_next, .int f_where, .int f_token, .int f_number, .int f_sign, .int f_word, .int f_wrong, .int f_open, .int f_lines, .int f_acts, .ref h_line, .ref h_act, .ref h_pile, .ref h_comes, .ref h_leaves, .ref h_tried, .ref h_met])), (h_all, .inl (cI, 53700, .inl r_all))]) hB ht hP hD [0, 1] [] rfl rfl (by decide) (by decide) hk1 hFc
      have hP : va_P (dC, dI) vwCl [(h, .inr (10, [.ref h_all, .ref h_has, .int f_size, .int f_next, .int f_where, .int f_token, .int f_number, .int f_sign, .int f_word, .int f_wrong, .int f_open, .int f_lines, .int f_acts, .ref h_line, .ref h_act, .ref h_pile, .ref h_comes, .ref h_leaves, .ref h_tried, .ref h_met])), (h_all, .inl (cI, 53700, .inl r_all))] _ := hP
      have hD : va_D A [(h, .inr (10, [.ref h_all, .ref h_has, .int f_size, .int f_next, .int f_where, .int f_token, .int f_number, .int f_sign, .int f_word, .int f_wrong, .int f_open, .int f_lines, .int f_acts, .ref h_line, .ref h_act, .ref h_pile, .ref h_comes, .ref h_leaves, .ref h_tried, .ref h_met])), (h_all, .inl (cI, 53700, .inl r_all))] := hD
      refine lv_iload_n hx hb dX11_freezes_74 rfl (lv_at hl 5 rfl) ?_
      refine lv_ineg hx hb dX11_freezes_75 ?_
      refine lv_imul hx hb dX11_freezes_76 ?_
      refine lv_sipush (v := (800 : Int32)) hx hb dX11_freezes_77 (by decide) ?_
      refine lv_idiv hx hb dX11_freezes_80 (by decide) ?_
      refine lv_istore (lv' := [(6, .int ((r_4 * (-x3)) / (800 : Int32))), (5, .int ((r_1 * (-x3)) / (400 : Int32))), (4, .int r_1), (0, .ref h), (1, .int x1), (2, .int x2), (3, .int x3)]) hx hb dX11_freezes_81 hl (by decide) rfl (fun ls hl => ?_)
      refine lv_aload_n hx hb dX11_freezes_83 rfl (lv_at hl 3 rfl) ?_
      refine lv_iload_n hx hb dX11_freezes_84 rfl (lv_at hl 4 rfl) ?_
      refine lv_iload_n hx hb dX11_freezes_85 rfl (lv_at hl 5 rfl) ?_
      refine lv_iconst (v := (1 : Int32)) hx hb dX11_freezes_86 (by decide) ?_
      refine lv_iload hx hb dX11_freezes_87 (lv_at hl 2 rfl) ?_
      refine lv_iload hx hb dX11_freezes_89 (lv_at hl 1 rfl) ?_
      refine lv_isub hx hb dX11_freezes_91 ?_
      have hPc := hP.sub (ws' := [(h, .inr (10, [.ref h_all, .ref h_has, .int f_size, .int f_next, .int f_where, .int f_token, .int f_number, .int f_sign, .int f_word, .int f_wrong, .int f_open, .int f_lines, .int f_acts, .ref h_line, .ref h_act, .ref h_pile, .ref h_comes, .ref h_leaves, .ref h_tried, .ref h_met])), (h_all, .inl (cI, 53700, .inl r_all))]) [0, 1] rfl
      have hDc := hD.sub (ws' := [(h, .inr (10, [.ref h_all, .ref h_has, .int f_size, .int f_next, .int f_where, .int f_token, .int f_number, .int f_sign, .int f_word, .int f_wrong, .int f_open, .int f_lines, .int f_acts, .ref h_line, .ref h_act, .ref h_pile, .ref h_comes, .ref h_leaves, .ref h_tried, .ref h_met])), (h_all, .inl (cI, 53700, .inl r_all))]) [0, 1] (by decide) rfl
      have hFc := va_free (wc := [(h, .inr (10, [.ref h_all, .ref h_has, .int f_size, .int f_next, .int f_where, .int f_token, .int f_number, .int f_sign, .int f_word, .int f_wrong, .int f_open, .int f_lines, .int f_acts, .ref h_line, .ref h_act, .ref h_pile, .ref h_comes, .ref h_leaves, .ref h_tried, .ref h_met])), (h_all, .inl (cI, 53700, .inl r_all))]) hD hS hA [0, 1] rfl
      refine va_callv (va_runV (As := [.int x1, .int x2, .int (1 : Int32), .int (r_1 - ((r_1 * (-x3)) / (400 : Int32)))]) (rest := []) ⟨hx, hb, hml, hown, hts⟩ (kX11_sets l dC dI cI cZ cO cW h h_all h_has h_line h_act h_pile h_comes h_leaves h_tried h_met H.size f_size f_next f_where f_token f_number f_sign f_word f_wrong f_open f_lines f_acts r_all x1 x2 (1 : Int32) (r_1 - ((r_1 * (-x3)) / (400 : Int32))) _ hw) (cwV 4 hts (gV gw_646 gw_647 gw_648 gw_622 (gM gw_629)) rfl rfl rfl (by decide +kernel) ⟨Nat.le_of_ble_eq_true rfl, Nat.le_of_ble_eq_true rfl⟩) (pv_of hPc hK hDc (va_recv hK hPc (ci := 10) (q0 := 0) rfl rfl)) rfl rfl hl.1 rfl (lv_room (Nat.le_of_ble_eq_true rfl)) dX11_freezes_92 ⟨Nat.zero_le _, Nat.zero_le _⟩) hS (fun q _ h => hFc q h) hFc (fun u t H locs ht hvm hw hB hz1 hk1 hS => ?_)
      obtain ⟨r_all_5, rfl⟩ : ∃ z, z = u := ⟨_, rfl⟩
      obtain ⟨hP, hD⟩ := af_join (wr := []) (w1 := [(h, .inr (10, [.ref h_all, .ref h_has, .int f_size, .int f_next, .int f_where, .int f_token, .int f_number, .int f_sign, .int f_word, .int f_wrong, .int f_open, .int f_lines, .int f_acts, .ref h_line, .ref h_act, .ref h_pile, .ref h_comes, .ref h_leaves, .ref h_tried, .ref h_met])), (h_all, .inl (cI, 53700, .inl r_all_5))]) hB ht hP hD [0, 1] [] rfl rfl (by decide) (by decide) hk1 hFc
      have hP : va_P (dC, dI) vwCl [(h, .inr (10, [.ref h_all, .ref h_has, .int f_size, .int f_next, .int f_where, .int f_token, .int f_number, .int f_sign, .int f_word, .int f_wrong, .int f_open, .int f_lines, .int f_acts, .ref h_line, .ref h_act, .ref h_pile, .ref h_comes, .ref h_leaves, .ref h_tried, .ref h_met])), (h_all, .inl (cI, 53700, .inl r_all_5))] _ := hP
      have hD : va_D A [(h, .inr (10, [.ref h_all, .ref h_has, .int f_size, .int f_next, .int f_where, .int f_token, .int f_number, .int f_sign, .int f_word, .int f_wrong, .int f_open, .int f_lines, .int f_acts, .ref h_line, .ref h_act, .ref h_pile, .ref h_comes, .ref h_leaves, .ref h_tried, .ref h_met])), (h_all, .inl (cI, 53700, .inl r_all_5))] := hD
      refine lv_aload_n hx hb dX11_freezes_95 rfl (lv_at hl 3 rfl) ?_
      refine lv_iload_n hx hb dX11_freezes_96 rfl (lv_at hl 4 rfl) ?_
      refine lv_iload_n hx hb dX11_freezes_97 rfl (lv_at hl 5 rfl) ?_
      refine lv_iconst (v := (2 : Int32)) hx hb dX11_freezes_98 (by decide) ?_
      refine lv_aload_n hx hb dX11_freezes_99 rfl (lv_at hl 3 rfl) ?_
      refine lv_iload_n hx hb dX11_freezes_100 rfl (lv_at hl 4 rfl) ?_
      refine lv_iload_n hx hb dX11_freezes_101 rfl (lv_at hl 5 rfl) ?_
      refine lv_iconst (v := (2 : Int32)) hx hb dX11_freezes_102 (by decide) ?_
      have hPc := hP.sub (ws' := [(h, .inr (10, [.ref h_all, .ref h_has, .int f_size, .int f_next, .int f_where, .int f_token, .int f_number, .int f_sign, .int f_word, .int f_wrong, .int f_open, .int f_lines, .int f_acts, .ref h_line, .ref h_act, .ref h_pile, .ref h_comes, .ref h_leaves, .ref h_tried, .ref h_met])), (h_all, .inl (cI, 53700, .inl r_all_5))]) [0, 1] rfl
      have hDc := hD.sub (ws' := [(h, .inr (10, [.ref h_all, .ref h_has, .int f_size, .int f_next, .int f_where, .int f_token, .int f_number, .int f_sign, .int f_word, .int f_wrong, .int f_open, .int f_lines, .int f_acts, .ref h_line, .ref h_act, .ref h_pile, .ref h_comes, .ref h_leaves, .ref h_tried, .ref h_met])), (h_all, .inl (cI, 53700, .inl r_all_5))]) [0, 1] (by decide) rfl
      have hFc := va_free (wc := [(h, .inr (10, [.ref h_all, .ref h_has, .int f_size, .int f_next, .int f_where, .int f_token, .int f_number, .int f_sign, .int f_word, .int f_wrong, .int f_open, .int f_lines, .int f_acts, .ref h_line, .ref h_act, .ref h_pile, .ref h_comes, .ref h_leaves, .ref h_tried, .ref h_met])), (h_all, .inl (cI, 53700, .inl r_all_5))]) hD hS hA [0, 1] rfl
      refine va_calli (va_runV (As := [.int x1, .int x2, .int (2 : Int32)]) (rest := [.int (2 : Int32), .int x2, .int x1, .ref h]) ⟨hx, hb, hml, hown, hts⟩ (kX11_of l dC dI cI cZ cO cW h h_all h_has h_line h_act h_pile h_comes h_leaves h_tried h_met H.size f_size f_next f_where f_token f_number f_sign f_word f_wrong f_open f_lines f_acts r_all_5 x1 x2 (2 : Int32) _ hw) (cwV 3 hts (gV gw_634 gw_635 gw_636 gw_622 (gM gw_628)) rfl rfl rfl (by decide +kernel) ⟨Nat.le_of_ble_eq_true rfl, Nat.le_of_ble_eq_true rfl⟩) (pv_of hPc hK hDc (va_recv hK hPc (ci := 10) (q0 := 0) rfl rfl)) rfl rfl hl.1 rfl (lv_room (Nat.le_of_ble_eq_true rfl)) dX11_freezes_103 ⟨Nat.zero_le _, Nat.zero_le _⟩) hS (fun q _ h => hFc q h) hFc (fun r_6 u t H locs ht hvm hw hB hz1 hk1 hS => ?_)
      obtain ⟨hP, hD⟩ := af_join (wr := []) (w1 := [(h, .inr (10, [.ref h_all, .ref h_has, .int f_size, .int f_next, .int f_where, .int f_token, .int f_number, .int f_sign, .int f_word, .int f_wrong, .int f_open, .int f_lines, .int f_acts, .ref h_line, .ref h_act, .ref h_pile, .ref h_comes, .ref h_leaves, .ref h_tried, .ref h_met])), (h_all, .inl (cI, 53700, .inl r_all_5))]) hB ht hP hD [0, 1] [] rfl rfl (by decide) (by decide) hk1 hFc
      have hP : va_P (dC, dI) vwCl [(h, .inr (10, [.ref h_all, .ref h_has, .int f_size, .int f_next, .int f_where, .int f_token, .int f_number, .int f_sign, .int f_word, .int f_wrong, .int f_open, .int f_lines, .int f_acts, .ref h_line, .ref h_act, .ref h_pile, .ref h_comes, .ref h_leaves, .ref h_tried, .ref h_met])), (h_all, .inl (cI, 53700, .inl r_all_5))] _ := hP
      have hD : va_D A [(h, .inr (10, [.ref h_all, .ref h_has, .int f_size, .int f_next, .int f_where, .int f_token, .int f_number, .int f_sign, .int f_word, .int f_wrong, .int f_open, .int f_lines, .int f_acts, .ref h_line, .ref h_act, .ref h_pile, .ref h_comes, .ref h_leaves, .ref h_tried, .ref h_met])), (h_all, .inl (cI, 53700, .inl r_all_5))] := hD
      refine lv_iload hx hb dX11_freezes_106 (lv_at hl 0 rfl) ?_
      refine lv_isub hx hb dX11_freezes_108 ?_
      have hPc := hP.sub (ws' := [(h, .inr (10, [.ref h_all, .ref h_has, .int f_size, .int f_next, .int f_where, .int f_token, .int f_number, .int f_sign, .int f_word, .int f_wrong, .int f_open, .int f_lines, .int f_acts, .ref h_line, .ref h_act, .ref h_pile, .ref h_comes, .ref h_leaves, .ref h_tried, .ref h_met])), (h_all, .inl (cI, 53700, .inl r_all_5))]) [0, 1] rfl
      have hDc := hD.sub (ws' := [(h, .inr (10, [.ref h_all, .ref h_has, .int f_size, .int f_next, .int f_where, .int f_token, .int f_number, .int f_sign, .int f_word, .int f_wrong, .int f_open, .int f_lines, .int f_acts, .ref h_line, .ref h_act, .ref h_pile, .ref h_comes, .ref h_leaves, .ref h_tried, .ref h_met])), (h_all, .inl (cI, 53700, .inl r_all_5))]) [0, 1] (by decide) rfl
      have hFc := va_free (wc := [(h, .inr (10, [.ref h_all, .ref h_has, .int f_size, .int f_next, .int f_where, .int f_token, .int f_number, .int f_sign, .int f_word, .int f_wrong, .int f_open, .int f_lines, .int f_acts, .ref h_line, .ref h_act, .ref h_pile, .ref h_comes, .ref h_leaves, .ref h_tried, .ref h_met])), (h_all, .inl (cI, 53700, .inl r_all_5))]) hD hS hA [0, 1] rfl
      refine va_callv (va_runV (As := [.int x1, .int x2, .int (2 : Int32), .int (r_6 - ((r_4 * (-x3)) / (800 : Int32)))]) (rest := []) ⟨hx, hb, hml, hown, hts⟩ (kX11_sets l dC dI cI cZ cO cW h h_all h_has h_line h_act h_pile h_comes h_leaves h_tried h_met H.size f_size f_next f_where f_token f_number f_sign f_word f_wrong f_open f_lines f_acts r_all_5 x1 x2 (2 : Int32) (r_6 - ((r_4 * (-x3)) / (800 : Int32))) _ hw) (cwV 4 hts (gV gw_646 gw_647 gw_648 gw_622 (gM gw_629)) rfl rfl rfl (by decide +kernel) ⟨Nat.le_of_ble_eq_true rfl, Nat.le_of_ble_eq_true rfl⟩) (pv_of hPc hK hDc (va_recv hK hPc (ci := 10) (q0 := 0) rfl rfl)) rfl rfl hl.1 rfl (lv_room (Nat.le_of_ble_eq_true rfl)) dX11_freezes_109 ⟨Nat.zero_le _, Nat.zero_le _⟩) hS (fun q _ h => hFc q h) hFc (fun u t H locs ht hvm hw hB hz1 hk1 hS => ?_)
      obtain ⟨r_all_7, rfl⟩ : ∃ z, z = u := ⟨_, rfl⟩
      obtain ⟨hP, hD⟩ := af_join (wr := []) (w1 := [(h, .inr (10, [.ref h_all, .ref h_has, .int f_size, .int f_next, .int f_where, .int f_token, .int f_number, .int f_sign, .int f_word, .int f_wrong, .int f_open, .int f_lines, .int f_acts, .ref h_line, .ref h_act, .ref h_pile, .ref h_comes, .ref h_leaves, .ref h_tried, .ref h_met])), (h_all, .inl (cI, 53700, .inl r_all_7))]) hB ht hP hD [0, 1] [] rfl rfl (by decide) (by decide) hk1 hFc
      have hP : va_P (dC, dI) vwCl [(h, .inr (10, [.ref h_all, .ref h_has, .int f_size, .int f_next, .int f_where, .int f_token, .int f_number, .int f_sign, .int f_word, .int f_wrong, .int f_open, .int f_lines, .int f_acts, .ref h_line, .ref h_act, .ref h_pile, .ref h_comes, .ref h_leaves, .ref h_tried, .ref h_met])), (h_all, .inl (cI, 53700, .inl r_all_7))] _ := hP
      have hD : va_D A [(h, .inr (10, [.ref h_all, .ref h_has, .int f_size, .int f_next, .int f_where, .int f_token, .int f_number, .int f_sign, .int f_word, .int f_wrong, .int f_open, .int f_lines, .int f_acts, .ref h_line, .ref h_act, .ref h_pile, .ref h_comes, .ref h_leaves, .ref h_tried, .ref h_met])), (h_all, .inl (cI, 53700, .inl r_all_7))] := hD
      refine lv_aload_n hx hb dX11_freezes_112 rfl (lv_at hl 3 rfl) ?_
      refine va_get (D := (dC, dI)) (ci := 10) (v := .ref h_all) (C := RX11) (T := TX11) (N := 20) hx hb hts gu_X11 hown hK hP 0 rfl rfl 0 (by decide) (hts _ gw_607) (fun _ h9 => h9) rfl dX11_freezes_113 ?_
      refine lv_bipush (v := (6 : Int32)) hx hb dX11_freezes_116 (by decide) ?_
      refine lv_dup2_11 hx hb dX11_freezes_118 rfl rfl ?_
      obtain ⟨h_8, hw⟩ := hw
      refine va_iald hx hb hK hP 1 0 rfl rfl h_8 dX11_freezes_119 ?_
      refine lv_iload hx hb dX11_freezes_120 (lv_at hl 1 rfl) ?_
      refine lv_iload hx hb dX11_freezes_122 (lv_at hl 0 rfl) ?_
      refine lv_iadd hx hb dX11_freezes_124 ?_
      refine lv_iadd hx hb dX11_freezes_125 ?_
      obtain ⟨h_9, hw⟩ := hw
      refine va_iast hx hb hK hP hD hS 1 0 rfl rfl h_9 dX11_freezes_126 (fun H locs hP hD hS => ?_)
      have hP : va_P (dC, dI) vwCl [(h, .inr (10, [.ref h_all, .ref h_has, .int f_size, .int f_next, .int f_where, .int f_token, .int f_number, .int f_sign, .int f_word, .int f_wrong, .int f_open, .int f_lines, .int f_acts, .ref h_line, .ref h_act, .ref h_pile, .ref h_comes, .ref h_leaves, .ref h_tried, .ref h_met])), (h_all, .inl (cI, 53700, .inl (upd r_all_7 (6 : Int32).toNatClampNeg ((r_all_7 (6 : Int32).toNatClampNeg) + (((r_1 * (-x3)) / (400 : Int32)) + ((r_4 * (-x3)) / (800 : Int32)))))))] _ := hP
      have hD : va_D A [(h, .inr (10, [.ref h_all, .ref h_has, .int f_size, .int f_next, .int f_where, .int f_token, .int f_number, .int f_sign, .int f_word, .int f_wrong, .int f_open, .int f_lines, .int f_acts, .ref h_line, .ref h_act, .ref h_pile, .ref h_comes, .ref h_leaves, .ref h_tried, .ref h_met])), (h_all, .inl (cI, 53700, .inl (upd r_all_7 (6 : Int32).toNatClampNeg ((r_all_7 (6 : Int32).toNatClampNeg) + (((r_1 * (-x3)) / (400 : Int32)) + ((r_4 * (-x3)) / (800 : Int32)))))))] := hD
      have hP9 := hP.sub (ws' := (vX11_freezes cI cZ h h_all h_has h_line h_act h_pile h_comes h_leaves h_tried h_met f_size f_next f_where f_token f_number f_sign f_word f_wrong f_open f_lines f_acts (upd r_all_7 (6 : Int32).toNatClampNeg ((r_all_7 (6 : Int32).toNatClampNeg) + (((r_1 * (-x3)) / (400 : Int32)) + ((r_4 * (-x3)) / (800 : Int32))))))) [0, 1] rfl
      have hD9 := hD.sub (ws' := (vX11_freezes cI cZ h h_all h_has h_line h_act h_pile h_comes h_leaves h_tried h_met f_size f_next f_where f_token f_number f_sign f_word f_wrong f_open f_lines f_acts (upd r_all_7 (6 : Int32).toNatClampNeg ((r_all_7 (6 : Int32).toNatClampNeg) + (((r_1 * (-x3)) / (400 : Int32)) + ((r_4 * (-x3)) / (800 : Int32))))))) [0, 1] (by decide) rfl
      exact W.vret hx hb hr (fun t ht hW => ⟨⟨(upd r_all_7 (6 : Int32).toNatClampNeg ((r_all_7 (6 : Int32).toNatClampNeg) + (((r_1 * (-x3)) / (400 : Int32)) + ((r_4 * (-x3)) / (800 : Int32))))), rfl, hw, by rw [ht]; exact hP9, va_K.moved hW.alike hK, hD9⟩, hS.F ht⟩) hS.2.2 dX11_freezes_127
  · have hw := hw.2 c_2
    refine lv_bipush (v := (100 : Int32)) hx hb dX11_freezes_13 (by decide) ?_
    refine lv_iload hx hb dX11_freezes_15 (lv_at hl 0 rfl) ?_
    refine lv_isub hx hb dX11_freezes_17 ?_
    refine lv_iload_n hx hb dX11_freezes_18 rfl (lv_at hl 4 rfl) ?_
    refine lv_imul hx hb dX11_freezes_19 ?_
    refine lv_sipush (v := (400 : Int32)) hx hb dX11_freezes_20 (by decide) ?_
    refine lv_idiv hx hb dX11_freezes_23 (by decide) ?_
    refine lv_istore (lv' := [(5, .int ((((100 : Int32) - r_1) * x3) / (400 : Int32))), (4, .int r_1), (0, .ref h), (1, .int x1), (2, .int x2), (3, .int x3)]) hx hb dX11_freezes_24 hl (by decide) rfl (fun ls hl => ?_)
    refine lv_aload_n hx hb dX11_freezes_26 rfl (lv_at hl 2 rfl) ?_
    refine lv_iload_n hx hb dX11_freezes_27 rfl (lv_at hl 3 rfl) ?_
    refine lv_iload_n hx hb dX11_freezes_28 rfl (lv_at hl 4 rfl) ?_
    refine lv_iconst (v := (1 : Int32)) hx hb dX11_freezes_29 (by decide) ?_
    refine lv_iload hx hb dX11_freezes_30 (lv_at hl 1 rfl) ?_
    refine lv_iload hx hb dX11_freezes_32 (lv_at hl 0 rfl) ?_
    refine lv_iadd hx hb dX11_freezes_34 ?_
    have hPc := hP.sub (ws' := [(h, .inr (10, [.ref h_all, .ref h_has, .int f_size, .int f_next, .int f_where, .int f_token, .int f_number, .int f_sign, .int f_word, .int f_wrong, .int f_open, .int f_lines, .int f_acts, .ref h_line, .ref h_act, .ref h_pile, .ref h_comes, .ref h_leaves, .ref h_tried, .ref h_met])), (h_all, .inl (cI, 53700, .inl r_all))]) [0, 1] rfl
    have hDc := hD.sub (ws' := [(h, .inr (10, [.ref h_all, .ref h_has, .int f_size, .int f_next, .int f_where, .int f_token, .int f_number, .int f_sign, .int f_word, .int f_wrong, .int f_open, .int f_lines, .int f_acts, .ref h_line, .ref h_act, .ref h_pile, .ref h_comes, .ref h_leaves, .ref h_tried, .ref h_met])), (h_all, .inl (cI, 53700, .inl r_all))]) [0, 1] (by decide) rfl
    have hFc := va_free (wc := [(h, .inr (10, [.ref h_all, .ref h_has, .int f_size, .int f_next, .int f_where, .int f_token, .int f_number, .int f_sign, .int f_word, .int f_wrong, .int f_open, .int f_lines, .int f_acts, .ref h_line, .ref h_act, .ref h_pile, .ref h_comes, .ref h_leaves, .ref h_tried, .ref h_met])), (h_all, .inl (cI, 53700, .inl r_all))]) hD hS hA [0, 1] rfl
    refine va_callv (va_runV (As := [.int x1, .int x2, .int (1 : Int32), .int (r_1 + ((((100 : Int32) - r_1) * x3) / (400 : Int32)))]) (rest := []) ⟨hx, hb, hml, hown, hts⟩ (kX11_sets l dC dI cI cZ cO cW h h_all h_has h_line h_act h_pile h_comes h_leaves h_tried h_met H.size f_size f_next f_where f_token f_number f_sign f_word f_wrong f_open f_lines f_acts r_all x1 x2 (1 : Int32) (r_1 + ((((100 : Int32) - r_1) * x3) / (400 : Int32))) _ hw) (cwV 4 hts (gV gw_646 gw_647 gw_648 gw_622 (gM gw_629)) rfl rfl rfl (by decide +kernel) ⟨Nat.le_of_ble_eq_true rfl, Nat.le_of_ble_eq_true rfl⟩) (pv_of hPc hK hDc (va_recv hK hPc (ci := 10) (q0 := 0) rfl rfl)) rfl rfl hl.1 rfl (lv_room (Nat.le_of_ble_eq_true rfl)) dX11_freezes_35 ⟨Nat.zero_le _, Nat.zero_le _⟩) hS (fun q _ h => hFc q h) hFc (fun u t H locs ht hvm hw hB hz1 hk1 hS => ?_)
    obtain ⟨r_all_10, rfl⟩ : ∃ z, z = u := ⟨_, rfl⟩
    obtain ⟨hP, hD⟩ := af_join (wr := []) (w1 := [(h, .inr (10, [.ref h_all, .ref h_has, .int f_size, .int f_next, .int f_where, .int f_token, .int f_number, .int f_sign, .int f_word, .int f_wrong, .int f_open, .int f_lines, .int f_acts, .ref h_line, .ref h_act, .ref h_pile, .ref h_comes, .ref h_leaves, .ref h_tried, .ref h_met])), (h_all, .inl (cI, 53700, .inl r_all_10))]) hB ht hP hD [0, 1] [] rfl rfl (by decide) (by decide) hk1 hFc
    have hP : va_P (dC, dI) vwCl [(h, .inr (10, [.ref h_all, .ref h_has, .int f_size, .int f_next, .int f_where, .int f_token, .int f_number, .int f_sign, .int f_word, .int f_wrong, .int f_open, .int f_lines, .int f_acts, .ref h_line, .ref h_act, .ref h_pile, .ref h_comes, .ref h_leaves, .ref h_tried, .ref h_met])), (h_all, .inl (cI, 53700, .inl r_all_10))] _ := hP
    have hD : va_D A [(h, .inr (10, [.ref h_all, .ref h_has, .int f_size, .int f_next, .int f_where, .int f_token, .int f_number, .int f_sign, .int f_word, .int f_wrong, .int f_open, .int f_lines, .int f_acts, .ref h_line, .ref h_act, .ref h_pile, .ref h_comes, .ref h_leaves, .ref h_tried, .ref h_met])), (h_all, .inl (cI, 53700, .inl r_all_10))] := hD
    refine lv_aload_n hx hb dX11_freezes_38 rfl (lv_at hl 2 rfl) ?_
    refine va_get (D := (dC, dI)) (ci := 10) (v := .ref h_all) (C := RX11) (T := TX11) (N := 20) hx hb hts gu_X11 hown hK hP 0 rfl rfl 0 (by decide) (hts _ gw_607) (fun _ h9 => h9) rfl dX11_freezes_39 ?_
    refine lv_iconst (v := (5 : Int32)) hx hb dX11_freezes_42 (by decide) ?_
    refine lv_dup2_11 hx hb dX11_freezes_43 rfl rfl ?_
    obtain ⟨h_11, hw⟩ := hw
    refine va_iald hx hb hK hP 1 0 rfl rfl h_11 dX11_freezes_44 ?_
    refine lv_iload hx hb dX11_freezes_45 (lv_at hl 0 rfl) ?_
    refine lv_iadd hx hb dX11_freezes_47 ?_
    obtain ⟨h_12, hw⟩ := hw
    refine va_iast hx hb hK hP hD hS 1 0 rfl rfl h_12 dX11_freezes_48 (fun H locs hP hD hS => ?_)
    have hP : va_P (dC, dI) vwCl [(h, .inr (10, [.ref h_all, .ref h_has, .int f_size, .int f_next, .int f_where, .int f_token, .int f_number, .int f_sign, .int f_word, .int f_wrong, .int f_open, .int f_lines, .int f_acts, .ref h_line, .ref h_act, .ref h_pile, .ref h_comes, .ref h_leaves, .ref h_tried, .ref h_met])), (h_all, .inl (cI, 53700, .inl (upd r_all_10 (5 : Int32).toNatClampNeg ((r_all_10 (5 : Int32).toNatClampNeg) + ((((100 : Int32) - r_1) * x3) / (400 : Int32))))))] _ := hP
    have hD : va_D A [(h, .inr (10, [.ref h_all, .ref h_has, .int f_size, .int f_next, .int f_where, .int f_token, .int f_number, .int f_sign, .int f_word, .int f_wrong, .int f_open, .int f_lines, .int f_acts, .ref h_line, .ref h_act, .ref h_pile, .ref h_comes, .ref h_leaves, .ref h_tried, .ref h_met])), (h_all, .inl (cI, 53700, .inl (upd r_all_10 (5 : Int32).toNatClampNeg ((r_all_10 (5 : Int32).toNatClampNeg) + ((((100 : Int32) - r_1) * x3) / (400 : Int32))))))] := hD
    refine lv_goto (tgt := 127) hx hb dX11_freezes_49 (by decide) ?_
    have hP9 := hP.sub (ws' := (vX11_freezes cI cZ h h_all h_has h_line h_act h_pile h_comes h_leaves h_tried h_met f_size f_next f_where f_token f_number f_sign f_word f_wrong f_open f_lines f_acts (upd r_all_10 (5 : Int32).toNatClampNeg ((r_all_10 (5 : Int32).toNatClampNeg) + ((((100 : Int32) - r_1) * x3) / (400 : Int32)))))) [0, 1] rfl
    have hD9 := hD.sub (ws' := (vX11_freezes cI cZ h h_all h_has h_line h_act h_pile h_comes h_leaves h_tried h_met f_size f_next f_where f_token f_number f_sign f_word f_wrong f_open f_lines f_acts (upd r_all_10 (5 : Int32).toNatClampNeg ((r_all_10 (5 : Int32).toNatClampNeg) + ((((100 : Int32) - r_1) * x3) / (400 : Int32)))))) [0, 1] (by decide) rfl
    exact W.vret hx hb hr (fun t ht hW => ⟨⟨(upd r_all_10 (5 : Int32).toNatClampNeg ((r_all_10 (5 : Int32).toNatClampNeg) + ((((100 : Int32) - r_1) * x3) / (400 : Int32)))), rfl, hw, by rw [ht]; exact hP9, va_K.moved hW.alike hK, hD9⟩, hS.F ht⟩) hS.2.2 dX11_freezes_127
set_option maxHeartbeats 4000000 in
set_option maxRecDepth 100000 in
theorem kX11_freezes (l : Launch) (dC : Nat → ClassId) (dI : Nat → Nat → Nat) (cI cZ cO cW : ClassId) (h h_all h_has h_line h_act h_pile h_comes h_leaves h_tried h_met : Nat)  (sz : Nat) (f_size : Int32) (f_next : Int32) (f_where : Int32) (f_token : Int32) (f_number : Int32) (f_sign : Int32) (f_word : Int32) (f_wrong : Int32) (f_open : Int32) (f_lines : Int32) (f_acts : Int32) (r_all : Nat → Int32) (x1 : Int32) (x2 : Int32) (x3 : Int32) (Q : (Nat → Int32) → Prop) (hw : wX11_freezes Q x1 x2 x3 r_all) : Met l yX11_freezes zsX11_freezes rmX11_freezes (va_Pc [.ref h, .int x1, .int x2, .int x3] (fun U => U.heap.size = sz ∧ va_P (dC, dI) vwCl (vX11_freezes cI cZ h h_all h_has h_line h_act h_pile h_comes h_leaves h_tried h_met f_size f_next f_where f_token f_number f_sign f_word f_wrong f_open f_lines f_acts r_all) U.heap ∧ va_K (dC, dI) vwCl (tysA cI cZ cO cW) U ∧ va_D (fun _ => True) (vX11_freezes cI cZ h h_all h_has h_line h_act h_pile h_comes h_leaves h_tried h_met f_size f_next f_where f_token f_number f_sign f_word f_wrong f_open f_lines f_acts r_all))) (qX11_freezes dC dI cI cZ cO cW h h_all h_has h_line h_act h_pile h_comes h_leaves h_tried h_met f_size f_next f_where f_token f_number f_sign f_word f_wrong f_open f_lines f_acts Q (va_A (vX11_freezes cI cZ h h_all h_has h_line h_act h_pile h_comes h_leaves h_tried h_met f_size f_next f_where f_token f_number f_sign f_word f_wrong f_open f_lines f_acts r_all) sz)) 0 0 (va_A (vX11_freezes cI cZ h h_all h_has h_line h_act h_pile h_comes h_leaves h_tried h_met f_size f_next f_where f_token f_number f_sign f_word f_wrong f_open f_lines f_acts r_all) sz) := by
  refine Met.ofW (cc := cX11_freezes) (maxL := 7) (ret := none) (by decide) rfl ?_
  intro p e s m args below meth c s₁ B hml hv
  obtain ⟨rfl, hsz, hP, hK, hD0⟩ := hv
  subst hsz
  have hC : Cx p s m ([.ref h, .int x1, .int x2, .int x3] : List Value).toArray meth c cX11_freezes none 7 GW RX11 := ⟨B.exec, B.bytes, B.returns, hml, findClass_of_methodNamed B.named, fun w h => atoms_spec (ws := zsX11_freezes) B.pre w (List.mem_cons_of_mem _ h), B.notSynchronized⟩
  have hD := hD0.self (sz := s.heap.size)
  generalize hAe : va_A (vX11_freezes cI cZ h h_all h_has h_line h_act h_pile h_comes h_leaves h_tried h_met f_size f_next f_where f_token f_number f_sign f_word f_wrong f_open f_lines f_acts r_all) s.heap.size = A at hD ⊢
  have hA : ∀ q : Nat, s.heap.size ≤ q → A q := fun q h => by rw [← hAe]; exact Or.inr h
  have hl := lv_entry ([.ref h, .int x1, .int x2, .int x3]) (n := 7) (Nat.le_of_ble_eq_true rfl)
  rw [lg_entry_eq]
  generalize (lg_sl ([.ref h, .int x1, .int x2, .int x3]) ++ List.replicate (7 - (lg_sl ([.ref h, .int x1, .int x2, .int x3])).length) Slot.unset).toArray = ls at hl ⊢
  exact tX11_freezes_e hC hK hA x1 x2 x3 r_all _ _ ls hw hP hD va_S.rf hl

/-! X11_drifts -/
def wX11_drifts_168 (Q : (Nat → Int32) → (Nat → Int32) → (Nat → Int32) → Prop) (K_48 : Int32 → Int32 → Int32 → Int32 → (Nat → Int32) → (Nat → Int32) → (Nat → Int32) → Prop)  (x1 : Int32) (x2 : Int32) (x3 : Int32) (x4 : Int32) (r_all : (Nat → Int32)) (r_comes : (Nat → Int32)) (r_leaves : (Nat → Int32)) : Prop :=
  (K_48 x1 x2 x3 (x4 + (1 : Int32)) r_all r_comes r_leaves)
def wX11_drifts_48 (Q : (Nat → Int32) → (Nat → Int32) → (Nat → Int32) → Prop) (K_35 : Int32 → Int32 → Int32 → (Nat → Int32) → (Nat → Int32) → (Nat → Int32) → Prop)  : Nat → Int32 → Int32 → Int32 → Int32 → (Nat → Int32) → (Nat → Int32) → (Nat → Int32) → Prop
  | 0, _, _, _, _, _, _, _ => False
  | n + 1, x1, x2, x3, x4, r_all, r_comes, r_leaves => (vp_in (1 : Int32) 53700 ∧ (((r_all (1 : Int32).toNatClampNeg) ≤ x4 → (K_35 x1 x2 (x3 + (1 : Int32)) r_all r_comes r_leaves)) ∧ (¬ (r_all (1 : Int32).toNatClampNeg) ≤ x4 → (wX11_rowTo (fun r_3 => (wX11_columnTo (fun r_4 => (wX11_isSea (fun r_5 => ((r_5 = 0 → (wX11_drifts_168 Q (wX11_drifts_48 Q K_35 n) x1 x2 x3 x4 r_all r_comes r_leaves)) ∧ (¬ r_5 = 0 → (wX11_of (fun r_7 => ((r_7 = (1 : Int32) → (wX11_drifts_168 Q (wX11_drifts_48 Q K_35 n) x1 x2 x3 x4 r_all r_comes r_leaves)) ∧ (¬ r_7 = (1 : Int32) → (wX11_rowTo (fun r_9 => (wX11_columnTo (fun r_10 => (wX11_isSea (fun r_11 => ((¬ r_11 = 0 → (wX11_of (fun r_13 => (vp_in (((8 : Int32) * x3) + x4) 64 ∧ (vp_in (((8 : Int32) * x3) + x4) 64 ∧ (vp_in ((((8 : Int32) * (x3 + r_3)) + x4) + r_4) 64 ∧ (wX11_drifts_168 Q (wX11_drifts_48 Q K_35 n) x1 x2 x3 x4 r_all (upd r_comes ((((8 : Int32) * (x3 + r_3)) + x4) + r_4).toNatClampNeg ((upd r_leaves (((8 : Int32) * x3) + x4).toNatClampNeg ((r_13 * x2) / (200 : Int32))) (((8 : Int32) * x3) + x4).toNatClampNeg)) (upd r_leaves (((8 : Int32) * x3) + x4).toNatClampNeg ((r_13 * x2) / (200 : Int32)))))))) x3 x4 (1 : Int32) r_all)) ∧ (r_11 = 0 → (wX11_drifts_168 Q (wX11_drifts_48 Q K_35 n) x1 x2 x3 x4 r_all r_comes r_leaves)))) (x3 + r_9) (x4 + r_10) r_all)) x1)) x1)))) x3 x4 (4 : Int32) r_all)))) x3 x4 r_all)) x1)) x1))))
def wX11_drifts_273 (Q : (Nat → Int32) → (Nat → Int32) → (Nat → Int32) → Prop) (K_182 : Int32 → (Nat → Int32) → (Nat → Int32) → (Nat → Int32) → Prop)  (x3 : Int32) (r_all : (Nat → Int32)) (r_comes : (Nat → Int32)) (r_leaves : (Nat → Int32)) : Prop :=
  (K_182 (x3 + (1 : Int32)) r_all r_comes r_leaves)
def wX11_drifts_182 (Q : (Nat → Int32) → (Nat → Int32) → (Nat → Int32) → Prop)   : Nat → Int32 → (Nat → Int32) → (Nat → Int32) → (Nat → Int32) → Prop
  | 0, _, _, _, _ => False
  | n + 1, x3, r_all, r_comes, r_leaves => (((64 : Int32) ≤ x3 → (Q r_all r_comes r_leaves)) ∧ (¬ (64 : Int32) ≤ x3 → (vp_in (((40 : Int32) + ((5 : Int32) * x3)) + (1 : Int32)) 53700 ∧ (vp_in x3 64 ∧ (vp_in x3 64 ∧ (vp_in (((40 : Int32) + ((5 : Int32) * x3)) + (1 : Int32)) 53700 ∧ (vp_in (((40 : Int32) + ((5 : Int32) * x3)) + (1 : Int32)) 53700 ∧ (((100 : Int32) < ((upd r_all (((40 : Int32) + ((5 : Int32) * x3)) + (1 : Int32)).toNatClampNeg ((r_all (((40 : Int32) + ((5 : Int32) * x3)) + (1 : Int32)).toNatClampNeg) + ((r_comes x3.toNatClampNeg) - (r_leaves x3.toNatClampNeg)))) (((40 : Int32) + ((5 : Int32) * x3)) + (1 : Int32)).toNatClampNeg) → (vp_in (((40 : Int32) + ((5 : Int32) * x3)) + (2 : Int32)) 53700 ∧ (vp_in (((40 : Int32) + ((5 : Int32) * x3)) + (1 : Int32)) 53700 ∧ (vp_in (((40 : Int32) + ((5 : Int32) * x3)) + (2 : Int32)) 53700 ∧ (vp_in (((40 : Int32) + ((5 : Int32) * x3)) + (1 : Int32)) 53700 ∧ (wX11_drifts_273 Q (wX11_drifts_182 Q n) x3 (upd (upd (upd r_all (((40 : Int32) + ((5 : Int32) * x3)) + (1 : Int32)).toNatClampNeg ((r_all (((40 : Int32) + ((5 : Int32) * x3)) + (1 : Int32)).toNatClampNeg) + ((r_comes x3.toNatClampNeg) - (r_leaves x3.toNatClampNeg)))) (((40 : Int32) + ((5 : Int32) * x3)) + (2 : Int32)).toNatClampNeg (((upd r_all (((40 : Int32) + ((5 : Int32) * x3)) + (1 : Int32)).toNatClampNeg ((r_all (((40 : Int32) + ((5 : Int32) * x3)) + (1 : Int32)).toNatClampNeg) + ((r_comes x3.toNatClampNeg) - (r_leaves x3.toNatClampNeg)))) (((40 : Int32) + ((5 : Int32) * x3)) + (2 : Int32)).toNatClampNeg) + (((upd r_all (((40 : Int32) + ((5 : Int32) * x3)) + (1 : Int32)).toNatClampNeg ((r_all (((40 : Int32) + ((5 : Int32) * x3)) + (1 : Int32)).toNatClampNeg) + ((r_comes x3.toNatClampNeg) - (r_leaves x3.toNatClampNeg)))) (((40 : Int32) + ((5 : Int32) * x3)) + (1 : Int32)).toNatClampNeg) - (100 : Int32)))) (((40 : Int32) + ((5 : Int32) * x3)) + (1 : Int32)).toNatClampNeg (100 : Int32)) r_comes r_leaves)))))) ∧ (¬ (100 : Int32) < ((upd r_all (((40 : Int32) + ((5 : Int32) * x3)) + (1 : Int32)).toNatClampNeg ((r_all (((40 : Int32) + ((5 : Int32) * x3)) + (1 : Int32)).toNatClampNeg) + ((r_comes x3.toNatClampNeg) - (r_leaves x3.toNatClampNeg)))) (((40 : Int32) + ((5 : Int32) * x3)) + (1 : Int32)).toNatClampNeg) → (wX11_drifts_273 Q (wX11_drifts_182 Q n) x3 (upd r_all (((40 : Int32) + ((5 : Int32) * x3)) + (1 : Int32)).toNatClampNeg ((r_all (((40 : Int32) + ((5 : Int32) * x3)) + (1 : Int32)).toNatClampNeg) + ((r_comes x3.toNatClampNeg) - (r_leaves x3.toNatClampNeg)))) r_comes r_leaves))))))))))
def wX11_drifts_35 (Q : (Nat → Int32) → (Nat → Int32) → (Nat → Int32) → Prop)   : Nat → Int32 → Int32 → Int32 → (Nat → Int32) → (Nat → Int32) → (Nat → Int32) → Prop
  | 0, _, _, _, _, _, _ => False
  | n + 1, x1, x2, x3, r_all, r_comes, r_leaves => (vp_in (0 : Int32) 53700 ∧ (((r_all (0 : Int32).toNatClampNeg) ≤ x3 → (∃ j_, wX11_drifts_182 Q j_ (0 : Int32) r_all r_comes r_leaves)) ∧ (¬ (r_all (0 : Int32).toNatClampNeg) ≤ x3 → (∃ j_, wX11_drifts_48 Q (wX11_drifts_35 Q n) j_ x1 x2 x3 (0 : Int32) r_all r_comes r_leaves))))
def wX11_drifts_2 (Q : (Nat → Int32) → (Nat → Int32) → (Nat → Int32) → Prop)   : Nat → Int32 → Int32 → Int32 → (Nat → Int32) → (Nat → Int32) → (Nat → Int32) → Prop
  | 0, _, _, _, _, _, _ => False
  | n + 1, x1, x2, x3, r_all, r_comes, r_leaves => (((64 : Int32) ≤ x3 → ((¬ x2 = 0 → (∃ j_, wX11_drifts_35 Q j_ x1 x2 (0 : Int32) r_all r_comes r_leaves)) ∧ (x2 = 0 → (Q r_all r_comes r_leaves)))) ∧ (¬ (64 : Int32) ≤ x3 → (vp_in x3 64 ∧ (vp_in x3 64 ∧ (wX11_drifts_2 Q n x1 x2 (x3 + (1 : Int32)) r_all (upd r_comes x3.toNatClampNeg (0 : Int32)) (upd r_leaves x3.toNatClampNeg (0 : Int32)))))))
def wX11_drifts (Q : (Nat → Int32) → (Nat → Int32) → (Nat → Int32) → Prop) (x1 : Int32) (x2 : Int32) (r_all : Nat → Int32) (r_comes : Nat → Int32) (r_leaves : Nat → Int32) : Prop :=
  (∃ j_, wX11_drifts_2 Q j_ x1 x2 (0 : Int32) r_all r_comes r_leaves)
abbrev vX11_drifts (cI cZ : ClassId) (h h_all h_has h_line h_act h_pile h_comes h_leaves h_tried h_met : Nat) (f_size : Int32) (f_next : Int32) (f_where : Int32) (f_token : Int32) (f_number : Int32) (f_sign : Int32) (f_word : Int32) (f_wrong : Int32) (f_open : Int32) (f_lines : Int32) (f_acts : Int32) (r_all : Nat → Int32) (r_comes : Nat → Int32) (r_leaves : Nat → Int32) : va_W := [(h, .inr (10, [.ref h_all, .ref h_has, .int f_size, .int f_next, .int f_where, .int f_token, .int f_number, .int f_sign, .int f_word, .int f_wrong, .int f_open, .int f_lines, .int f_acts, .ref h_line, .ref h_act, .ref h_pile, .ref h_comes, .ref h_leaves, .ref h_tried, .ref h_met])), (h_all, .inl (cI, 53700, .inl r_all)), (h_comes, .inl (cI, 64, .inl r_comes)), (h_leaves, .inl (cI, 64, .inl r_leaves))]
abbrev rmX11_drifts : Room := { frames := 3, cells := 0, slots := 0, locals := 66 }
abbrev qX11_drifts (dC : Nat → ClassId) (dI : Nat → Nat → Nat) (cI cZ cO cW : ClassId) (h h_all h_has h_line h_act h_pile h_comes h_leaves h_tried h_met : Nat) (f_size : Int32) (f_next : Int32) (f_where : Int32) (f_token : Int32) (f_number : Int32) (f_sign : Int32) (f_word : Int32) (f_wrong : Int32) (f_open : Int32) (f_lines : Int32) (f_acts : Int32) (Q : (Nat → Int32) → (Nat → Int32) → (Nat → Int32) → Prop) (A : Nat → Prop) : Array Value → State → Outcome → State → Prop := va_Qv (fun (u : (Nat → Int32) × (Nat → Int32) × (Nat → Int32)) => Q u.1 u.2.1 u.2.2) (fun (u : (Nat → Int32) × (Nat → Int32) × (Nat → Int32)) (t : State) => va_P (dC, dI) vwCl (vX11_drifts cI cZ h h_all h_has h_line h_act h_pile h_comes h_leaves h_tried h_met f_size f_next f_where f_token f_number f_sign f_word f_wrong f_open f_lines f_acts u.1 u.2.1 u.2.2) t.heap ∧ va_K (dC, dI) vwCl (tysA cI cZ cO cW) t ∧ va_D A (vX11_drifts cI cZ h h_all h_has h_line h_act h_pile h_comes h_leaves h_tried h_met f_size f_next f_where f_token f_number f_sign f_word f_wrong f_open f_lines f_acts u.1 u.2.1 u.2.2)) A
def zsX11_drifts : List Cond := Cond.code yX11_drifts cX11_drifts 6 none :: GW
set_option maxHeartbeats 4000000 in
set_option maxRecDepth 100000 in
theorem tX11_drifts_168 {p : Program} {l : Launch} {e : Env} {s : State} {m : MethodId} {args : Array Value} {below : List Frame} {meth : Method} {c : Code} {dC : Nat → ClassId} {dI : Nat → Nat → Nat} {cI cZ cO cW : ClassId} {A : Nat → Prop} {h h_all h_has h_line h_act h_pile h_comes h_leaves h_tried h_met : Nat} {f_size f_next f_where f_token f_number f_sign f_word f_wrong f_open f_lines f_acts : Int32} {Q : (Nat → Int32) → (Nat → Int32) → (Nat → Int32) → Prop} {K_48 : Int32 → Int32 → Int32 → Int32 → (Nat → Int32) → (Nat → Int32) → (Nat → Int32) → Prop} (hC : Cx p s m args meth c cX11_drifts none 6 GW RX11) (hK : va_K (dC, dI) vwCl (tysA cI cZ cO cW) s) (hA : ∀ q : Nat, s.heap.size ≤ q → A q) (hk_48 : ∀ (x1 : Int32) (x2 : Int32) (x3 : Int32) (x4 : Int32) (r_all : (Nat → Int32)) (r_comes : (Nat → Int32)) (r_leaves : (Nat → Int32)) (H : Heap) (locs : List Loc) (ls : Array Slot), K_48 x1 x2 x3 x4 r_all r_comes r_leaves → va_P (dC, dI) vwCl (vX11_drifts cI cZ h h_all h_has h_line h_act h_pile h_comes h_leaves h_tried h_met f_size f_next f_where f_token f_number f_sign f_word f_wrong f_open f_lines f_acts r_all r_comes r_leaves) H → va_D A (vX11_drifts cI cZ h h_all h_has h_line h_act h_pile h_comes h_leaves h_tried h_met f_size f_next f_where f_token f_number f_sign f_word f_wrong f_open f_lines f_acts r_all r_comes r_leaves) → va_S A s.heap H locs → lv_has ls 6 [(0, .ref h), (1, .int x1), (2, .int x2), (3, .int x3), (4, .int x4)] → W p l e rmX11_drifts s m args below meth c H locs 0 0 (MQ below (qX11_drifts dC dI cI cZ cO cW h h_all h_has h_line h_act h_pile h_comes h_leaves h_tried h_met f_size f_next f_where f_token f_number f_sign f_word f_wrong f_open f_lines f_acts Q A) args s 0 0 A) (F0 m 48 ls [])) :
    ∀ (x1 : Int32) (x2 : Int32) (x3 : Int32) (x4 : Int32) (r_all : (Nat → Int32)) (r_comes : (Nat → Int32)) (r_leaves : (Nat → Int32)) (H : Heap) (locs : List Loc) (ls : Array Slot), wX11_drifts_168 Q K_48 x1 x2 x3 x4 r_all r_comes r_leaves → va_P (dC, dI) vwCl (vX11_drifts cI cZ h h_all h_has h_line h_act h_pile h_comes h_leaves h_tried h_met f_size f_next f_where f_token f_number f_sign f_word f_wrong f_open f_lines f_acts r_all r_comes r_leaves) H → va_D A (vX11_drifts cI cZ h h_all h_has h_line h_act h_pile h_comes h_leaves h_tried h_met f_size f_next f_where f_token f_number f_sign f_word f_wrong f_open f_lines f_acts r_all r_comes r_leaves) → va_S A s.heap H locs → lv_has ls 6 [(0, .ref h), (1, .int x1), (2, .int x2), (3, .int x3), (4, .int x4)] → W p l e rmX11_drifts s m args below meth c H locs 0 0 (MQ below (qX11_drifts dC dI cI cZ cO cW h h_all h_has h_line h_act h_pile h_comes h_leaves h_tried h_met f_size f_next f_where f_token f_number f_sign f_word f_wrong f_open f_lines f_acts Q A) args s 0 0 A) (F0 m 168 ls []) := by
  obtain ⟨hx, hb, hr, hml, hown, hts, hlocks⟩ := id hC
  intro x1 x2 x3 x4 r_all r_comes r_leaves H locs ls hw hP hD hS hl
  refine lv_iinc (v := (x4 + (1 : Int32))) (lv' := [(4, .int (x4 + (1 : Int32))), (0, .ref h), (1, .int x1), (2, .int x2), (3, .int x3)]) hx hb dX11_drifts_168 hl (k := 4) rfl rfl (by decide) rfl (fun ls hl => ?_)
  refine lv_goto (tgt := 48) hx hb dX11_drifts_171 (by decide) ?_
  exact hk_48 x1 x2 x3 (x4 + (1 : Int32)) r_all r_comes r_leaves _ _ ls hw (hP.sub [0, 1, 2, 3] rfl) (hD.sub [0, 1, 2, 3] (by decide) rfl) hS (lv_sub hl [1, 2, 3, 4, 0] rfl)
set_option maxHeartbeats 4000000 in
set_option maxRecDepth 100000 in
theorem tX11_drifts_48 {p : Program} {l : Launch} {e : Env} {s : State} {m : MethodId} {args : Array Value} {below : List Frame} {meth : Method} {c : Code} {dC : Nat → ClassId} {dI : Nat → Nat → Nat} {cI cZ cO cW : ClassId} {A : Nat → Prop} {h h_all h_has h_line h_act h_pile h_comes h_leaves h_tried h_met : Nat} {f_size f_next f_where f_token f_number f_sign f_word f_wrong f_open f_lines f_acts : Int32} {Q : (Nat → Int32) → (Nat → Int32) → (Nat → Int32) → Prop} {K_35 : Int32 → Int32 → Int32 → (Nat → Int32) → (Nat → Int32) → (Nat → Int32) → Prop} (hC : Cx p s m args meth c cX11_drifts none 6 GW RX11) (hK : va_K (dC, dI) vwCl (tysA cI cZ cO cW) s) (hA : ∀ q : Nat, s.heap.size ≤ q → A q) (hk_35 : ∀ (x1 : Int32) (x2 : Int32) (x3 : Int32) (r_all : (Nat → Int32)) (r_comes : (Nat → Int32)) (r_leaves : (Nat → Int32)) (H : Heap) (locs : List Loc) (ls : Array Slot), K_35 x1 x2 x3 r_all r_comes r_leaves → va_P (dC, dI) vwCl (vX11_drifts cI cZ h h_all h_has h_line h_act h_pile h_comes h_leaves h_tried h_met f_size f_next f_where f_token f_number f_sign f_word f_wrong f_open f_lines f_acts r_all r_comes r_leaves) H → va_D A (vX11_drifts cI cZ h h_all h_has h_line h_act h_pile h_comes h_leaves h_tried h_met f_size f_next f_where f_token f_number f_sign f_word f_wrong f_open f_lines f_acts r_all r_comes r_leaves) → va_S A s.heap H locs → lv_has ls 6 [(0, .ref h), (1, .int x1), (2, .int x2), (3, .int x3)] → W p l e rmX11_drifts s m args below meth c H locs 0 0 (MQ below (qX11_drifts dC dI cI cZ cO cW h h_all h_has h_line h_act h_pile h_comes h_leaves h_tried h_met f_size f_next f_where f_token f_number f_sign f_word f_wrong f_open f_lines f_acts Q A) args s 0 0 A) (F0 m 35 ls [])) :
    ∀ (n : Nat) (x1 : Int32) (x2 : Int32) (x3 : Int32) (x4 : Int32) (r_all : (Nat → Int32)) (r_comes : (Nat → Int32)) (r_leaves : (Nat → Int32)) (H : Heap) (locs : List Loc) (ls : Array Slot), wX11_drifts_48 Q K_35 n x1 x2 x3 x4 r_all r_comes r_leaves → va_P (dC, dI) vwCl (vX11_drifts cI cZ h h_all h_has h_line h_act h_pile h_comes h_leaves h_tried h_met f_size f_next f_where f_token f_number f_sign f_word f_wrong f_open f_lines f_acts r_all r_comes r_leaves) H → va_D A (vX11_drifts cI cZ h h_all h_has h_line h_act h_pile h_comes h_leaves h_tried h_met f_size f_next f_where f_token f_number f_sign f_word f_wrong f_open f_lines f_acts r_all r_comes r_leaves) → va_S A s.heap H locs → lv_has ls 6 [(0, .ref h), (1, .int x1), (2, .int x2), (3, .int x3), (4, .int x4)] → W p l e rmX11_drifts s m args below meth c H locs 0 0 (MQ below (qX11_drifts dC dI cI cZ cO cW h h_all h_has h_line h_act h_pile h_comes h_leaves h_tried h_met f_size f_next f_where f_token f_number f_sign f_word f_wrong f_open f_lines f_acts Q A) args s 0 0 A) (F0 m 48 ls []) := by
  obtain ⟨hx, hb, hr, hml, hown, hts, hlocks⟩ := id hC
  intro n
  induction n with
  | zero =>
    intro  x1 x2 x3 x4 r_all r_comes r_leaves H locs ls hw
    exact hw.elim
  | succ n ih =>
    intro  x1 x2 x3 x4 r_all r_comes r_leaves H locs ls hw hP hD hS hl
    refine lv_iload hx hb dX11_drifts_48 (lv_at hl 4 rfl) ?_
    refine lv_aload_n hx hb dX11_drifts_50 rfl (lv_at hl 0 rfl) ?_
    refine va_get (D := (dC, dI)) (ci := 10) (v := .ref h_all) (C := RX11) (T := TX11) (N := 20) hx hb hts gu_X11 hown hK hP 0 rfl rfl 0 (by decide) (hts _ gw_607) (fun _ h9 => h9) rfl dX11_drifts_51 ?_
    refine lv_iconst (v := (1 : Int32)) hx hb dX11_drifts_54 (by decide) ?_
    obtain ⟨h_1, hw⟩ := hw
    refine va_iald hx hb hK hP 1 0 rfl rfl h_1 dX11_drifts_55 ?_
    refine lv_icmp_ge (tgt := 174) hx hb dX11_drifts_56 (by decide) (fun c_2 => ?_) (fun c_2 => ?_)
    · have hw := hw.1 c_2
      refine lv_iinc (v := (x3 + (1 : Int32))) (lv' := [(3, .int (x3 + (1 : Int32))), (0, .ref h), (1, .int x1), (2, .int x2), (4, .int x4)]) hx hb dX11_drifts_174 hl (k := 3) rfl rfl (by decide) rfl (fun ls hl => ?_)
      refine lv_goto (tgt := 35) hx hb dX11_drifts_177 (by decide) ?_
      exact hk_35 x1 x2 (x3 + (1 : Int32)) r_all r_comes r_leaves _ _ ls hw (hP.sub [0, 1, 2, 3] rfl) (hD.sub [0, 1, 2, 3] (by decide) rfl) hS (lv_sub hl [1, 2, 3, 0] rfl)
    · have hw := hw.2 c_2
      refine lv_bipush (v := (8 : Int32)) hx hb dX11_drifts_59 (by decide) ?_
      refine lv_iload_n hx hb dX11_drifts_61 rfl (lv_at hl 3 rfl) ?_
      refine lv_iload_n hx hb dX11_drifts_62 rfl (lv_at hl 1 rfl) ?_
      have hPc := hP.sub (ws' := []) [] rfl
      have hDc := hD.sub (ws' := []) [] (by decide) rfl
      have hFc := va_free (wc := []) hD hS hA [] rfl
      refine va_calli (va_runS (As := [.int x1]) (rest := [.int x3, .int (8 : Int32)]) ⟨hx, hb, hml, hown, hts⟩ (kX11_rowTo l dC dI cI cZ cO cW H.size x1 _ hw) (va_cwS 1 hts (gS gw_766 gw_767 gw_622 (gM gw_762)) rfl rfl rfl (by decide +kernel) ⟨Nat.le_of_ble_eq_true rfl, Nat.le_of_ble_eq_true rfl⟩) (ps_of hPc hK hDc) rfl rfl hl.1 rfl (lv_room (Nat.le_of_ble_eq_true rfl)) dX11_drifts_63 ⟨Nat.zero_le _, Nat.zero_le _⟩) hS (fun q _ h => hFc q h) hFc (fun r_3 u t H locs ht hvm hw hB hz1 hk1 hS => ?_)
      obtain ⟨hP, hD⟩ := af_join (wr := [(h, .inr (10, [.ref h_all, .ref h_has, .int f_size, .int f_next, .int f_where, .int f_token, .int f_number, .int f_sign, .int f_word, .int f_wrong, .int f_open, .int f_lines, .int f_acts, .ref h_line, .ref h_act, .ref h_pile, .ref h_comes, .ref h_leaves, .ref h_tried, .ref h_met])), (h_all, .inl (cI, 53700, .inl r_all)), (h_comes, .inl (cI, 64, .inl r_comes)), (h_leaves, .inl (cI, 64, .inl r_leaves))]) (w1 := []) hB ht hP hD [] [0, 1, 2, 3] rfl rfl (by decide) (by decide) hk1 hFc
      have hP : va_P (dC, dI) vwCl [(h, .inr (10, [.ref h_all, .ref h_has, .int f_size, .int f_next, .int f_where, .int f_token, .int f_number, .int f_sign, .int f_word, .int f_wrong, .int f_open, .int f_lines, .int f_acts, .ref h_line, .ref h_act, .ref h_pile, .ref h_comes, .ref h_leaves, .ref h_tried, .ref h_met])), (h_all, .inl (cI, 53700, .inl r_all)), (h_comes, .inl (cI, 64, .inl r_comes)), (h_leaves, .inl (cI, 64, .inl r_leaves))] _ := hP
      have hD : va_D A [(h, .inr (10, [.ref h_all, .ref h_has, .int f_size, .int f_next, .int f_where, .int f_token, .int f_number, .int f_sign, .int f_word, .int f_wrong, .int f_open, .int f_lines, .int f_acts, .ref h_line, .ref h_act, .ref h_pile, .ref h_comes, .ref h_leaves, .ref h_tried, .ref h_met])), (h_all, .inl (cI, 53700, .inl r_all)), (h_comes, .inl (cI, 64, .inl r_comes)), (h_leaves, .inl (cI, 64, .inl r_leaves))] := hD
      refine lv_iadd hx hb dX11_drifts_66 ?_
      refine lv_imul hx hb dX11_drifts_67 ?_
      refine lv_iload hx hb dX11_drifts_68 (lv_at hl 4 rfl) ?_
      refine lv_iadd hx hb dX11_drifts_70 ?_
      refine lv_iload_n hx hb dX11_drifts_71 rfl (lv_at hl 1 rfl) ?_
      have hPc := hP.sub (ws' := []) [] rfl
      have hDc := hD.sub (ws' := []) [] (by decide) rfl
      have hFc := va_free (wc := []) hD hS hA [] rfl
      refine va_calli (va_runS (As := [.int x1]) (rest := [.int (((8 : Int32) * (x3 + r_3)) + x4)]) ⟨hx, hb, hml, hown, hts⟩ (kX11_columnTo l dC dI cI cZ cO cW H.size x1 _ hw) (va_cwS 1 hts (gS gw_768 gw_769 gw_622 (gM gw_763)) rfl rfl rfl (by decide +kernel) ⟨Nat.le_of_ble_eq_true rfl, Nat.le_of_ble_eq_true rfl⟩) (ps_of hPc hK hDc) rfl rfl hl.1 rfl (lv_room (Nat.le_of_ble_eq_true rfl)) dX11_drifts_72 ⟨Nat.zero_le _, Nat.zero_le _⟩) hS (fun q _ h => hFc q h) hFc (fun r_4 u t H locs ht hvm hw hB hz1 hk1 hS => ?_)
      obtain ⟨hP, hD⟩ := af_join (wr := [(h, .inr (10, [.ref h_all, .ref h_has, .int f_size, .int f_next, .int f_where, .int f_token, .int f_number, .int f_sign, .int f_word, .int f_wrong, .int f_open, .int f_lines, .int f_acts, .ref h_line, .ref h_act, .ref h_pile, .ref h_comes, .ref h_leaves, .ref h_tried, .ref h_met])), (h_all, .inl (cI, 53700, .inl r_all)), (h_comes, .inl (cI, 64, .inl r_comes)), (h_leaves, .inl (cI, 64, .inl r_leaves))]) (w1 := []) hB ht hP hD [] [0, 1, 2, 3] rfl rfl (by decide) (by decide) hk1 hFc
      have hP : va_P (dC, dI) vwCl [(h, .inr (10, [.ref h_all, .ref h_has, .int f_size, .int f_next, .int f_where, .int f_token, .int f_number, .int f_sign, .int f_word, .int f_wrong, .int f_open, .int f_lines, .int f_acts, .ref h_line, .ref h_act, .ref h_pile, .ref h_comes, .ref h_leaves, .ref h_tried, .ref h_met])), (h_all, .inl (cI, 53700, .inl r_all)), (h_comes, .inl (cI, 64, .inl r_comes)), (h_leaves, .inl (cI, 64, .inl r_leaves))] _ := hP
      have hD : va_D A [(h, .inr (10, [.ref h_all, .ref h_has, .int f_size, .int f_next, .int f_where, .int f_token, .int f_number, .int f_sign, .int f_word, .int f_wrong, .int f_open, .int f_lines, .int f_acts, .ref h_line, .ref h_act, .ref h_pile, .ref h_comes, .ref h_leaves, .ref h_tried, .ref h_met])), (h_all, .inl (cI, 53700, .inl r_all)), (h_comes, .inl (cI, 64, .inl r_comes)), (h_leaves, .inl (cI, 64, .inl r_leaves))] := hD
      refine lv_iadd hx hb dX11_drifts_75 ?_
      refine lv_istore (lv' := [(5, .int ((((8 : Int32) * (x3 + r_3)) + x4) + r_4)), (0, .ref h), (1, .int x1), (2, .int x2), (3, .int x3), (4, .int x4)]) hx hb dX11_drifts_76 hl (by decide) rfl (fun ls hl => ?_)
      refine lv_aload_n hx hb dX11_drifts_78 rfl (lv_at hl 1 rfl) ?_
      refine lv_iload_n hx hb dX11_drifts_79 rfl (lv_at hl 4 rfl) ?_
      refine lv_iload hx hb dX11_drifts_80 (lv_at hl 5 rfl) ?_
      have hPc := hP.sub (ws' := [(h, .inr (10, [.ref h_all, .ref h_has, .int f_size, .int f_next, .int f_where, .int f_token, .int f_number, .int f_sign, .int f_word, .int f_wrong, .int f_open, .int f_lines, .int f_acts, .ref h_line, .ref h_act, .ref h_pile, .ref h_comes, .ref h_leaves, .ref h_tried, .ref h_met])), (h_all, .inl (cI, 53700, .inl r_all))]) [0, 1] rfl
      have hDc := hD.sub (ws' := [(h, .inr (10, [.ref h_all, .ref h_has, .int f_size, .int f_next, .int f_where, .int f_token, .int f_number, .int f_sign, .int f_word, .int f_wrong, .int f_open, .int f_lines, .int f_acts, .ref h_line, .ref h_act, .ref h_pile, .ref h_comes, .ref h_leaves, .ref h_tried, .ref h_met])), (h_all, .inl (cI, 53700, .inl r_all))]) [0, 1] (by decide) rfl
      have hFc := va_free (wc := [(h, .inr (10, [.ref h_all, .ref h_has, .int f_size, .int f_next, .int f_where, .int f_token, .int f_number, .int f_sign, .int f_word, .int f_wrong, .int f_open, .int f_lines, .int f_acts, .ref h_line, .ref h_act, .ref h_pile, .ref h_comes, .ref h_leaves, .ref h_tried, .ref h_met])), (h_all, .inl (cI, 53700, .inl r_all))]) hD hS hA [0, 1] rfl
      refine va_calli (va_runV (As := [.int x3, .int x4]) (rest := []) ⟨hx, hb, hml, hown, hts⟩ (kX11_isSea l dC dI cI cZ cO cW h h_all h_has h_line h_act h_pile h_comes h_leaves h_tried h_met H.size f_size f_next f_where f_token f_number f_sign f_word f_wrong f_open f_lines f_acts r_all x3 x4 _ hw) (cwV 2 hts (gV gw_651 gw_652 gw_653 gw_622 (gM gw_630)) rfl rfl rfl (by decide +kernel) ⟨Nat.le_of_ble_eq_true rfl, Nat.le_of_ble_eq_true rfl⟩) (pv_of hPc hK hDc (va_recv hK hPc (ci := 10) (q0 := 0) rfl rfl)) rfl rfl hl.1 rfl (lv_room (Nat.le_of_ble_eq_true rfl)) dX11_drifts_82 ⟨Nat.zero_le _, Nat.zero_le _⟩) hS (fun q _ h => hFc q h) hFc (fun r_5 u t H locs ht hvm hw hB hz1 hk1 hS => ?_)
      obtain ⟨hP, hD⟩ := af_join (wr := [(h_comes, .inl (cI, 64, .inl r_comes)), (h_leaves, .inl (cI, 64, .inl r_leaves))]) (w1 := [(h, .inr (10, [.ref h_all, .ref h_has, .int f_size, .int f_next, .int f_where, .int f_token, .int f_number, .int f_sign, .int f_word, .int f_wrong, .int f_open, .int f_lines, .int f_acts, .ref h_line, .ref h_act, .ref h_pile, .ref h_comes, .ref h_leaves, .ref h_tried, .ref h_met])), (h_all, .inl (cI, 53700, .inl r_all))]) hB ht hP hD [0, 1] [2, 3] rfl rfl (by decide) (by decide) hk1 hFc
      have hP : va_P (dC, dI) vwCl [(h_comes, .inl (cI, 64, .inl r_comes)), (h_leaves, .inl (cI, 64, .inl r_leaves)), (h, .inr (10, [.ref h_all, .ref h_has, .int f_size, .int f_next, .int f_where, .int f_token, .int f_number, .int f_sign, .int f_word, .int f_wrong, .int f_open, .int f_lines, .int f_acts, .ref h_line, .ref h_act, .ref h_pile, .ref h_comes, .ref h_leaves, .ref h_tried, .ref h_met])), (h_all, .inl (cI, 53700, .inl r_all))] _ := hP
      have hD : va_D A [(h_comes, .inl (cI, 64, .inl r_comes)), (h_leaves, .inl (cI, 64, .inl r_leaves)), (h, .inr (10, [.ref h_all, .ref h_has, .int f_size, .int f_next, .int f_where, .int f_token, .int f_number, .int f_sign, .int f_word, .int f_wrong, .int f_open, .int f_lines, .int f_acts, .ref h_line, .ref h_act, .ref h_pile, .ref h_comes, .ref h_leaves, .ref h_tried, .ref h_met])), (h_all, .inl (cI, 53700, .inl r_all))] := hD
      refine lv_if_eq (tgt := 168) hx hb dX11_drifts_85 (by decide) (fun c_6 => ?_) (fun c_6 => ?_)
      · have hw := hw.1 c_6
        exact tX11_drifts_168 hC hK hA ih x1 x2 x3 x4 r_all r_comes r_leaves _ _ ls hw (hP.sub [2, 3, 0, 1] rfl) (hD.sub [2, 3, 0, 1] (by decide) rfl) hS (lv_sub hl [1, 2, 3, 4, 5] rfl)
      · have hw := hw.2 c_6
        refine lv_aload_n hx hb dX11_drifts_88 rfl (lv_at hl 1 rfl) ?_
        refine lv_iload_n hx hb dX11_drifts_89 rfl (lv_at hl 4 rfl) ?_
        refine lv_iload hx hb dX11_drifts_90 (lv_at hl 5 rfl) ?_
        refine lv_iconst (v := (4 : Int32)) hx hb dX11_drifts_92 (by decide) ?_
        have hPc := hP.sub (ws' := [(h, .inr (10, [.ref h_all, .ref h_has, .int f_size, .int f_next, .int f_where, .int f_token, .int f_number, .int f_sign, .int f_word, .int f_wrong, .int f_open, .int f_lines, .int f_acts, .ref h_line, .ref h_act, .ref h_pile, .ref h_comes, .ref h_leaves, .ref h_tried, .ref h_met])), (h_all, .inl (cI, 53700, .inl r_all))]) [2, 3] rfl
        have hDc := hD.sub (ws' := [(h, .inr (10, [.ref h_all, .ref h_has, .int f_size, .int f_next, .int f_where, .int f_token, .int f_number, .int f_sign, .int f_word, .int f_wrong, .int f_open, .int f_lines, .int f_acts, .ref h_line, .ref h_act, .ref h_pile, .ref h_comes, .ref h_leaves, .ref h_tried, .ref h_met])), (h_all, .inl (cI, 53700, .inl r_all))]) [2, 3] (by decide) rfl
        have hFc := va_free (wc := [(h, .inr (10, [.ref h_all, .ref h_has, .int f_size, .int f_next, .int f_where, .int f_token, .int f_number, .int f_sign, .int f_word, .int f_wrong, .int f_open, .int f_lines, .int f_acts, .ref h_line, .ref h_act, .ref h_pile, .ref h_comes, .ref h_leaves, .ref h_tried, .ref h_met])), (h_all, .inl (cI, 53700, .inl r_all))]) hD hS hA [2, 3] rfl
        refine va_calli (va_runV (As := [.int x3, .int x4, .int (4 : Int32)]) (rest := []) ⟨hx, hb, hml, hown, hts⟩ (kX11_of l dC dI cI cZ cO cW h h_all h_has h_line h_act h_pile h_comes h_leaves h_tried h_met H.size f_size f_next f_where f_token f_number f_sign f_word f_wrong f_open f_lines f_acts r_all x3 x4 (4 : Int32) _ hw) (cwV 3 hts (gV gw_634 gw_635 gw_636 gw_622 (gM gw_628)) rfl rfl rfl (by decide +kernel) ⟨Nat.le_of_ble_eq_true rfl, Nat.le_of_ble_eq_true rfl⟩) (pv_of hPc hK hDc (va_recv hK hPc (ci := 10) (q0 := 0) rfl rfl)) rfl rfl hl.1 rfl (lv_room (Nat.le_of_ble_eq_true rfl)) dX11_drifts_93 ⟨Nat.zero_le _, Nat.zero_le _⟩) hS (fun q _ h => hFc q h) hFc (fun r_7 u t H locs ht hvm hw hB hz1 hk1 hS => ?_)
        obtain ⟨hP, hD⟩ := af_join (wr := [(h_comes, .inl (cI, 64, .inl r_comes)), (h_leaves, .inl (cI, 64, .inl r_leaves))]) (w1 := [(h, .inr (10, [.ref h_all, .ref h_has, .int f_size, .int f_next, .int f_where, .int f_token, .int f_number, .int f_sign, .int f_word, .int f_wrong, .int f_open, .int f_lines, .int f_acts, .ref h_line, .ref h_act, .ref h_pile, .ref h_comes, .ref h_leaves, .ref h_tried, .ref h_met])), (h_all, .inl (cI, 53700, .inl r_all))]) hB ht hP hD [2, 3] [0, 1] rfl rfl (by decide) (by decide) hk1 hFc
        have hP : va_P (dC, dI) vwCl [(h_comes, .inl (cI, 64, .inl r_comes)), (h_leaves, .inl (cI, 64, .inl r_leaves)), (h, .inr (10, [.ref h_all, .ref h_has, .int f_size, .int f_next, .int f_where, .int f_token, .int f_number, .int f_sign, .int f_word, .int f_wrong, .int f_open, .int f_lines, .int f_acts, .ref h_line, .ref h_act, .ref h_pile, .ref h_comes, .ref h_leaves, .ref h_tried, .ref h_met])), (h_all, .inl (cI, 53700, .inl r_all))] _ := hP
        have hD : va_D A [(h_comes, .inl (cI, 64, .inl r_comes)), (h_leaves, .inl (cI, 64, .inl r_leaves)), (h, .inr (10, [.ref h_all, .ref h_has, .int f_size, .int f_next, .int f_where, .int f_token, .int f_number, .int f_sign, .int f_word, .int f_wrong, .int f_open, .int f_lines, .int f_acts, .ref h_line, .ref h_act, .ref h_pile, .ref h_comes, .ref h_leaves, .ref h_tried, .ref h_met])), (h_all, .inl (cI, 53700, .inl r_all))] := hD
        refine lv_iconst (v := (1 : Int32)) hx hb dX11_drifts_96 (by decide) ?_
        refine lv_icmp_eq (tgt := 168) hx hb dX11_drifts_97 (by decide) (fun c_8 => ?_) (fun c_8 => ?_)
        · have hw := hw.1 c_8
          exact tX11_drifts_168 hC hK hA ih x1 x2 x3 x4 r_all r_comes r_leaves _ _ ls hw (hP.sub [2, 3, 0, 1] rfl) (hD.sub [2, 3, 0, 1] (by decide) rfl) hS (lv_sub hl [1, 2, 3, 4, 5] rfl)
        · have hw := hw.2 c_8
          refine lv_aload_n hx hb dX11_drifts_100 rfl (lv_at hl 1 rfl) ?_
          refine lv_iload_n hx hb dX11_drifts_101 rfl (lv_at hl 4 rfl) ?_
          refine lv_iload_n hx hb dX11_drifts_102 rfl (lv_at hl 2 rfl) ?_
          have hPc := hP.sub (ws' := []) [] rfl
          have hDc := hD.sub (ws' := []) [] (by decide) rfl
          have hFc := va_free (wc := []) hD hS hA [] rfl
          refine va_calli (va_runS (As := [.int x1]) (rest := [.int x3, .ref h]) ⟨hx, hb, hml, hown, hts⟩ (kX11_rowTo l dC dI cI cZ cO cW H.size x1 _ hw) (va_cwS 1 hts (gS gw_766 gw_767 gw_622 (gM gw_762)) rfl rfl rfl (by decide +kernel) ⟨Nat.le_of_ble_eq_true rfl, Nat.le_of_ble_eq_true rfl⟩) (ps_of hPc hK hDc) rfl rfl hl.1 rfl (lv_room (Nat.le_of_ble_eq_true rfl)) dX11_drifts_103 ⟨Nat.zero_le _, Nat.zero_le _⟩) hS (fun q _ h => hFc q h) hFc (fun r_9 u t H locs ht hvm hw hB hz1 hk1 hS => ?_)
          obtain ⟨hP, hD⟩ := af_join (wr := [(h_comes, .inl (cI, 64, .inl r_comes)), (h_leaves, .inl (cI, 64, .inl r_leaves)), (h, .inr (10, [.ref h_all, .ref h_has, .int f_size, .int f_next, .int f_where, .int f_token, .int f_number, .int f_sign, .int f_word, .int f_wrong, .int f_open, .int f_lines, .int f_acts, .ref h_line, .ref h_act, .ref h_pile, .ref h_comes, .ref h_leaves, .ref h_tried, .ref h_met])), (h_all, .inl (cI, 53700, .inl r_all))]) (w1 := []) hB ht hP hD [] [0, 1, 2, 3] rfl rfl (by decide) (by decide) hk1 hFc
          have hP : va_P (dC, dI) vwCl [(h_comes, .inl (cI, 64, .inl r_comes)), (h_leaves, .inl (cI, 64, .inl r_leaves)), (h, .inr (10, [.ref h_all, .ref h_has, .int f_size, .int f_next, .int f_where, .int f_token, .int f_number, .int f_sign, .int f_word, .int f_wrong, .int f_open, .int f_lines, .int f_acts, .ref h_line, .ref h_act, .ref h_pile, .ref h_comes, .ref h_leaves, .ref h_tried, .ref h_met])), (h_all, .inl (cI, 53700, .inl r_all))] _ := hP
          have hD : va_D A [(h_comes, .inl (cI, 64, .inl r_comes)), (h_leaves, .inl (cI, 64, .inl r_leaves)), (h, .inr (10, [.ref h_all, .ref h_has, .int f_size, .int f_next, .int f_where, .int f_token, .int f_number, .int f_sign, .int f_word, .int f_wrong, .int f_open, .int f_lines, .int f_acts, .ref h_line, .ref h_act, .ref h_pile, .ref h_comes, .ref h_leaves, .ref h_tried, .ref h_met])), (h_all, .inl (cI, 53700, .inl r_all))] := hD
          refine lv_iadd hx hb dX11_drifts_106 ?_
          refine lv_iload hx hb dX11_drifts_107 (lv_at hl 5 rfl) ?_
          refine lv_iload_n hx hb dX11_drifts_109 rfl (lv_at hl 2 rfl) ?_
          have hPc := hP.sub (ws' := []) [] rfl
          have hDc := hD.sub (ws' := []) [] (by decide) rfl
          have hFc := va_free (wc := []) hD hS hA [] rfl
          refine va_calli (va_runS (As := [.int x1]) (rest := [.int x4, .int (x3 + r_9), .ref h]) ⟨hx, hb, hml, hown, hts⟩ (kX11_columnTo l dC dI cI cZ cO cW H.size x1 _ hw) (va_cwS 1 hts (gS gw_768 gw_769 gw_622 (gM gw_763)) rfl rfl rfl (by decide +kernel) ⟨Nat.le_of_ble_eq_true rfl, Nat.le_of_ble_eq_true rfl⟩) (ps_of hPc hK hDc) rfl rfl hl.1 rfl (lv_room (Nat.le_of_ble_eq_true rfl)) dX11_drifts_110 ⟨Nat.zero_le _, Nat.zero_le _⟩) hS (fun q _ h => hFc q h) hFc (fun r_10 u t H locs ht hvm hw hB hz1 hk1 hS => ?_)
          obtain ⟨hP, hD⟩ := af_join (wr := [(h_comes, .inl (cI, 64, .inl r_comes)), (h_leaves, .inl (cI, 64, .inl r_leaves)), (h, .inr (10, [.ref h_all, .ref h_has, .int f_size, .int f_next, .int f_where, .int f_token, .int f_number, .int f_sign, .int f_word, .int f_wrong, .int f_open, .int f_lines, .int f_acts, .ref h_line, .ref h_act, .ref h_pile, .ref h_comes, .ref h_leaves, .ref h_tried, .ref h_met])), (h_all, .inl (cI, 53700, .inl r_all))]) (w1 := []) hB ht hP hD [] [0, 1, 2, 3] rfl rfl (by decide) (by decide) hk1 hFc
          have hP : va_P (dC, dI) vwCl [(h_comes, .inl (cI, 64, .inl r_comes)), (h_leaves, .inl (cI, 64, .inl r_leaves)), (h, .inr (10, [.ref h_all, .ref h_has, .int f_size, .int f_next, .int f_where, .int f_token, .int f_number, .int f_sign, .int f_word, .int f_wrong, .int f_open, .int f_lines, .int f_acts, .ref h_line, .ref h_act, .ref h_pile, .ref h_comes, .ref h_leaves, .ref h_tried, .ref h_met])), (h_all, .inl (cI, 53700, .inl r_all))] _ := hP
          have hD : va_D A [(h_comes, .inl (cI, 64, .inl r_comes)), (h_leaves, .inl (cI, 64, .inl r_leaves)), (h, .inr (10, [.ref h_all, .ref h_has, .int f_size, .int f_next, .int f_where, .int f_token, .int f_number, .int f_sign, .int f_word, .int f_wrong, .int f_open, .int f_lines, .int f_acts, .ref h_line, .ref h_act, .ref h_pile, .ref h_comes, .ref h_leaves, .ref h_tried, .ref h_met])), (h_all, .inl (cI, 53700, .inl r_all))] := hD
          refine lv_iadd hx hb dX11_drifts_113 ?_
          have hPc := hP.sub (ws' := [(h, .inr (10, [.ref h_all, .ref h_has, .int f_size, .int f_next, .int f_where, .int f_token, .int f_number, .int f_sign, .int f_word, .int f_wrong, .int f_open, .int f_lines, .int f_acts, .ref h_line, .ref h_act, .ref h_pile, .ref h_comes, .ref h_leaves, .ref h_tried, .ref h_met])), (h_all, .inl (cI, 53700, .inl r_all))]) [2, 3] rfl
          have hDc := hD.sub (ws' := [(h, .inr (10, [.ref h_all, .ref h_has, .int f_size, .int f_next, .int f_where, .int f_token, .int f_number, .int f_sign, .int f_word, .int f_wrong, .int f_open, .int f_lines, .int f_acts, .ref h_line, .ref h_act, .ref h_pile, .ref h_comes, .ref h_leaves, .ref h_tried, .ref h_met])), (h_all, .inl (cI, 53700, .inl r_all))]) [2, 3] (by decide) rfl
          have hFc := va_free (wc := [(h, .inr (10, [.ref h_all, .ref h_has, .int f_size, .int f_next, .int f_where, .int f_token, .int f_number, .int f_sign, .int f_word, .int f_wrong, .int f_open, .int f_lines, .int f_acts, .ref h_line, .ref h_act, .ref h_pile, .ref h_comes, .ref h_leaves, .ref h_tried, .ref h_met])), (h_all, .inl (cI, 53700, .inl r_all))]) hD hS hA [2, 3] rfl
          refine va_calli (va_runV (As := [.int (x3 + r_9), .int (x4 + r_10)]) (rest := []) ⟨hx, hb, hml, hown, hts⟩ (kX11_isSea l dC dI cI cZ cO cW h h_all h_has h_line h_act h_pile h_comes h_leaves h_tried h_met H.size f_size f_next f_where f_token f_number f_sign f_word f_wrong f_open f_lines f_acts r_all (x3 + r_9) (x4 + r_10) _ hw) (cwV 2 hts (gV gw_651 gw_652 gw_653 gw_622 (gM gw_630)) rfl rfl rfl (by decide +kernel) ⟨Nat.le_of_ble_eq_true rfl, Nat.le_of_ble_eq_true rfl⟩) (pv_of hPc hK hDc (va_recv hK hPc (ci := 10) (q0 := 0) rfl rfl)) rfl rfl hl.1 rfl (lv_room (Nat.le_of_ble_eq_true rfl)) dX11_drifts_114 ⟨Nat.zero_le _, Nat.zero_le _⟩) hS (fun q _ h => hFc q h) hFc (fun r_11 u t H locs ht hvm hw hB hz1 hk1 hS => ?_)
          obtain ⟨hP, hD⟩ := af_join (wr := [(h_comes, .inl (cI, 64, .inl r_comes)), (h_leaves, .inl (cI, 64, .inl r_leaves))]) (w1 := [(h, .inr (10, [.ref h_all, .ref h_has, .int f_size, .int f_next, .int f_where, .int f_token, .int f_number, .int f_sign, .int f_word, .int f_wrong, .int f_open, .int f_lines, .int f_acts, .ref h_line, .ref h_act, .ref h_pile, .ref h_comes, .ref h_leaves, .ref h_tried, .ref h_met])), (h_all, .inl (cI, 53700, .inl r_all))]) hB ht hP hD [2, 3] [0, 1] rfl rfl (by decide) (by decide) hk1 hFc
          have hP : va_P (dC, dI) vwCl [(h_comes, .inl (cI, 64, .inl r_comes)), (h_leaves, .inl (cI, 64, .inl r_leaves)), (h, .inr (10, [.ref h_all, .ref h_has, .int f_size, .int f_next, .int f_where, .int f_token, .int f_number, .int f_sign, .int f_word, .int f_wrong, .int f_open, .int f_lines, .int f_acts, .ref h_line, .ref h_act, .ref h_pile, .ref h_comes, .ref h_leaves, .ref h_tried, .ref h_met])), (h_all, .inl (cI, 53700, .inl r_all))] _ := hP
          have hD : va_D A [(h_comes, .inl (cI, 64, .inl r_comes)), (h_leaves, .inl (cI, 64, .inl r_leaves)), (h, .inr (10, [.ref h_all, .ref h_has, .int f_size, .int f_next, .int f_where, .int f_token, .int f_number, .int f_sign, .int f_word, .int f_wrong, .int f_open, .int f_lines, .int f_acts, .ref h_line, .ref h_act, .ref h_pile, .ref h_comes, .ref h_leaves, .ref h_tried, .ref h_met])), (h_all, .inl (cI, 53700, .inl r_all))] := hD
          refine lv_if_ne (tgt := 123) hx hb dX11_drifts_117 (by decide) (fun c_12 => ?_) (fun c_12 => ?_)
          · have hw := hw.1 c_12
            refine lv_aload_n hx hb dX11_drifts_123 rfl (lv_at hl 1 rfl) ?_
            refine va_get (D := (dC, dI)) (ci := 10) (v := .ref h_leaves) (C := RX11) (T := TX11) (N := 20) hx hb hts gu_X11 hown hK hP 2 rfl rfl 17 (by decide) (hts _ gw_616) (fun _ h9 => h9) rfl dX11_drifts_124 ?_
            refine lv_bipush (v := (8 : Int32)) hx hb dX11_drifts_127 (by decide) ?_
            refine lv_iload_n hx hb dX11_drifts_129 rfl (lv_at hl 4 rfl) ?_
            refine lv_imul hx hb dX11_drifts_130 ?_
            refine lv_iload hx hb dX11_drifts_131 (lv_at hl 5 rfl) ?_
            refine lv_iadd hx hb dX11_drifts_133 ?_
            refine lv_aload_n hx hb dX11_drifts_134 rfl (lv_at hl 1 rfl) ?_
            refine lv_iload_n hx hb dX11_drifts_135 rfl (lv_at hl 4 rfl) ?_
            refine lv_iload hx hb dX11_drifts_136 (lv_at hl 5 rfl) ?_
            refine lv_iconst (v := (1 : Int32)) hx hb dX11_drifts_138 (by decide) ?_
            have hPc := hP.sub (ws' := [(h, .inr (10, [.ref h_all, .ref h_has, .int f_size, .int f_next, .int f_where, .int f_token, .int f_number, .int f_sign, .int f_word, .int f_wrong, .int f_open, .int f_lines, .int f_acts, .ref h_line, .ref h_act, .ref h_pile, .ref h_comes, .ref h_leaves, .ref h_tried, .ref h_met])), (h_all, .inl (cI, 53700, .inl r_all))]) [2, 3] rfl
            have hDc := hD.sub (ws' := [(h, .inr (10, [.ref h_all, .ref h_has, .int f_size, .int f_next, .int f_where, .int f_token, .int f_number, .int f_sign, .int f_word, .int f_wrong, .int f_open, .int f_lines, .int f_acts, .ref h_line, .ref h_act, .ref h_pile, .ref h_comes, .ref h_leaves, .ref h_tried, .ref h_met])), (h_all, .inl (cI, 53700, .inl r_all))]) [2, 3] (by decide) rfl
            have hFc := va_free (wc := [(h, .inr (10, [.ref h_all, .ref h_has, .int f_size, .int f_next, .int f_where, .int f_token, .int f_number, .int f_sign, .int f_word, .int f_wrong, .int f_open, .int f_lines, .int f_acts, .ref h_line, .ref h_act, .ref h_pile, .ref h_comes, .ref h_leaves, .ref h_tried, .ref h_met])), (h_all, .inl (cI, 53700, .inl r_all))]) hD hS hA [2, 3] rfl
            refine va_calli (va_runV (As := [.int x3, .int x4, .int (1 : Int32)]) (rest := [.int (((8 : Int32) * x3) + x4), .ref h_leaves]) ⟨hx, hb, hml, hown, hts⟩ (kX11_of l dC dI cI cZ cO cW h h_all h_has h_line h_act h_pile h_comes h_leaves h_tried h_met H.size f_size f_next f_where f_token f_number f_sign f_word f_wrong f_open f_lines f_acts r_all x3 x4 (1 : Int32) _ hw) (cwV 3 hts (gV gw_634 gw_635 gw_636 gw_622 (gM gw_628)) rfl rfl rfl (by decide +kernel) ⟨Nat.le_of_ble_eq_true rfl, Nat.le_of_ble_eq_true rfl⟩) (pv_of hPc hK hDc (va_recv hK hPc (ci := 10) (q0 := 0) rfl rfl)) rfl rfl hl.1 rfl (lv_room (Nat.le_of_ble_eq_true rfl)) dX11_drifts_139 ⟨Nat.zero_le _, Nat.zero_le _⟩) hS (fun q _ h => hFc q h) hFc (fun r_13 u t H locs ht hvm hw hB hz1 hk1 hS => ?_)
            obtain ⟨hP, hD⟩ := af_join (wr := [(h_comes, .inl (cI, 64, .inl r_comes)), (h_leaves, .inl (cI, 64, .inl r_leaves))]) (w1 := [(h, .inr (10, [.ref h_all, .ref h_has, .int f_size, .int f_next, .int f_where, .int f_token, .int f_number, .int f_sign, .int f_word, .int f_wrong, .int f_open, .int f_lines, .int f_acts, .ref h_line, .ref h_act, .ref h_pile, .ref h_comes, .ref h_leaves, .ref h_tried, .ref h_met])), (h_all, .inl (cI, 53700, .inl r_all))]) hB ht hP hD [2, 3] [0, 1] rfl rfl (by decide) (by decide) hk1 hFc
            have hP : va_P (dC, dI) vwCl [(h_comes, .inl (cI, 64, .inl r_comes)), (h_leaves, .inl (cI, 64, .inl r_leaves)), (h, .inr (10, [.ref h_all, .ref h_has, .int f_size, .int f_next, .int f_where, .int f_token, .int f_number, .int f_sign, .int f_word, .int f_wrong, .int f_open, .int f_lines, .int f_acts, .ref h_line, .ref h_act, .ref h_pile, .ref h_comes, .ref h_leaves, .ref h_tried, .ref h_met])), (h_all, .inl (cI, 53700, .inl r_all))] _ := hP
            have hD : va_D A [(h_comes, .inl (cI, 64, .inl r_comes)), (h_leaves, .inl (cI, 64, .inl r_leaves)), (h, .inr (10, [.ref h_all, .ref h_has, .int f_size, .int f_next, .int f_where, .int f_token, .int f_number, .int f_sign, .int f_word, .int f_wrong, .int f_open, .int f_lines, .int f_acts, .ref h_line, .ref h_act, .ref h_pile, .ref h_comes, .ref h_leaves, .ref h_tried, .ref h_met])), (h_all, .inl (cI, 53700, .inl r_all))] := hD
            refine lv_iload_n hx hb dX11_drifts_142 rfl (lv_at hl 3 rfl) ?_
            refine lv_imul hx hb dX11_drifts_143 ?_
            refine lv_sipush (v := (200 : Int32)) hx hb dX11_drifts_144 (by decide) ?_
            refine lv_idiv hx hb dX11_drifts_147 (by decide) ?_
            obtain ⟨h_14, hw⟩ := hw
            refine va_iast hx hb hK hP hD hS 1 0 rfl rfl h_14 dX11_drifts_148 (fun H locs hP hD hS => ?_)
            have hP : va_P (dC, dI) vwCl [(h_comes, .inl (cI, 64, .inl r_comes)), (h_leaves, .inl (cI, 64, .inl (upd r_leaves (((8 : Int32) * x3) + x4).toNatClampNeg ((r_13 * x2) / (200 : Int32))))), (h, .inr (10, [.ref h_all, .ref h_has, .int f_size, .int f_next, .int f_where, .int f_token, .int f_number, .int f_sign, .int f_word, .int f_wrong, .int f_open, .int f_lines, .int f_acts, .ref h_line, .ref h_act, .ref h_pile, .ref h_comes, .ref h_leaves, .ref h_tried, .ref h_met])), (h_all, .inl (cI, 53700, .inl r_all))] _ := hP
            have hD : va_D A [(h_comes, .inl (cI, 64, .inl r_comes)), (h_leaves, .inl (cI, 64, .inl (upd r_leaves (((8 : Int32) * x3) + x4).toNatClampNeg ((r_13 * x2) / (200 : Int32))))), (h, .inr (10, [.ref h_all, .ref h_has, .int f_size, .int f_next, .int f_where, .int f_token, .int f_number, .int f_sign, .int f_word, .int f_wrong, .int f_open, .int f_lines, .int f_acts, .ref h_line, .ref h_act, .ref h_pile, .ref h_comes, .ref h_leaves, .ref h_tried, .ref h_met])), (h_all, .inl (cI, 53700, .inl r_all))] := hD
            refine lv_aload_n hx hb dX11_drifts_149 rfl (lv_at hl 1 rfl) ?_
            refine va_get (D := (dC, dI)) (ci := 10) (v := .ref h_comes) (C := RX11) (T := TX11) (N := 20) hx hb hts gu_X11 hown hK hP 2 rfl rfl 16 (by decide) (hts _ gw_615) (fun _ h9 => h9) rfl dX11_drifts_150 ?_
            refine lv_iload hx hb dX11_drifts_153 (lv_at hl 0 rfl) ?_
            refine lv_aload_n hx hb dX11_drifts_155 rfl (lv_at hl 1 rfl) ?_
            refine va_get (D := (dC, dI)) (ci := 10) (v := .ref h_leaves) (C := RX11) (T := TX11) (N := 20) hx hb hts gu_X11 hown hK hP 2 rfl rfl 17 (by decide) (hts _ gw_616) (fun _ h9 => h9) rfl dX11_drifts_156 ?_
            refine lv_bipush (v := (8 : Int32)) hx hb dX11_drifts_159 (by decide) ?_
            refine lv_iload_n hx hb dX11_drifts_161 rfl (lv_at hl 4 rfl) ?_
            refine lv_imul hx hb dX11_drifts_162 ?_
            refine lv_iload hx hb dX11_drifts_163 (lv_at hl 5 rfl) ?_
            refine lv_iadd hx hb dX11_drifts_165 ?_
            obtain ⟨h_15, hw⟩ := hw
            refine va_iald hx hb hK hP 1 0 rfl rfl h_15 dX11_drifts_166 ?_
            obtain ⟨h_16, hw⟩ := hw
            refine va_iast hx hb hK hP hD hS 0 0 rfl rfl h_16 dX11_drifts_167 (fun H locs hP hD hS => ?_)
            have hP : va_P (dC, dI) vwCl [(h_comes, .inl (cI, 64, .inl (upd r_comes ((((8 : Int32) * (x3 + r_3)) + x4) + r_4).toNatClampNeg ((upd r_leaves (((8 : Int32) * x3) + x4).toNatClampNeg ((r_13 * x2) / (200 : Int32))) (((8 : Int32) * x3) + x4).toNatClampNeg)))), (h_leaves, .inl (cI, 64, .inl (upd r_leaves (((8 : Int32) * x3) + x4).toNatClampNeg ((r_13 * x2) / (200 : Int32))))), (h, .inr (10, [.ref h_all, .ref h_has, .int f_size, .int f_next, .int f_where, .int f_token, .int f_number, .int f_sign, .int f_word, .int f_wrong, .int f_open, .int f_lines, .int f_acts, .ref h_line, .ref h_act, .ref h_pile, .ref h_comes, .ref h_leaves, .ref h_tried, .ref h_met])), (h_all, .inl (cI, 53700, .inl r_all))] _ := hP
            have hD : va_D A [(h_comes, .inl (cI, 64, .inl (upd r_comes ((((8 : Int32) * (x3 + r_3)) + x4) + r_4).toNatClampNeg ((upd r_leaves (((8 : Int32) * x3) + x4).toNatClampNeg ((r_13 * x2) / (200 : Int32))) (((8 : Int32) * x3) + x4).toNatClampNeg)))), (h_leaves, .inl (cI, 64, .inl (upd r_leaves (((8 : Int32) * x3) + x4).toNatClampNeg ((r_13 * x2) / (200 : Int32))))), (h, .inr (10, [.ref h_all, .ref h_has, .int f_size, .int f_next, .int f_where, .int f_token, .int f_number, .int f_sign, .int f_word, .int f_wrong, .int f_open, .int f_lines, .int f_acts, .ref h_line, .ref h_act, .ref h_pile, .ref h_comes, .ref h_leaves, .ref h_tried, .ref h_met])), (h_all, .inl (cI, 53700, .inl r_all))] := hD
            exact tX11_drifts_168 hC hK hA ih x1 x2 x3 x4 r_all (upd r_comes ((((8 : Int32) * (x3 + r_3)) + x4) + r_4).toNatClampNeg ((upd r_leaves (((8 : Int32) * x3) + x4).toNatClampNeg ((r_13 * x2) / (200 : Int32))) (((8 : Int32) * x3) + x4).toNatClampNeg)) (upd r_leaves (((8 : Int32) * x3) + x4).toNatClampNeg ((r_13 * x2) / (200 : Int32))) _ _ ls hw (hP.sub [2, 3, 0, 1] rfl) (hD.sub [2, 3, 0, 1] (by decide) rfl) hS (lv_sub hl [1, 2, 3, 4, 5] rfl)
          · have hw := hw.2 c_12
            refine lv_goto (tgt := 168) hx hb dX11_drifts_120 (by decide) ?_
            exact tX11_drifts_168 hC hK hA ih x1 x2 x3 x4 r_all r_comes r_leaves _ _ ls hw (hP.sub [2, 3, 0, 1] rfl) (hD.sub [2, 3, 0, 1] (by decide) rfl) hS (lv_sub hl [1, 2, 3, 4, 5] rfl)
set_option maxHeartbeats 4000000 in
set_option maxRecDepth 100000 in
theorem tX11_drifts_273 {p : Program} {l : Launch} {e : Env} {s : State} {m : MethodId} {args : Array Value} {below : List Frame} {meth : Method} {c : Code} {dC : Nat → ClassId} {dI : Nat → Nat → Nat} {cI cZ cO cW : ClassId} {A : Nat → Prop} {h h_all h_has h_line h_act h_pile h_comes h_leaves h_tried h_met : Nat} {f_size f_next f_where f_token f_number f_sign f_word f_wrong f_open f_lines f_acts : Int32} {Q : (Nat → Int32) → (Nat → Int32) → (Nat → Int32) → Prop} {K_182 : Int32 → (Nat → Int32) → (Nat → Int32) → (Nat → Int32) → Prop} (hC : Cx p s m args meth c cX11_drifts none 6 GW RX11) (hK : va_K (dC, dI) vwCl (tysA cI cZ cO cW) s) (hA : ∀ q : Nat, s.heap.size ≤ q → A q) (hk_182 : ∀ (x3 : Int32) (r_all : (Nat → Int32)) (r_comes : (Nat → Int32)) (r_leaves : (Nat → Int32)) (H : Heap) (locs : List Loc) (ls : Array Slot), K_182 x3 r_all r_comes r_leaves → va_P (dC, dI) vwCl (vX11_drifts cI cZ h h_all h_has h_line h_act h_pile h_comes h_leaves h_tried h_met f_size f_next f_where f_token f_number f_sign f_word f_wrong f_open f_lines f_acts r_all r_comes r_leaves) H → va_D A (vX11_drifts cI cZ h h_all h_has h_line h_act h_pile h_comes h_leaves h_tried h_met f_size f_next f_where f_token f_number f_sign f_word f_wrong f_open f_lines f_acts r_all r_comes r_leaves) → va_S A s.heap H locs → lv_has ls 6 [(0, .ref h), (3, .int x3)] → W p l e rmX11_drifts s m args below meth c H locs 0 0 (MQ below (qX11_drifts dC dI cI cZ cO cW h h_all h_has h_line h_act h_pile h_comes h_leaves h_tried h_met f_size f_next f_where f_token f_number f_sign f_word f_wrong f_open f_lines f_acts Q A) args s 0 0 A) (F0 m 182 ls [])) :
    ∀ (x3 : Int32) (r_all : (Nat → Int32)) (r_comes : (Nat → Int32)) (r_leaves : (Nat → Int32)) (H : Heap) (locs : List Loc) (ls : Array Slot), wX11_drifts_273 Q K_182 x3 r_all r_comes r_leaves → va_P (dC, dI) vwCl (vX11_drifts cI cZ h h_all h_has h_line h_act h_pile h_comes h_leaves h_tried h_met f_size f_next f_where f_token f_number f_sign f_word f_wrong f_open f_lines f_acts r_all r_comes r_leaves) H → va_D A (vX11_drifts cI cZ h h_all h_has h_line h_act h_pile h_comes h_leaves h_tried h_met f_size f_next f_where f_token f_number f_sign f_word f_wrong f_open f_lines f_acts r_all r_comes r_leaves) → va_S A s.heap H locs → lv_has ls 6 [(0, .ref h), (3, .int x3)] → W p l e rmX11_drifts s m args below meth c H locs 0 0 (MQ below (qX11_drifts dC dI cI cZ cO cW h h_all h_has h_line h_act h_pile h_comes h_leaves h_tried h_met f_size f_next f_where f_token f_number f_sign f_word f_wrong f_open f_lines f_acts Q A) args s 0 0 A) (F0 m 273 ls []) := by
  obtain ⟨hx, hb, hr, hml, hown, hts, hlocks⟩ := id hC
  intro x3 r_all r_comes r_leaves H locs ls hw hP hD hS hl
  refine lv_iinc (v := (x3 + (1 : Int32))) (lv' := [(3, .int (x3 + (1 : Int32))), (0, .ref h)]) hx hb dX11_drifts_273 hl (k := 1) rfl rfl (by decide) rfl (fun ls hl => ?_)
  refine lv_goto (tgt := 182) hx hb dX11_drifts_276 (by decide) ?_
  exact hk_182 (x3 + (1 : Int32)) r_all r_comes r_leaves _ _ ls hw (hP.sub [0, 1, 2, 3] rfl) (hD.sub [0, 1, 2, 3] (by decide) rfl) hS (lv_sub hl [1, 0] rfl)
set_option maxHeartbeats 4000000 in
set_option maxRecDepth 100000 in
theorem tX11_drifts_182 {p : Program} {l : Launch} {e : Env} {s : State} {m : MethodId} {args : Array Value} {below : List Frame} {meth : Method} {c : Code} {dC : Nat → ClassId} {dI : Nat → Nat → Nat} {cI cZ cO cW : ClassId} {A : Nat → Prop} {h h_all h_has h_line h_act h_pile h_comes h_leaves h_tried h_met : Nat} {f_size f_next f_where f_token f_number f_sign f_word f_wrong f_open f_lines f_acts : Int32} {Q : (Nat → Int32) → (Nat → Int32) → (Nat → Int32) → Prop}  (hC : Cx p s m args meth c cX11_drifts none 6 GW RX11) (hK : va_K (dC, dI) vwCl (tysA cI cZ cO cW) s) (hA : ∀ q : Nat, s.heap.size ≤ q → A q) :
    ∀ (n : Nat) (x3 : Int32) (r_all : (Nat → Int32)) (r_comes : (Nat → Int32)) (r_leaves : (Nat → Int32)) (H : Heap) (locs : List Loc) (ls : Array Slot), wX11_drifts_182 Q  n x3 r_all r_comes r_leaves → va_P (dC, dI) vwCl (vX11_drifts cI cZ h h_all h_has h_line h_act h_pile h_comes h_leaves h_tried h_met f_size f_next f_where f_token f_number f_sign f_word f_wrong f_open f_lines f_acts r_all r_comes r_leaves) H → va_D A (vX11_drifts cI cZ h h_all h_has h_line h_act h_pile h_comes h_leaves h_tried h_met f_size f_next f_where f_token f_number f_sign f_word f_wrong f_open f_lines f_acts r_all r_comes r_leaves) → va_S A s.heap H locs → lv_has ls 6 [(0, .ref h), (3, .int x3)] → W p l e rmX11_drifts s m args below meth c H locs 0 0 (MQ below (qX11_drifts dC dI cI cZ cO cW h h_all h_has h_line h_act h_pile h_comes h_leaves h_tried h_met f_size f_next f_where f_token f_number f_sign f_word f_wrong f_open f_lines f_acts Q A) args s 0 0 A) (F0 m 182 ls []) := by
  obtain ⟨hx, hb, hr, hml, hown, hts, hlocks⟩ := id hC
  intro n
  induction n with
  | zero =>
    intro  x3 r_all r_comes r_leaves H locs ls hw
    exact hw.elim
  | succ n ih =>
    intro  x3 r_all r_comes r_leaves H locs ls hw hP hD hS hl
    refine lv_iload_n hx hb dX11_drifts_182 rfl (lv_at hl 1 rfl) ?_
    refine lv_bipush (v := (64 : Int32)) hx hb dX11_drifts_183 (by decide) ?_
    refine lv_icmp_ge (tgt := 279) hx hb dX11_drifts_185 (by decide) (fun c_17 => ?_) (fun c_17 => ?_)
    · have hw := hw.1 c_17
      have hP9 := hP.sub (ws' := (vX11_drifts cI cZ h h_all h_has h_line h_act h_pile h_comes h_leaves h_tried h_met f_size f_next f_where f_token f_number f_sign f_word f_wrong f_open f_lines f_acts r_all r_comes r_leaves)) [0, 1, 2, 3] rfl
      have hD9 := hD.sub (ws' := (vX11_drifts cI cZ h h_all h_has h_line h_act h_pile h_comes h_leaves h_tried h_met f_size f_next f_where f_token f_number f_sign f_word f_wrong f_open f_lines f_acts r_all r_comes r_leaves)) [0, 1, 2, 3] (by decide) rfl
      exact W.vret hx hb hr (fun t ht hW => ⟨⟨(r_all, r_comes, r_leaves), rfl, hw, by rw [ht]; exact hP9, va_K.moved hW.alike hK, hD9⟩, hS.F ht⟩) hS.2.2 dX11_drifts_279
    · have hw := hw.2 c_17
      refine lv_bipush (v := (40 : Int32)) hx hb dX11_drifts_188 (by decide) ?_
      refine lv_iconst (v := (5 : Int32)) hx hb dX11_drifts_190 (by decide) ?_
      refine lv_iload_n hx hb dX11_drifts_191 rfl (lv_at hl 1 rfl) ?_
      refine lv_imul hx hb dX11_drifts_192 ?_
      refine lv_iadd hx hb dX11_drifts_193 ?_
      refine lv_istore (lv' := [(4, .int ((40 : Int32) + ((5 : Int32) * x3))), (0, .ref h), (3, .int x3)]) hx hb dX11_drifts_194 hl (by decide) rfl (fun ls hl => ?_)
      refine lv_aload_n hx hb dX11_drifts_196 rfl (lv_at hl 1 rfl) ?_
      refine va_get (D := (dC, dI)) (ci := 10) (v := .ref h_all) (C := RX11) (T := TX11) (N := 20) hx hb hts gu_X11 hown hK hP 0 rfl rfl 0 (by decide) (hts _ gw_607) (fun _ h9 => h9) rfl dX11_drifts_197 ?_
      refine lv_iload hx hb dX11_drifts_200 (lv_at hl 0 rfl) ?_
      refine lv_iconst (v := (1 : Int32)) hx hb dX11_drifts_202 (by decide) ?_
      refine lv_iadd hx hb dX11_drifts_203 ?_
      refine lv_dup2_11 hx hb dX11_drifts_204 rfl rfl ?_
      obtain ⟨h_18, hw⟩ := hw
      refine va_iald hx hb hK hP 1 0 rfl rfl h_18 dX11_drifts_205 ?_
      refine lv_aload_n hx hb dX11_drifts_206 rfl (lv_at hl 1 rfl) ?_
      refine va_get (D := (dC, dI)) (ci := 10) (v := .ref h_comes) (C := RX11) (T := TX11) (N := 20) hx hb hts gu_X11 hown hK hP 0 rfl rfl 16 (by decide) (hts _ gw_615) (fun _ h9 => h9) rfl dX11_drifts_207 ?_
      refine lv_iload_n hx hb dX11_drifts_210 rfl (lv_at hl 2 rfl) ?_
      obtain ⟨h_19, hw⟩ := hw
      refine va_iald hx hb hK hP 2 0 rfl rfl h_19 dX11_drifts_211 ?_
      refine lv_aload_n hx hb dX11_drifts_212 rfl (lv_at hl 1 rfl) ?_
      refine va_get (D := (dC, dI)) (ci := 10) (v := .ref h_leaves) (C := RX11) (T := TX11) (N := 20) hx hb hts gu_X11 hown hK hP 0 rfl rfl 17 (by decide) (hts _ gw_616) (fun _ h9 => h9) rfl dX11_drifts_213 ?_
      refine lv_iload_n hx hb dX11_drifts_216 rfl (lv_at hl 2 rfl) ?_
      obtain ⟨h_20, hw⟩ := hw
      refine va_iald hx hb hK hP 3 0 rfl rfl h_20 dX11_drifts_217 ?_
      refine lv_isub hx hb dX11_drifts_218 ?_
      refine lv_iadd hx hb dX11_drifts_219 ?_
      obtain ⟨h_21, hw⟩ := hw
      refine va_iast hx hb hK hP hD hS 1 0 rfl rfl h_21 dX11_drifts_220 (fun H locs hP hD hS => ?_)
      have hP : va_P (dC, dI) vwCl [(h, .inr (10, [.ref h_all, .ref h_has, .int f_size, .int f_next, .int f_where, .int f_token, .int f_number, .int f_sign, .int f_word, .int f_wrong, .int f_open, .int f_lines, .int f_acts, .ref h_line, .ref h_act, .ref h_pile, .ref h_comes, .ref h_leaves, .ref h_tried, .ref h_met])), (h_all, .inl (cI, 53700, .inl (upd r_all (((40 : Int32) + ((5 : Int32) * x3)) + (1 : Int32)).toNatClampNeg ((r_all (((40 : Int32) + ((5 : Int32) * x3)) + (1 : Int32)).toNatClampNeg) + ((r_comes x3.toNatClampNeg) - (r_leaves x3.toNatClampNeg)))))), (h_comes, .inl (cI, 64, .inl r_comes)), (h_leaves, .inl (cI, 64, .inl r_leaves))] _ := hP
      have hD : va_D A [(h, .inr (10, [.ref h_all, .ref h_has, .int f_size, .int f_next, .int f_where, .int f_token, .int f_number, .int f_sign, .int f_word, .int f_wrong, .int f_open, .int f_lines, .int f_acts, .ref h_line, .ref h_act, .ref h_pile, .ref h_comes, .ref h_leaves, .ref h_tried, .ref h_met])), (h_all, .inl (cI, 53700, .inl (upd r_all (((40 : Int32) + ((5 : Int32) * x3)) + (1 : Int32)).toNatClampNeg ((r_all (((40 : Int32) + ((5 : Int32) * x3)) + (1 : Int32)).toNatClampNeg) + ((r_comes x3.toNatClampNeg) - (r_leaves x3.toNatClampNeg)))))), (h_comes, .inl (cI, 64, .inl r_comes)), (h_leaves, .inl (cI, 64, .inl r_leaves))] := hD
      refine lv_aload_n hx hb dX11_drifts_221 rfl (lv_at hl 1 rfl) ?_
      refine va_get (D := (dC, dI)) (ci := 10) (v := .ref h_all) (C := RX11) (T := TX11) (N := 20) hx hb hts gu_X11 hown hK hP 0 rfl rfl 0 (by decide) (hts _ gw_607) (fun _ h9 => h9) rfl dX11_drifts_222 ?_
      refine lv_iload hx hb dX11_drifts_225 (lv_at hl 0 rfl) ?_
      refine lv_iconst (v := (1 : Int32)) hx hb dX11_drifts_227 (by decide) ?_
      refine lv_iadd hx hb dX11_drifts_228 ?_
      obtain ⟨h_22, hw⟩ := hw
      refine va_iald hx hb hK hP 1 0 rfl rfl h_22 dX11_drifts_229 ?_
      refine lv_bipush (v := (100 : Int32)) hx hb dX11_drifts_230 (by decide) ?_
      refine lv_icmp_gt (tgt := 238) hx hb dX11_drifts_232 (by decide) (fun c_23 => ?_) (fun c_23 => ?_)
      · have hw := hw.1 c_23
        refine lv_aload_n hx hb dX11_drifts_238 rfl (lv_at hl 1 rfl) ?_
        refine va_get (D := (dC, dI)) (ci := 10) (v := .ref h_all) (C := RX11) (T := TX11) (N := 20) hx hb hts gu_X11 hown hK hP 0 rfl rfl 0 (by decide) (hts _ gw_607) (fun _ h9 => h9) rfl dX11_drifts_239 ?_
        refine lv_iload hx hb dX11_drifts_242 (lv_at hl 0 rfl) ?_
        refine lv_iconst (v := (2 : Int32)) hx hb dX11_drifts_244 (by decide) ?_
        refine lv_iadd hx hb dX11_drifts_245 ?_
        refine lv_dup2_11 hx hb dX11_drifts_246 rfl rfl ?_
        obtain ⟨h_24, hw⟩ := hw
        refine va_iald hx hb hK hP 1 0 rfl rfl h_24 dX11_drifts_247 ?_
        refine lv_aload_n hx hb dX11_drifts_248 rfl (lv_at hl 1 rfl) ?_
        refine va_get (D := (dC, dI)) (ci := 10) (v := .ref h_all) (C := RX11) (T := TX11) (N := 20) hx hb hts gu_X11 hown hK hP 0 rfl rfl 0 (by decide) (hts _ gw_607) (fun _ h9 => h9) rfl dX11_drifts_249 ?_
        refine lv_iload hx hb dX11_drifts_252 (lv_at hl 0 rfl) ?_
        refine lv_iconst (v := (1 : Int32)) hx hb dX11_drifts_254 (by decide) ?_
        refine lv_iadd hx hb dX11_drifts_255 ?_
        obtain ⟨h_25, hw⟩ := hw
        refine va_iald hx hb hK hP 1 0 rfl rfl h_25 dX11_drifts_256 ?_
        refine lv_bipush (v := (100 : Int32)) hx hb dX11_drifts_257 (by decide) ?_
        refine lv_isub hx hb dX11_drifts_259 ?_
        refine lv_iadd hx hb dX11_drifts_260 ?_
        obtain ⟨h_26, hw⟩ := hw
        refine va_iast hx hb hK hP hD hS 1 0 rfl rfl h_26 dX11_drifts_261 (fun H locs hP hD hS => ?_)
        have hP : va_P (dC, dI) vwCl [(h, .inr (10, [.ref h_all, .ref h_has, .int f_size, .int f_next, .int f_where, .int f_token, .int f_number, .int f_sign, .int f_word, .int f_wrong, .int f_open, .int f_lines, .int f_acts, .ref h_line, .ref h_act, .ref h_pile, .ref h_comes, .ref h_leaves, .ref h_tried, .ref h_met])), (h_all, .inl (cI, 53700, .inl (upd (upd r_all (((40 : Int32) + ((5 : Int32) * x3)) + (1 : Int32)).toNatClampNeg ((r_all (((40 : Int32) + ((5 : Int32) * x3)) + (1 : Int32)).toNatClampNeg) + ((r_comes x3.toNatClampNeg) - (r_leaves x3.toNatClampNeg)))) (((40 : Int32) + ((5 : Int32) * x3)) + (2 : Int32)).toNatClampNeg (((upd r_all (((40 : Int32) + ((5 : Int32) * x3)) + (1 : Int32)).toNatClampNeg ((r_all (((40 : Int32) + ((5 : Int32) * x3)) + (1 : Int32)).toNatClampNeg) + ((r_comes x3.toNatClampNeg) - (r_leaves x3.toNatClampNeg)))) (((40 : Int32) + ((5 : Int32) * x3)) + (2 : Int32)).toNatClampNeg) + (((upd r_all (((40 : Int32) + ((5 : Int32) * x3)) + (1 : Int32)).toNatClampNeg ((r_all (((40 : Int32) + ((5 : Int32) * x3)) + (1 : Int32)).toNatClampNeg) + ((r_comes x3.toNatClampNeg) - (r_leaves x3.toNatClampNeg)))) (((40 : Int32) + ((5 : Int32) * x3)) + (1 : Int32)).toNatClampNeg) - (100 : Int32)))))), (h_comes, .inl (cI, 64, .inl r_comes)), (h_leaves, .inl (cI, 64, .inl r_leaves))] _ := hP
        have hD : va_D A [(h, .inr (10, [.ref h_all, .ref h_has, .int f_size, .int f_next, .int f_where, .int f_token, .int f_number, .int f_sign, .int f_word, .int f_wrong, .int f_open, .int f_lines, .int f_acts, .ref h_line, .ref h_act, .ref h_pile, .ref h_comes, .ref h_leaves, .ref h_tried, .ref h_met])), (h_all, .inl (cI, 53700, .inl (upd (upd r_all (((40 : Int32) + ((5 : Int32) * x3)) + (1 : Int32)).toNatClampNeg ((r_all (((40 : Int32) + ((5 : Int32) * x3)) + (1 : Int32)).toNatClampNeg) + ((r_comes x3.toNatClampNeg) - (r_leaves x3.toNatClampNeg)))) (((40 : Int32) + ((5 : Int32) * x3)) + (2 : Int32)).toNatClampNeg (((upd r_all (((40 : Int32) + ((5 : Int32) * x3)) + (1 : Int32)).toNatClampNeg ((r_all (((40 : Int32) + ((5 : Int32) * x3)) + (1 : Int32)).toNatClampNeg) + ((r_comes x3.toNatClampNeg) - (r_leaves x3.toNatClampNeg)))) (((40 : Int32) + ((5 : Int32) * x3)) + (2 : Int32)).toNatClampNeg) + (((upd r_all (((40 : Int32) + ((5 : Int32) * x3)) + (1 : Int32)).toNatClampNeg ((r_all (((40 : Int32) + ((5 : Int32) * x3)) + (1 : Int32)).toNatClampNeg) + ((r_comes x3.toNatClampNeg) - (r_leaves x3.toNatClampNeg)))) (((40 : Int32) + ((5 : Int32) * x3)) + (1 : Int32)).toNatClampNeg) - (100 : Int32)))))), (h_comes, .inl (cI, 64, .inl r_comes)), (h_leaves, .inl (cI, 64, .inl r_leaves))] := hD
        refine lv_aload_n hx hb dX11_drifts_262 rfl (lv_at hl 1 rfl) ?_
        refine va_get (D := (dC, dI)) (ci := 10) (v := .ref h_all) (C := RX11) (T := TX11) (N := 20) hx hb hts gu_X11 hown hK hP 0 rfl rfl 0 (by decide) (hts _ gw_607) (fun _ h9 => h9) rfl dX11_drifts_263 ?_
        refine lv_iload hx hb dX11_drifts_266 (lv_at hl 0 rfl) ?_
        refine lv_iconst (v := (1 : Int32)) hx hb dX11_drifts_268 (by decide) ?_
        refine lv_iadd hx hb dX11_drifts_269 ?_
        refine lv_bipush (v := (100 : Int32)) hx hb dX11_drifts_270 (by decide) ?_
        obtain ⟨h_27, hw⟩ := hw
        refine va_iast hx hb hK hP hD hS 1 0 rfl rfl h_27 dX11_drifts_272 (fun H locs hP hD hS => ?_)
        have hP : va_P (dC, dI) vwCl [(h, .inr (10, [.ref h_all, .ref h_has, .int f_size, .int f_next, .int f_where, .int f_token, .int f_number, .int f_sign, .int f_word, .int f_wrong, .int f_open, .int f_lines, .int f_acts, .ref h_line, .ref h_act, .ref h_pile, .ref h_comes, .ref h_leaves, .ref h_tried, .ref h_met])), (h_all, .inl (cI, 53700, .inl (upd (upd (upd r_all (((40 : Int32) + ((5 : Int32) * x3)) + (1 : Int32)).toNatClampNeg ((r_all (((40 : Int32) + ((5 : Int32) * x3)) + (1 : Int32)).toNatClampNeg) + ((r_comes x3.toNatClampNeg) - (r_leaves x3.toNatClampNeg)))) (((40 : Int32) + ((5 : Int32) * x3)) + (2 : Int32)).toNatClampNeg (((upd r_all (((40 : Int32) + ((5 : Int32) * x3)) + (1 : Int32)).toNatClampNeg ((r_all (((40 : Int32) + ((5 : Int32) * x3)) + (1 : Int32)).toNatClampNeg) + ((r_comes x3.toNatClampNeg) - (r_leaves x3.toNatClampNeg)))) (((40 : Int32) + ((5 : Int32) * x3)) + (2 : Int32)).toNatClampNeg) + (((upd r_all (((40 : Int32) + ((5 : Int32) * x3)) + (1 : Int32)).toNatClampNeg ((r_all (((40 : Int32) + ((5 : Int32) * x3)) + (1 : Int32)).toNatClampNeg) + ((r_comes x3.toNatClampNeg) - (r_leaves x3.toNatClampNeg)))) (((40 : Int32) + ((5 : Int32) * x3)) + (1 : Int32)).toNatClampNeg) - (100 : Int32)))) (((40 : Int32) + ((5 : Int32) * x3)) + (1 : Int32)).toNatClampNeg (100 : Int32)))), (h_comes, .inl (cI, 64, .inl r_comes)), (h_leaves, .inl (cI, 64, .inl r_leaves))] _ := hP
        have hD : va_D A [(h, .inr (10, [.ref h_all, .ref h_has, .int f_size, .int f_next, .int f_where, .int f_token, .int f_number, .int f_sign, .int f_word, .int f_wrong, .int f_open, .int f_lines, .int f_acts, .ref h_line, .ref h_act, .ref h_pile, .ref h_comes, .ref h_leaves, .ref h_tried, .ref h_met])), (h_all, .inl (cI, 53700, .inl (upd (upd (upd r_all (((40 : Int32) + ((5 : Int32) * x3)) + (1 : Int32)).toNatClampNeg ((r_all (((40 : Int32) + ((5 : Int32) * x3)) + (1 : Int32)).toNatClampNeg) + ((r_comes x3.toNatClampNeg) - (r_leaves x3.toNatClampNeg)))) (((40 : Int32) + ((5 : Int32) * x3)) + (2 : Int32)).toNatClampNeg (((upd r_all (((40 : Int32) + ((5 : Int32) * x3)) + (1 : Int32)).toNatClampNeg ((r_all (((40 : Int32) + ((5 : Int32) * x3)) + (1 : Int32)).toNatClampNeg) + ((r_comes x3.toNatClampNeg) - (r_leaves x3.toNatClampNeg)))) (((40 : Int32) + ((5 : Int32) * x3)) + (2 : Int32)).toNatClampNeg) + (((upd r_all (((40 : Int32) + ((5 : Int32) * x3)) + (1 : Int32)).toNatClampNeg ((r_all (((40 : Int32) + ((5 : Int32) * x3)) + (1 : Int32)).toNatClampNeg) + ((r_comes x3.toNatClampNeg) - (r_leaves x3.toNatClampNeg)))) (((40 : Int32) + ((5 : Int32) * x3)) + (1 : Int32)).toNatClampNeg) - (100 : Int32)))) (((40 : Int32) + ((5 : Int32) * x3)) + (1 : Int32)).toNatClampNeg (100 : Int32)))), (h_comes, .inl (cI, 64, .inl r_comes)), (h_leaves, .inl (cI, 64, .inl r_leaves))] := hD
        exact tX11_drifts_273 hC hK hA ih x3 (upd (upd (upd r_all (((40 : Int32) + ((5 : Int32) * x3)) + (1 : Int32)).toNatClampNeg ((r_all (((40 : Int32) + ((5 : Int32) * x3)) + (1 : Int32)).toNatClampNeg) + ((r_comes x3.toNatClampNeg) - (r_leaves x3.toNatClampNeg)))) (((40 : Int32) + ((5 : Int32) * x3)) + (2 : Int32)).toNatClampNeg (((upd r_all (((40 : Int32) + ((5 : Int32) * x3)) + (1 : Int32)).toNatClampNeg ((r_all (((40 : Int32) + ((5 : Int32) * x3)) + (1 : Int32)).toNatClampNeg) + ((r_comes x3.toNatClampNeg) - (r_leaves x3.toNatClampNeg)))) (((40 : Int32) + ((5 : Int32) * x3)) + (2 : Int32)).toNatClampNeg) + (((upd r_all (((40 : Int32) + ((5 : Int32) * x3)) + (1 : Int32)).toNatClampNeg ((r_all (((40 : Int32) + ((5 : Int32) * x3)) + (1 : Int32)).toNatClampNeg) + ((r_comes x3.toNatClampNeg) - (r_leaves x3.toNatClampNeg)))) (((40 : Int32) + ((5 : Int32) * x3)) + (1 : Int32)).toNatClampNeg) - (100 : Int32)))) (((40 : Int32) + ((5 : Int32) * x3)) + (1 : Int32)).toNatClampNeg (100 : Int32)) r_comes r_leaves _ _ ls hw (hP.sub [0, 1, 2, 3] rfl) (hD.sub [0, 1, 2, 3] (by decide) rfl) hS (lv_sub hl [1, 2] rfl)
      · have hw := hw.2 c_23
        refine lv_goto (tgt := 273) hx hb dX11_drifts_235 (by decide) ?_
        exact tX11_drifts_273 hC hK hA ih x3 (upd r_all (((40 : Int32) + ((5 : Int32) * x3)) + (1 : Int32)).toNatClampNeg ((r_all (((40 : Int32) + ((5 : Int32) * x3)) + (1 : Int32)).toNatClampNeg) + ((r_comes x3.toNatClampNeg) - (r_leaves x3.toNatClampNeg)))) r_comes r_leaves _ _ ls hw (hP.sub [0, 1, 2, 3] rfl) (hD.sub [0, 1, 2, 3] (by decide) rfl) hS (lv_sub hl [1, 2] rfl)
set_option maxHeartbeats 4000000 in
set_option maxRecDepth 100000 in
theorem tX11_drifts_35 {p : Program} {l : Launch} {e : Env} {s : State} {m : MethodId} {args : Array Value} {below : List Frame} {meth : Method} {c : Code} {dC : Nat → ClassId} {dI : Nat → Nat → Nat} {cI cZ cO cW : ClassId} {A : Nat → Prop} {h h_all h_has h_line h_act h_pile h_comes h_leaves h_tried h_met : Nat} {f_size f_next f_where f_token f_number f_sign f_word f_wrong f_open f_lines f_acts : Int32} {Q : (Nat → Int32) → (Nat → Int32) → (Nat → Int32) → Prop}  (hC : Cx p s m args meth c cX11_drifts none 6 GW RX11) (hK : va_K (dC, dI) vwCl (tysA cI cZ cO cW) s) (hA : ∀ q : Nat, s.heap.size ≤ q → A q) :
    ∀ (n : Nat) (x1 : Int32) (x2 : Int32) (x3 : Int32) (r_all : (Nat → Int32)) (r_comes : (Nat → Int32)) (r_leaves : (Nat → Int32)) (H : Heap) (locs : List Loc) (ls : Array Slot), wX11_drifts_35 Q  n x1 x2 x3 r_all r_comes r_leaves → va_P (dC, dI) vwCl (vX11_drifts cI cZ h h_all h_has h_line h_act h_pile h_comes h_leaves h_tried h_met f_size f_next f_where f_token f_number f_sign f_word f_wrong f_open f_lines f_acts r_all r_comes r_leaves) H → va_D A (vX11_drifts cI cZ h h_all h_has h_line h_act h_pile h_comes h_leaves h_tried h_met f_size f_next f_where f_token f_number f_sign f_word f_wrong f_open f_lines f_acts r_all r_comes r_leaves) → va_S A s.heap H locs → lv_has ls 6 [(0, .ref h), (1, .int x1), (2, .int x2), (3, .int x3)] → W p l e rmX11_drifts s m args below meth c H locs 0 0 (MQ below (qX11_drifts dC dI cI cZ cO cW h h_all h_has h_line h_act h_pile h_comes h_leaves h_tried h_met f_size f_next f_where f_token f_number f_sign f_word f_wrong f_open f_lines f_acts Q A) args s 0 0 A) (F0 m 35 ls []) := by
  obtain ⟨hx, hb, hr, hml, hown, hts, hlocks⟩ := id hC
  intro n
  induction n with
  | zero =>
    intro  x1 x2 x3 r_all r_comes r_leaves H locs ls hw
    exact hw.elim
  | succ n ih =>
    intro  x1 x2 x3 r_all r_comes r_leaves H locs ls hw hP hD hS hl
    refine lv_iload_n hx hb dX11_drifts_35 rfl (lv_at hl 3 rfl) ?_
    refine lv_aload_n hx hb dX11_drifts_36 rfl (lv_at hl 0 rfl) ?_
    refine va_get (D := (dC, dI)) (ci := 10) (v := .ref h_all) (C := RX11) (T := TX11) (N := 20) hx hb hts gu_X11 hown hK hP 0 rfl rfl 0 (by decide) (hts _ gw_607) (fun _ h9 => h9) rfl dX11_drifts_37 ?_
    refine lv_iconst (v := (0 : Int32)) hx hb dX11_drifts_40 (by decide) ?_
    obtain ⟨h_28, hw⟩ := hw
    refine va_iald hx hb hK hP 1 0 rfl rfl h_28 dX11_drifts_41 ?_
    refine lv_icmp_ge (tgt := 180) hx hb dX11_drifts_42 (by decide) (fun c_29 => ?_) (fun c_29 => ?_)
    · have hw := hw.1 c_29
      refine lv_iconst (v := (0 : Int32)) hx hb dX11_drifts_180 (by decide) ?_
      refine lv_istore_n (lv' := [(3, .int (0 : Int32)), (0, .ref h), (1, .int x1), (2, .int x2)]) hx hb dX11_drifts_181 rfl hl (by decide) rfl (fun ls hl => ?_)
      obtain ⟨n_30, hw⟩ := hw
      exact tX11_drifts_182 hC hK hA  n_30 (0 : Int32) r_all r_comes r_leaves _ _ ls hw (hP.sub [0, 1, 2, 3] rfl) (hD.sub [0, 1, 2, 3] (by decide) rfl) hS (lv_sub hl [1, 0] rfl)
    · have hw := hw.2 c_29
      refine lv_iconst (v := (0 : Int32)) hx hb dX11_drifts_45 (by decide) ?_
      refine lv_istore (lv' := [(4, .int (0 : Int32)), (0, .ref h), (1, .int x1), (2, .int x2), (3, .int x3)]) hx hb dX11_drifts_46 hl (by decide) rfl (fun ls hl => ?_)
      obtain ⟨n_31, hw⟩ := hw
      exact tX11_drifts_48 hC hK hA ih n_31 x1 x2 x3 (0 : Int32) r_all r_comes r_leaves _ _ ls hw (hP.sub [0, 1, 2, 3] rfl) (hD.sub [0, 1, 2, 3] (by decide) rfl) hS (lv_sub hl [1, 2, 3, 4, 0] rfl)
set_option maxHeartbeats 4000000 in
set_option maxRecDepth 100000 in
theorem tX11_drifts_2 {p : Program} {l : Launch} {e : Env} {s : State} {m : MethodId} {args : Array Value} {below : List Frame} {meth : Method} {c : Code} {dC : Nat → ClassId} {dI : Nat → Nat → Nat} {cI cZ cO cW : ClassId} {A : Nat → Prop} {h h_all h_has h_line h_act h_pile h_comes h_leaves h_tried h_met : Nat} {f_size f_next f_where f_token f_number f_sign f_word f_wrong f_open f_lines f_acts : Int32} {Q : (Nat → Int32) → (Nat → Int32) → (Nat → Int32) → Prop}  (hC : Cx p s m args meth c cX11_drifts none 6 GW RX11) (hK : va_K (dC, dI) vwCl (tysA cI cZ cO cW) s) (hA : ∀ q : Nat, s.heap.size ≤ q → A q) :
    ∀ (n : Nat) (x1 : Int32) (x2 : Int32) (x3 : Int32) (r_all : (Nat → Int32)) (r_comes : (Nat → Int32)) (r_leaves : (Nat → Int32)) (H : Heap) (locs : List Loc) (ls : Array Slot), wX11_drifts_2 Q  n x1 x2 x3 r_all r_comes r_leaves → va_P (dC, dI) vwCl (vX11_drifts cI cZ h h_all h_has h_line h_act h_pile h_comes h_leaves h_tried h_met f_size f_next f_where f_token f_number f_sign f_word f_wrong f_open f_lines f_acts r_all r_comes r_leaves) H → va_D A (vX11_drifts cI cZ h h_all h_has h_line h_act h_pile h_comes h_leaves h_tried h_met f_size f_next f_where f_token f_number f_sign f_word f_wrong f_open f_lines f_acts r_all r_comes r_leaves) → va_S A s.heap H locs → lv_has ls 6 [(0, .ref h), (1, .int x1), (2, .int x2), (3, .int x3)] → W p l e rmX11_drifts s m args below meth c H locs 0 0 (MQ below (qX11_drifts dC dI cI cZ cO cW h h_all h_has h_line h_act h_pile h_comes h_leaves h_tried h_met f_size f_next f_where f_token f_number f_sign f_word f_wrong f_open f_lines f_acts Q A) args s 0 0 A) (F0 m 2 ls []) := by
  obtain ⟨hx, hb, hr, hml, hown, hts, hlocks⟩ := id hC
  intro n
  induction n with
  | zero =>
    intro  x1 x2 x3 r_all r_comes r_leaves H locs ls hw
    exact hw.elim
  | succ n ih =>
    intro  x1 x2 x3 r_all r_comes r_leaves H locs ls hw hP hD hS hl
    refine lv_iload_n hx hb dX11_drifts_2 rfl (lv_at hl 3 rfl) ?_
    refine lv_bipush (v := (64 : Int32)) hx hb dX11_drifts_3 (by decide) ?_
    refine lv_icmp_ge (tgt := 28) hx hb dX11_drifts_5 (by decide) (fun c_32 => ?_) (fun c_32 => ?_)
    · have hw := hw.1 c_32
      refine lv_iload_n hx hb dX11_drifts_28 rfl (lv_at hl 2 rfl) ?_
      refine lv_if_ne (tgt := 33) hx hb dX11_drifts_29 (by decide) (fun c_33 => ?_) (fun c_33 => ?_)
      · have hw := hw.1 c_33
        refine lv_iconst (v := (0 : Int32)) hx hb dX11_drifts_33 (by decide) ?_
        refine lv_istore_n (lv' := [(3, .int (0 : Int32)), (0, .ref h), (1, .int x1), (2, .int x2)]) hx hb dX11_drifts_34 rfl hl (by decide) rfl (fun ls hl => ?_)
        obtain ⟨n_34, hw⟩ := hw
        exact tX11_drifts_35 hC hK hA  n_34 x1 x2 (0 : Int32) r_all r_comes r_leaves _ _ ls hw (hP.sub [0, 1, 2, 3] rfl) (hD.sub [0, 1, 2, 3] (by decide) rfl) hS (lv_sub hl [1, 2, 3, 0] rfl)
      · have hw := hw.2 c_33
        have hP9 := hP.sub (ws' := (vX11_drifts cI cZ h h_all h_has h_line h_act h_pile h_comes h_leaves h_tried h_met f_size f_next f_where f_token f_number f_sign f_word f_wrong f_open f_lines f_acts r_all r_comes r_leaves)) [0, 1, 2, 3] rfl
        have hD9 := hD.sub (ws' := (vX11_drifts cI cZ h h_all h_has h_line h_act h_pile h_comes h_leaves h_tried h_met f_size f_next f_where f_token f_number f_sign f_word f_wrong f_open f_lines f_acts r_all r_comes r_leaves)) [0, 1, 2, 3] (by decide) rfl
        exact W.vret hx hb hr (fun t ht hW => ⟨⟨(r_all, r_comes, r_leaves), rfl, hw, by rw [ht]; exact hP9, va_K.moved hW.alike hK, hD9⟩, hS.F ht⟩) hS.2.2 dX11_drifts_32
    · have hw := hw.2 c_32
      refine lv_aload_n hx hb dX11_drifts_8 rfl (lv_at hl 0 rfl) ?_
      refine va_get (D := (dC, dI)) (ci := 10) (v := .ref h_comes) (C := RX11) (T := TX11) (N := 20) hx hb hts gu_X11 hown hK hP 0 rfl rfl 16 (by decide) (hts _ gw_615) (fun _ h9 => h9) rfl dX11_drifts_9 ?_
      refine lv_iload_n hx hb dX11_drifts_12 rfl (lv_at hl 3 rfl) ?_
      refine lv_iconst (v := (0 : Int32)) hx hb dX11_drifts_13 (by decide) ?_
      obtain ⟨h_35, hw⟩ := hw
      refine va_iast hx hb hK hP hD hS 2 0 rfl rfl h_35 dX11_drifts_14 (fun H locs hP hD hS => ?_)
      have hP : va_P (dC, dI) vwCl [(h, .inr (10, [.ref h_all, .ref h_has, .int f_size, .int f_next, .int f_where, .int f_token, .int f_number, .int f_sign, .int f_word, .int f_wrong, .int f_open, .int f_lines, .int f_acts, .ref h_line, .ref h_act, .ref h_pile, .ref h_comes, .ref h_leaves, .ref h_tried, .ref h_met])), (h_all, .inl (cI, 53700, .inl r_all)), (h_comes, .inl (cI, 64, .inl (upd r_comes x3.toNatClampNeg (0 : Int32)))), (h_leaves, .inl (cI, 64, .inl r_leaves))] _ := hP
      have hD : va_D A [(h, .inr (10, [.ref h_all, .ref h_has, .int f_size, .int f_next, .int f_where, .int f_token, .int f_number, .int f_sign, .int f_word, .int f_wrong, .int f_open, .int f_lines, .int f_acts, .ref h_line, .ref h_act, .ref h_pile, .ref h_comes, .ref h_leaves, .ref h_tried, .ref h_met])), (h_all, .inl (cI, 53700, .inl r_all)), (h_comes, .inl (cI, 64, .inl (upd r_comes x3.toNatClampNeg (0 : Int32)))), (h_leaves, .inl (cI, 64, .inl r_leaves))] := hD
      refine lv_aload_n hx hb dX11_drifts_15 rfl (lv_at hl 0 rfl) ?_
      refine va_get (D := (dC, dI)) (ci := 10) (v := .ref h_leaves) (C := RX11) (T := TX11) (N := 20) hx hb hts gu_X11 hown hK hP 0 rfl rfl 17 (by decide) (hts _ gw_616) (fun _ h9 => h9) rfl dX11_drifts_16 ?_
      refine lv_iload_n hx hb dX11_drifts_19 rfl (lv_at hl 3 rfl) ?_
      refine lv_iconst (v := (0 : Int32)) hx hb dX11_drifts_20 (by decide) ?_
      obtain ⟨h_36, hw⟩ := hw
      refine va_iast hx hb hK hP hD hS 3 0 rfl rfl h_36 dX11_drifts_21 (fun H locs hP hD hS => ?_)
      have hP : va_P (dC, dI) vwCl [(h, .inr (10, [.ref h_all, .ref h_has, .int f_size, .int f_next, .int f_where, .int f_token, .int f_number, .int f_sign, .int f_word, .int f_wrong, .int f_open, .int f_lines, .int f_acts, .ref h_line, .ref h_act, .ref h_pile, .ref h_comes, .ref h_leaves, .ref h_tried, .ref h_met])), (h_all, .inl (cI, 53700, .inl r_all)), (h_comes, .inl (cI, 64, .inl (upd r_comes x3.toNatClampNeg (0 : Int32)))), (h_leaves, .inl (cI, 64, .inl (upd r_leaves x3.toNatClampNeg (0 : Int32))))] _ := hP
      have hD : va_D A [(h, .inr (10, [.ref h_all, .ref h_has, .int f_size, .int f_next, .int f_where, .int f_token, .int f_number, .int f_sign, .int f_word, .int f_wrong, .int f_open, .int f_lines, .int f_acts, .ref h_line, .ref h_act, .ref h_pile, .ref h_comes, .ref h_leaves, .ref h_tried, .ref h_met])), (h_all, .inl (cI, 53700, .inl r_all)), (h_comes, .inl (cI, 64, .inl (upd r_comes x3.toNatClampNeg (0 : Int32)))), (h_leaves, .inl (cI, 64, .inl (upd r_leaves x3.toNatClampNeg (0 : Int32))))] := hD
      refine lv_iinc (v := (x3 + (1 : Int32))) (lv' := [(3, .int (x3 + (1 : Int32))), (0, .ref h), (1, .int x1), (2, .int x2)]) hx hb dX11_drifts_22 hl (k := 3) rfl rfl (by decide) rfl (fun ls hl => ?_)
      refine lv_goto (tgt := 2) hx hb dX11_drifts_25 (by decide) ?_
      exact ih x1 x2 (x3 + (1 : Int32)) r_all (upd r_comes x3.toNatClampNeg (0 : Int32)) (upd r_leaves x3.toNatClampNeg (0 : Int32)) _ _ ls hw (hP.sub [0, 1, 2, 3] rfl) (hD.sub [0, 1, 2, 3] (by decide) rfl) hS (lv_sub hl [1, 2, 3, 0] rfl)
set_option maxHeartbeats 4000000 in
set_option maxRecDepth 100000 in
theorem tX11_drifts_e {p : Program} {l : Launch} {e : Env} {s : State} {m : MethodId} {args : Array Value} {below : List Frame} {meth : Method} {c : Code} {dC : Nat → ClassId} {dI : Nat → Nat → Nat} {cI cZ cO cW : ClassId} {A : Nat → Prop} {h h_all h_has h_line h_act h_pile h_comes h_leaves h_tried h_met : Nat} {f_size f_next f_where f_token f_number f_sign f_word f_wrong f_open f_lines f_acts : Int32} {Q : (Nat → Int32) → (Nat → Int32) → (Nat → Int32) → Prop} (hC : Cx p s m args meth c cX11_drifts none 6 GW RX11) (hK : va_K (dC, dI) vwCl (tysA cI cZ cO cW) s) (hA : ∀ q : Nat, s.heap.size ≤ q → A q) :
    ∀ (x1 : Int32) (x2 : Int32) (r_all : Nat → Int32) (r_comes : Nat → Int32) (r_leaves : Nat → Int32) (H : Heap) (locs : List Loc) (ls : Array Slot), wX11_drifts Q x1 x2 r_all r_comes r_leaves → va_P (dC, dI) vwCl (vX11_drifts cI cZ h h_all h_has h_line h_act h_pile h_comes h_leaves h_tried h_met f_size f_next f_where f_token f_number f_sign f_word f_wrong f_open f_lines f_acts r_all r_comes r_leaves) H → va_D A (vX11_drifts cI cZ h h_all h_has h_line h_act h_pile h_comes h_leaves h_tried h_met f_size f_next f_where f_token f_number f_sign f_word f_wrong f_open f_lines f_acts r_all r_comes r_leaves) → va_S A s.heap H locs → lv_has ls 6 [(0, .ref h), (1, .int x1), (2, .int x2)] → W p l e rmX11_drifts s m args below meth c H locs 0 0 (MQ below (qX11_drifts dC dI cI cZ cO cW h h_all h_has h_line h_act h_pile h_comes h_leaves h_tried h_met f_size f_next f_where f_token f_number f_sign f_word f_wrong f_open f_lines f_acts Q A) args s 0 0 A) (F0 m 0 ls []) := by
  obtain ⟨hx, hb, hr, hml, hown, hts, hlocks⟩ := id hC
  intro x1 x2 r_all r_comes r_leaves H locs ls hw hP hD hS hl
  refine lv_iconst (v := (0 : Int32)) hx hb dX11_drifts_0 (by decide) ?_
  refine lv_istore_n (lv' := [(3, .int (0 : Int32)), (0, .ref h), (1, .int x1), (2, .int x2)]) hx hb dX11_drifts_1 rfl hl (by decide) rfl (fun ls hl => ?_)
  obtain ⟨n_37, hw⟩ := hw
  exact tX11_drifts_2 hC hK hA  n_37 x1 x2 (0 : Int32) r_all r_comes r_leaves _ _ ls hw (hP.sub [0, 1, 2, 3] rfl) (hD.sub [0, 1, 2, 3] (by decide) rfl) hS (lv_sub hl [1, 2, 3, 0] rfl)
set_option maxHeartbeats 4000000 in
set_option maxRecDepth 100000 in
theorem kX11_drifts (l : Launch) (dC : Nat → ClassId) (dI : Nat → Nat → Nat) (cI cZ cO cW : ClassId) (h h_all h_has h_line h_act h_pile h_comes h_leaves h_tried h_met : Nat)  (sz : Nat) (f_size : Int32) (f_next : Int32) (f_where : Int32) (f_token : Int32) (f_number : Int32) (f_sign : Int32) (f_word : Int32) (f_wrong : Int32) (f_open : Int32) (f_lines : Int32) (f_acts : Int32) (r_all : Nat → Int32) (r_comes : Nat → Int32) (r_leaves : Nat → Int32) (x1 : Int32) (x2 : Int32) (Q : (Nat → Int32) → (Nat → Int32) → (Nat → Int32) → Prop) (hw : wX11_drifts Q x1 x2 r_all r_comes r_leaves) : Met l yX11_drifts zsX11_drifts rmX11_drifts (va_Pc [.ref h, .int x1, .int x2] (fun U => U.heap.size = sz ∧ va_P (dC, dI) vwCl (vX11_drifts cI cZ h h_all h_has h_line h_act h_pile h_comes h_leaves h_tried h_met f_size f_next f_where f_token f_number f_sign f_word f_wrong f_open f_lines f_acts r_all r_comes r_leaves) U.heap ∧ va_K (dC, dI) vwCl (tysA cI cZ cO cW) U ∧ va_D (fun _ => True) (vX11_drifts cI cZ h h_all h_has h_line h_act h_pile h_comes h_leaves h_tried h_met f_size f_next f_where f_token f_number f_sign f_word f_wrong f_open f_lines f_acts r_all r_comes r_leaves))) (qX11_drifts dC dI cI cZ cO cW h h_all h_has h_line h_act h_pile h_comes h_leaves h_tried h_met f_size f_next f_where f_token f_number f_sign f_word f_wrong f_open f_lines f_acts Q (va_A (vX11_drifts cI cZ h h_all h_has h_line h_act h_pile h_comes h_leaves h_tried h_met f_size f_next f_where f_token f_number f_sign f_word f_wrong f_open f_lines f_acts r_all r_comes r_leaves) sz)) 0 0 (va_A (vX11_drifts cI cZ h h_all h_has h_line h_act h_pile h_comes h_leaves h_tried h_met f_size f_next f_where f_token f_number f_sign f_word f_wrong f_open f_lines f_acts r_all r_comes r_leaves) sz) := by
  refine Met.ofW (cc := cX11_drifts) (maxL := 6) (ret := none) (by decide) rfl ?_
  intro p e s m args below meth c s₁ B hml hv
  obtain ⟨rfl, hsz, hP, hK, hD0⟩ := hv
  subst hsz
  have hC : Cx p s m ([.ref h, .int x1, .int x2] : List Value).toArray meth c cX11_drifts none 6 GW RX11 := ⟨B.exec, B.bytes, B.returns, hml, findClass_of_methodNamed B.named, fun w h => atoms_spec (ws := zsX11_drifts) B.pre w (List.mem_cons_of_mem _ h), B.notSynchronized⟩
  have hD := hD0.self (sz := s.heap.size)
  generalize hAe : va_A (vX11_drifts cI cZ h h_all h_has h_line h_act h_pile h_comes h_leaves h_tried h_met f_size f_next f_where f_token f_number f_sign f_word f_wrong f_open f_lines f_acts r_all r_comes r_leaves) s.heap.size = A at hD ⊢
  have hA : ∀ q : Nat, s.heap.size ≤ q → A q := fun q h => by rw [← hAe]; exact Or.inr h
  have hl := lv_entry ([.ref h, .int x1, .int x2]) (n := 6) (Nat.le_of_ble_eq_true rfl)
  rw [lg_entry_eq]
  generalize (lg_sl ([.ref h, .int x1, .int x2]) ++ List.replicate (6 - (lg_sl ([.ref h, .int x1, .int x2])).length) Slot.unset).toArray = ls at hl ⊢
  exact tX11_drifts_e hC hK hA x1 x2 r_all r_comes r_leaves _ _ ls hw hP hD va_S.rf hl

/-! X11_anHour -/
def wX11_anHour_87 (Q : (Nat → Int32) → (Nat → Int32) → (Nat → Int32) → (Nat → Int32) → Prop) (K_58 : Int32 → Int32 → Int32 → Int32 → (Nat → Int32) → (Nat → Int32) → (Nat → Int32) → (Nat → Int32) → Prop)  (x1 : Int32) (x2 : Int32) (x3 : Int32) (x4 : Int32) (r_all : (Nat → Int32)) (r_comes : (Nat → Int32)) (r_leaves : (Nat → Int32)) (r_pile : (Nat → Int32)) : Prop :=
  (K_58 x1 x2 x3 (x4 + (1 : Int32)) r_all r_comes r_leaves r_pile)
def wX11_anHour_58 (Q : (Nat → Int32) → (Nat → Int32) → (Nat → Int32) → (Nat → Int32) → Prop) (K_45 : Int32 → Int32 → Int32 → (Nat → Int32) → (Nat → Int32) → (Nat → Int32) → (Nat → Int32) → Prop)  : Nat → Int32 → Int32 → Int32 → Int32 → (Nat → Int32) → (Nat → Int32) → (Nat → Int32) → (Nat → Int32) → Prop
  | 0, _, _, _, _, _, _, _, _ => False
  | n + 1, x1, x2, x3, x4, r_all, r_comes, r_leaves, r_pile => (vp_in (1 : Int32) 53700 ∧ (((r_all (1 : Int32).toNatClampNeg) ≤ x4 → (K_45 x1 x2 (x3 + (1 : Int32)) r_all r_comes r_leaves r_pile)) ∧ (¬ (r_all (1 : Int32).toNatClampNeg) ≤ x4 → (wX11_isSea (fun r_3 => ((r_3 = 0 → (wX11_anHour_87 Q (wX11_anHour_58 Q K_45 n) x1 x2 x3 x4 r_all r_comes r_leaves r_pile)) ∧ (¬ r_3 = 0 → (wX11_freezes (fun r_all_5 => (wX11_anHour_87 Q (wX11_anHour_58 Q K_45 n) x1 x2 x3 x4 r_all_5 r_comes r_leaves r_pile)) x3 x4 x2 r_all)))) x3 x4 r_all))))
def wX11_anHour_211 (Q : (Nat → Int32) → (Nat → Int32) → (Nat → Int32) → (Nat → Int32) → Prop) (K_150 : Int32 → Int32 → Int32 → (Nat → Int32) → (Nat → Int32) → (Nat → Int32) → (Nat → Int32) → Prop)  (x1 : Int32) (x3 : Int32) (x4 : Int32) (r_all : (Nat → Int32)) (r_comes : (Nat → Int32)) (r_leaves : (Nat → Int32)) (r_pile : (Nat → Int32)) : Prop :=
  (K_150 x1 x3 (x4 + (1 : Int32)) r_all r_comes r_leaves r_pile)
def wX11_anHour_196 (Q : (Nat → Int32) → (Nat → Int32) → (Nat → Int32) → (Nat → Int32) → Prop) (K_150 : Int32 → Int32 → Int32 → (Nat → Int32) → (Nat → Int32) → (Nat → Int32) → (Nat → Int32) → Prop)  (x1 : Int32) (x3 : Int32) (x4 : Int32) (r_all : (Nat → Int32)) (r_comes : (Nat → Int32)) (r_leaves : (Nat → Int32)) (r_pile : (Nat → Int32)) : Prop :=
  (vp_in (((40 : Int32) + ((5 : Int32) * x4)) + (3 : Int32)) 53700 ∧ (wX11_anHour_211 Q K_150 x1 x3 x4 (upd r_all (((40 : Int32) + ((5 : Int32) * x4)) + (3 : Int32)).toNatClampNeg (-1 : Int32)) r_comes r_leaves r_pile))
def wX11_anHour_150 (Q : (Nat → Int32) → (Nat → Int32) → (Nat → Int32) → (Nat → Int32) → Prop)   : Nat → Int32 → Int32 → Int32 → (Nat → Int32) → (Nat → Int32) → (Nat → Int32) → (Nat → Int32) → Prop
  | 0, _, _, _, _, _, _, _ => False
  | n + 1, x1, x3, x4, r_all, r_comes, r_leaves, r_pile => (((64 : Int32) ≤ x4 → (vp_in (3 : Int32) 53700 ∧ (vp_in (3 : Int32) 53700 ∧ (Q (upd r_all (3 : Int32).toNatClampNeg ((r_all (3 : Int32).toNatClampNeg) + (1 : Int32))) r_comes r_leaves r_pile)))) ∧ (¬ (64 : Int32) ≤ x4 → (vp_in (((40 : Int32) + ((5 : Int32) * x4)) + (3 : Int32)) 53700 ∧ (((r_all (((40 : Int32) + ((5 : Int32) * x4)) + (3 : Int32)).toNatClampNeg) < 0 → (wX11_anHour_211 Q (wX11_anHour_150 Q n) x1 x3 x4 r_all r_comes r_leaves r_pile)) ∧ (¬ (r_all (((40 : Int32) + ((5 : Int32) * x4)) + (3 : Int32)).toNatClampNeg) < 0 → (vp_in x4 64 ∧ ((0 < (r_comes x4.toNatClampNeg) → (wX11_anHour_196 Q (wX11_anHour_150 Q n) x1 x3 x4 r_all r_comes r_leaves r_pile)) ∧ (¬ 0 < (r_comes x4.toNatClampNeg) → ((x1 < ((r_all (((40 : Int32) + ((5 : Int32) * x4)) + (3 : Int32)).toNatClampNeg) + x3) → (wX11_anHour_211 Q (wX11_anHour_150 Q n) x1 x3 x4 r_all r_comes r_leaves r_pile)) ∧ (¬ x1 < ((r_all (((40 : Int32) + ((5 : Int32) * x4)) + (3 : Int32)).toNatClampNeg) + x3) → (wX11_anHour_196 Q (wX11_anHour_150 Q n) x1 x3 x4 r_all r_comes r_leaves r_pile)))))))))))
def wX11_anHour_142 (Q : (Nat → Int32) → (Nat → Int32) → (Nat → Int32) → (Nat → Int32) → Prop)   (x1 : Int32) (s0 : Int32) (s1 : Int32) (r_all : (Nat → Int32)) (r_comes : (Nat → Int32)) (r_leaves : (Nat → Int32)) (r_pile : (Nat → Int32)) : Prop :=
  (∃ j_, wX11_anHour_150 Q j_ x1 (s0 - (s1 / (10 : Int32))) (0 : Int32) r_all r_comes r_leaves r_pile)
def wX11_anHour_45 (Q : (Nat → Int32) → (Nat → Int32) → (Nat → Int32) → (Nat → Int32) → Prop)   : Nat → Int32 → Int32 → Int32 → (Nat → Int32) → (Nat → Int32) → (Nat → Int32) → (Nat → Int32) → Prop
  | 0, _, _, _, _, _, _, _ => False
  | n + 1, x1, x2, x3, r_all, r_comes, r_leaves, r_pile => (vp_in (0 : Int32) 53700 ∧ (((r_all (0 : Int32).toNatClampNeg) ≤ x3 → (vp_in (((460 : Int32) + ((3 : Int32) * x1)) + (1 : Int32)) 53700 ∧ (vp_in (((460 : Int32) + ((3 : Int32) * x1)) + (2 : Int32)) 53700 ∧ (wX11_drifts (fun r_all_20 r_comes_21 r_leaves_22 => ((0 ≤ x2 → (wX11_anHour_142 Q x1 (7 : Int32) x2 r_all_20 r_comes_21 r_leaves_22 r_pile)) ∧ (¬ 0 ≤ x2 → (wX11_anHour_142 Q x1 (7 : Int32) (0 : Int32) r_all_20 r_comes_21 r_leaves_22 r_pile)))) (r_all (((460 : Int32) + ((3 : Int32) * x1)) + (1 : Int32)).toNatClampNeg) (r_all (((460 : Int32) + ((3 : Int32) * x1)) + (2 : Int32)).toNatClampNeg) r_all r_comes r_leaves)))) ∧ (¬ (r_all (0 : Int32).toNatClampNeg) ≤ x3 → (∃ j_, wX11_anHour_58 Q (wX11_anHour_45 Q n) j_ x1 x2 x3 (0 : Int32) r_all r_comes r_leaves r_pile))))
def wX11_anHour_22 (Q : (Nat → Int32) → (Nat → Int32) → (Nat → Int32) → (Nat → Int32) → Prop)   : Nat → Int32 → Int32 → Int32 → (Nat → Int32) → (Nat → Int32) → (Nat → Int32) → (Nat → Int32) → Prop
  | 0, _, _, _, _, _, _, _ => False
  | n + 1, x1, x2, x3, r_all, r_comes, r_leaves, r_pile => (vp_in (2 : Int32) 53700 ∧ (((r_all (2 : Int32).toNatClampNeg) ≤ x3 → (∃ j_, wX11_anHour_45 Q j_ x1 x2 (0 : Int32) r_all r_comes r_leaves r_pile)) ∧ (¬ (r_all (2 : Int32).toNatClampNeg) ≤ x3 → (wX11_obeys (fun r_all_28 r_pile_29 => (wX11_anHour_22 Q n x1 x2 (x3 + (1 : Int32)) r_all_28 r_comes r_leaves r_pile_29)) x3 r_all r_pile))))
def wX11_anHour (Q : (Nat → Int32) → (Nat → Int32) → (Nat → Int32) → (Nat → Int32) → Prop)  (r_all : Nat → Int32) (r_comes : Nat → Int32) (r_leaves : Nat → Int32) (r_pile : Nat → Int32) : Prop :=
  (vp_in (3 : Int32) 53700 ∧ (vp_in ((460 : Int32) + ((3 : Int32) * (r_all (3 : Int32).toNatClampNeg))) 53700 ∧ (∃ j_, wX11_anHour_22 Q j_ (r_all (3 : Int32).toNatClampNeg) (r_all ((460 : Int32) + ((3 : Int32) * (r_all (3 : Int32).toNatClampNeg))).toNatClampNeg) (0 : Int32) r_all r_comes r_leaves r_pile)))
abbrev vX11_anHour (cI cZ : ClassId) (h h_all h_has h_line h_act h_pile h_comes h_leaves h_tried h_met : Nat) (f_size : Int32) (f_next : Int32) (f_where : Int32) (f_token : Int32) (f_number : Int32) (f_sign : Int32) (f_word : Int32) (f_wrong : Int32) (f_open : Int32) (f_lines : Int32) (f_acts : Int32) (r_all : Nat → Int32) (r_comes : Nat → Int32) (r_leaves : Nat → Int32) (r_pile : Nat → Int32) : va_W := [(h, .inr (10, [.ref h_all, .ref h_has, .int f_size, .int f_next, .int f_where, .int f_token, .int f_number, .int f_sign, .int f_word, .int f_wrong, .int f_open, .int f_lines, .int f_acts, .ref h_line, .ref h_act, .ref h_pile, .ref h_comes, .ref h_leaves, .ref h_tried, .ref h_met])), (h_all, .inl (cI, 53700, .inl r_all)), (h_comes, .inl (cI, 64, .inl r_comes)), (h_leaves, .inl (cI, 64, .inl r_leaves)), (h_pile, .inl (cZ, 300, .inl r_pile))]
abbrev rmX11_anHour : Room := { frames := 7, cells := 0, slots := 0, locals := 166 }
abbrev qX11_anHour (dC : Nat → ClassId) (dI : Nat → Nat → Nat) (cI cZ cO cW : ClassId) (h h_all h_has h_line h_act h_pile h_comes h_leaves h_tried h_met : Nat) (f_size : Int32) (f_next : Int32) (f_where : Int32) (f_token : Int32) (f_number : Int32) (f_sign : Int32) (f_word : Int32) (f_wrong : Int32) (f_open : Int32) (f_lines : Int32) (f_acts : Int32) (Q : (Nat → Int32) → (Nat → Int32) → (Nat → Int32) → (Nat → Int32) → Prop) (A : Nat → Prop) : Array Value → State → Outcome → State → Prop := va_Qv (fun (u : (Nat → Int32) × (Nat → Int32) × (Nat → Int32) × (Nat → Int32)) => Q u.1 u.2.1 u.2.2.1 u.2.2.2) (fun (u : (Nat → Int32) × (Nat → Int32) × (Nat → Int32) × (Nat → Int32)) (t : State) => va_P (dC, dI) vwCl (vX11_anHour cI cZ h h_all h_has h_line h_act h_pile h_comes h_leaves h_tried h_met f_size f_next f_where f_token f_number f_sign f_word f_wrong f_open f_lines f_acts u.1 u.2.1 u.2.2.1 u.2.2.2) t.heap ∧ va_K (dC, dI) vwCl (tysA cI cZ cO cW) t ∧ va_D A (vX11_anHour cI cZ h h_all h_has h_line h_act h_pile h_comes h_leaves h_tried h_met f_size f_next f_where f_token f_number f_sign f_word f_wrong f_open f_lines f_acts u.1 u.2.1 u.2.2.1 u.2.2.2)) A
def zsX11_anHour : List Cond := Cond.code yX11_anHour cX11_anHour 6 none :: GW
set_option maxHeartbeats 4000000 in
set_option maxRecDepth 100000 in
theorem tX11_anHour_87 {p : Program} {l : Launch} {e : Env} {s : State} {m : MethodId} {args : Array Value} {below : List Frame} {meth : Method} {c : Code} {dC : Nat → ClassId} {dI : Nat → Nat → Nat} {cI cZ cO cW : ClassId} {A : Nat → Prop} {h h_all h_has h_line h_act h_pile h_comes h_leaves h_tried h_met : Nat} {f_size f_next f_where f_token f_number f_sign f_word f_wrong f_open f_lines f_acts : Int32} {Q : (Nat → Int32) → (Nat → Int32) → (Nat → Int32) → (Nat → Int32) → Prop} {K_58 : Int32 → Int32 → Int32 → Int32 → (Nat → Int32) → (Nat → Int32) → (Nat → Int32) → (Nat → Int32) → Prop} (hC : Cx p s m args meth c cX11_anHour none 6 GW RX11) (hK : va_K (dC, dI) vwCl (tysA cI cZ cO cW) s) (hA : ∀ q : Nat, s.heap.size ≤ q → A q) (hk_58 : ∀ (x1 : Int32) (x2 : Int32) (x3 : Int32) (x4 : Int32) (r_all : (Nat → Int32)) (r_comes : (Nat → Int32)) (r_leaves : (Nat → Int32)) (r_pile : (Nat → Int32)) (H : Heap) (locs : List Loc) (ls : Array Slot), K_58 x1 x2 x3 x4 r_all r_comes r_leaves r_pile → va_P (dC, dI) vwCl (vX11_anHour cI cZ h h_all h_has h_line h_act h_pile h_comes h_leaves h_tried h_met f_size f_next f_where f_token f_number f_sign f_word f_wrong f_open f_lines f_acts r_all r_comes r_leaves r_pile) H → va_D A (vX11_anHour cI cZ h h_all h_has h_line h_act h_pile h_comes h_leaves h_tried h_met f_size f_next f_where f_token f_number f_sign f_word f_wrong f_open f_lines f_acts r_all r_comes r_leaves r_pile) → va_S A s.heap H locs → lv_has ls 6 [(0, .ref h), (1, .int x1), (2, .int x2), (3, .int x3), (4, .int x4)] → W p l e rmX11_anHour s m args below meth c H locs 0 0 (MQ below (qX11_anHour dC dI cI cZ cO cW h h_all h_has h_line h_act h_pile h_comes h_leaves h_tried h_met f_size f_next f_where f_token f_number f_sign f_word f_wrong f_open f_lines f_acts Q A) args s 0 0 A) (F0 m 58 ls [])) :
    ∀ (x1 : Int32) (x2 : Int32) (x3 : Int32) (x4 : Int32) (r_all : (Nat → Int32)) (r_comes : (Nat → Int32)) (r_leaves : (Nat → Int32)) (r_pile : (Nat → Int32)) (H : Heap) (locs : List Loc) (ls : Array Slot), wX11_anHour_87 Q K_58 x1 x2 x3 x4 r_all r_comes r_leaves r_pile → va_P (dC, dI) vwCl (vX11_anHour cI cZ h h_all h_has h_line h_act h_pile h_comes h_leaves h_tried h_met f_size f_next f_where f_token f_number f_sign f_word f_wrong f_open f_lines f_acts r_all r_comes r_leaves r_pile) H → va_D A (vX11_anHour cI cZ h h_all h_has h_line h_act h_pile h_comes h_leaves h_tried h_met f_size f_next f_where f_token f_number f_sign f_word f_wrong f_open f_lines f_acts r_all r_comes r_leaves r_pile) → va_S A s.heap H locs → lv_has ls 6 [(0, .ref h), (1, .int x1), (2, .int x2), (3, .int x3), (4, .int x4)] → W p l e rmX11_anHour s m args below meth c H locs 0 0 (MQ below (qX11_anHour dC dI cI cZ cO cW h h_all h_has h_line h_act h_pile h_comes h_leaves h_tried h_met f_size f_next f_where f_token f_number f_sign f_word f_wrong f_open f_lines f_acts Q A) args s 0 0 A) (F0 m 87 ls []) := by
  obtain ⟨hx, hb, hr, hml, hown, hts, hlocks⟩ := id hC
  intro x1 x2 x3 x4 r_all r_comes r_leaves r_pile H locs ls hw hP hD hS hl
  refine lv_iinc (v := (x4 + (1 : Int32))) (lv' := [(4, .int (x4 + (1 : Int32))), (0, .ref h), (1, .int x1), (2, .int x2), (3, .int x3)]) hx hb dX11_anHour_87 hl (k := 4) rfl rfl (by decide) rfl (fun ls hl => ?_)
  refine lv_goto (tgt := 58) hx hb dX11_anHour_90 (by decide) ?_
  exact hk_58 x1 x2 x3 (x4 + (1 : Int32)) r_all r_comes r_leaves r_pile _ _ ls hw (hP.sub [0, 1, 2, 3, 4] rfl) (hD.sub [0, 1, 2, 3, 4] (by decide) rfl) hS (lv_sub hl [1, 2, 3, 4, 0] rfl)
set_option maxHeartbeats 4000000 in
set_option maxRecDepth 100000 in
theorem tX11_anHour_58 {p : Program} {l : Launch} {e : Env} {s : State} {m : MethodId} {args : Array Value} {below : List Frame} {meth : Method} {c : Code} {dC : Nat → ClassId} {dI : Nat → Nat → Nat} {cI cZ cO cW : ClassId} {A : Nat → Prop} {h h_all h_has h_line h_act h_pile h_comes h_leaves h_tried h_met : Nat} {f_size f_next f_where f_token f_number f_sign f_word f_wrong f_open f_lines f_acts : Int32} {Q : (Nat → Int32) → (Nat → Int32) → (Nat → Int32) → (Nat → Int32) → Prop} {K_45 : Int32 → Int32 → Int32 → (Nat → Int32) → (Nat → Int32) → (Nat → Int32) → (Nat → Int32) → Prop} (hC : Cx p s m args meth c cX11_anHour none 6 GW RX11) (hK : va_K (dC, dI) vwCl (tysA cI cZ cO cW) s) (hA : ∀ q : Nat, s.heap.size ≤ q → A q) (hk_45 : ∀ (x1 : Int32) (x2 : Int32) (x3 : Int32) (r_all : (Nat → Int32)) (r_comes : (Nat → Int32)) (r_leaves : (Nat → Int32)) (r_pile : (Nat → Int32)) (H : Heap) (locs : List Loc) (ls : Array Slot), K_45 x1 x2 x3 r_all r_comes r_leaves r_pile → va_P (dC, dI) vwCl (vX11_anHour cI cZ h h_all h_has h_line h_act h_pile h_comes h_leaves h_tried h_met f_size f_next f_where f_token f_number f_sign f_word f_wrong f_open f_lines f_acts r_all r_comes r_leaves r_pile) H → va_D A (vX11_anHour cI cZ h h_all h_has h_line h_act h_pile h_comes h_leaves h_tried h_met f_size f_next f_where f_token f_number f_sign f_word f_wrong f_open f_lines f_acts r_all r_comes r_leaves r_pile) → va_S A s.heap H locs → lv_has ls 6 [(0, .ref h), (1, .int x1), (2, .int x2), (3, .int x3)] → W p l e rmX11_anHour s m args below meth c H locs 0 0 (MQ below (qX11_anHour dC dI cI cZ cO cW h h_all h_has h_line h_act h_pile h_comes h_leaves h_tried h_met f_size f_next f_where f_token f_number f_sign f_word f_wrong f_open f_lines f_acts Q A) args s 0 0 A) (F0 m 45 ls [])) :
    ∀ (n : Nat) (x1 : Int32) (x2 : Int32) (x3 : Int32) (x4 : Int32) (r_all : (Nat → Int32)) (r_comes : (Nat → Int32)) (r_leaves : (Nat → Int32)) (r_pile : (Nat → Int32)) (H : Heap) (locs : List Loc) (ls : Array Slot), wX11_anHour_58 Q K_45 n x1 x2 x3 x4 r_all r_comes r_leaves r_pile → va_P (dC, dI) vwCl (vX11_anHour cI cZ h h_all h_has h_line h_act h_pile h_comes h_leaves h_tried h_met f_size f_next f_where f_token f_number f_sign f_word f_wrong f_open f_lines f_acts r_all r_comes r_leaves r_pile) H → va_D A (vX11_anHour cI cZ h h_all h_has h_line h_act h_pile h_comes h_leaves h_tried h_met f_size f_next f_where f_token f_number f_sign f_word f_wrong f_open f_lines f_acts r_all r_comes r_leaves r_pile) → va_S A s.heap H locs → lv_has ls 6 [(0, .ref h), (1, .int x1), (2, .int x2), (3, .int x3), (4, .int x4)] → W p l e rmX11_anHour s m args below meth c H locs 0 0 (MQ below (qX11_anHour dC dI cI cZ cO cW h h_all h_has h_line h_act h_pile h_comes h_leaves h_tried h_met f_size f_next f_where f_token f_number f_sign f_word f_wrong f_open f_lines f_acts Q A) args s 0 0 A) (F0 m 58 ls []) := by
  obtain ⟨hx, hb, hr, hml, hown, hts, hlocks⟩ := id hC
  intro n
  induction n with
  | zero =>
    intro  x1 x2 x3 x4 r_all r_comes r_leaves r_pile H locs ls hw
    exact hw.elim
  | succ n ih =>
    intro  x1 x2 x3 x4 r_all r_comes r_leaves r_pile H locs ls hw hP hD hS hl
    refine lv_iload hx hb dX11_anHour_58 (lv_at hl 4 rfl) ?_
    refine lv_aload_n hx hb dX11_anHour_60 rfl (lv_at hl 0 rfl) ?_
    refine va_get (D := (dC, dI)) (ci := 10) (v := .ref h_all) (C := RX11) (T := TX11) (N := 20) hx hb hts gu_X11 hown hK hP 0 rfl rfl 0 (by decide) (hts _ gw_607) (fun _ h9 => h9) rfl dX11_anHour_61 ?_
    refine lv_iconst (v := (1 : Int32)) hx hb dX11_anHour_64 (by decide) ?_
    obtain ⟨h_1, hw⟩ := hw
    refine va_iald hx hb hK hP 1 0 rfl rfl h_1 dX11_anHour_65 ?_
    refine lv_icmp_ge (tgt := 93) hx hb dX11_anHour_66 (by decide) (fun c_2 => ?_) (fun c_2 => ?_)
    · have hw := hw.1 c_2
      refine lv_iinc (v := (x3 + (1 : Int32))) (lv' := [(3, .int (x3 + (1 : Int32))), (0, .ref h), (1, .int x1), (2, .int x2), (4, .int x4)]) hx hb dX11_anHour_93 hl (k := 3) rfl rfl (by decide) rfl (fun ls hl => ?_)
      refine lv_goto (tgt := 45) hx hb dX11_anHour_96 (by decide) ?_
      exact hk_45 x1 x2 (x3 + (1 : Int32)) r_all r_comes r_leaves r_pile _ _ ls hw (hP.sub [0, 1, 2, 3, 4] rfl) (hD.sub [0, 1, 2, 3, 4] (by decide) rfl) hS (lv_sub hl [1, 2, 3, 0] rfl)
    · have hw := hw.2 c_2
      refine lv_aload_n hx hb dX11_anHour_69 rfl (lv_at hl 0 rfl) ?_
      refine lv_iload_n hx hb dX11_anHour_70 rfl (lv_at hl 3 rfl) ?_
      refine lv_iload hx hb dX11_anHour_71 (lv_at hl 4 rfl) ?_
      have hPc := hP.sub (ws' := [(h, .inr (10, [.ref h_all, .ref h_has, .int f_size, .int f_next, .int f_where, .int f_token, .int f_number, .int f_sign, .int f_word, .int f_wrong, .int f_open, .int f_lines, .int f_acts, .ref h_line, .ref h_act, .ref h_pile, .ref h_comes, .ref h_leaves, .ref h_tried, .ref h_met])), (h_all, .inl (cI, 53700, .inl r_all))]) [0, 1] rfl
      have hDc := hD.sub (ws' := [(h, .inr (10, [.ref h_all, .ref h_has, .int f_size, .int f_next, .int f_where, .int f_token, .int f_number, .int f_sign, .int f_word, .int f_wrong, .int f_open, .int f_lines, .int f_acts, .ref h_line, .ref h_act, .ref h_pile, .ref h_comes, .ref h_leaves, .ref h_tried, .ref h_met])), (h_all, .inl (cI, 53700, .inl r_all))]) [0, 1] (by decide) rfl
      have hFc := va_free (wc := [(h, .inr (10, [.ref h_all, .ref h_has, .int f_size, .int f_next, .int f_where, .int f_token, .int f_number, .int f_sign, .int f_word, .int f_wrong, .int f_open, .int f_lines, .int f_acts, .ref h_line, .ref h_act, .ref h_pile, .ref h_comes, .ref h_leaves, .ref h_tried, .ref h_met])), (h_all, .inl (cI, 53700, .inl r_all))]) hD hS hA [0, 1] rfl
      refine va_calli (va_runV (As := [.int x3, .int x4]) (rest := []) ⟨hx, hb, hml, hown, hts⟩ (kX11_isSea l dC dI cI cZ cO cW h h_all h_has h_line h_act h_pile h_comes h_leaves h_tried h_met H.size f_size f_next f_where f_token f_number f_sign f_word f_wrong f_open f_lines f_acts r_all x3 x4 _ hw) (cwV 2 hts (gV gw_651 gw_652 gw_653 gw_622 (gM gw_630)) rfl rfl rfl (by decide +kernel) ⟨Nat.le_of_ble_eq_true rfl, Nat.le_of_ble_eq_true rfl⟩) (pv_of hPc hK hDc (va_recv hK hPc (ci := 10) (q0 := 0) rfl rfl)) rfl rfl hl.1 rfl (lv_room (Nat.le_of_ble_eq_true rfl)) dX11_anHour_73 ⟨Nat.zero_le _, Nat.zero_le _⟩) hS (fun q _ h => hFc q h) hFc (fun r_3 u t H locs ht hvm hw hB hz1 hk1 hS => ?_)
      obtain ⟨hP, hD⟩ := af_join (wr := [(h_comes, .inl (cI, 64, .inl r_comes)), (h_leaves, .inl (cI, 64, .inl r_leaves)), (h_pile, .inl (cZ, 300, .inl r_pile))]) (w1 := [(h, .inr (10, [.ref h_all, .ref h_has, .int f_size, .int f_next, .int f_where, .int f_token, .int f_number, .int f_sign, .int f_word, .int f_wrong, .int f_open, .int f_lines, .int f_acts, .ref h_line, .ref h_act, .ref h_pile, .ref h_comes, .ref h_leaves, .ref h_tried, .ref h_met])), (h_all, .inl (cI, 53700, .inl r_all))]) hB ht hP hD [0, 1] [2, 3, 4] rfl rfl (by decide) (by decide) hk1 hFc
      have hP : va_P (dC, dI) vwCl [(h_comes, .inl (cI, 64, .inl r_comes)), (h_leaves, .inl (cI, 64, .inl r_leaves)), (h_pile, .inl (cZ, 300, .inl r_pile)), (h, .inr (10, [.ref h_all, .ref h_has, .int f_size, .int f_next, .int f_where, .int f_token, .int f_number, .int f_sign, .int f_word, .int f_wrong, .int f_open, .int f_lines, .int f_acts, .ref h_line, .ref h_act, .ref h_pile, .ref h_comes, .ref h_leaves, .ref h_tried, .ref h_met])), (h_all, .inl (cI, 53700, .inl r_all))] _ := hP
      have hD : va_D A [(h_comes, .inl (cI, 64, .inl r_comes)), (h_leaves, .inl (cI, 64, .inl r_leaves)), (h_pile, .inl (cZ, 300, .inl r_pile)), (h, .inr (10, [.ref h_all, .ref h_has, .int f_size, .int f_next, .int f_where, .int f_token, .int f_number, .int f_sign, .int f_word, .int f_wrong, .int f_open, .int f_lines, .int f_acts, .ref h_line, .ref h_act, .ref h_pile, .ref h_comes, .ref h_leaves, .ref h_tried, .ref h_met])), (h_all, .inl (cI, 53700, .inl r_all))] := hD
      refine lv_if_eq (tgt := 87) hx hb dX11_anHour_76 (by decide) (fun c_4 => ?_) (fun c_4 => ?_)
      · have hw := hw.1 c_4
        exact tX11_anHour_87 hC hK hA ih x1 x2 x3 x4 r_all r_comes r_leaves r_pile _ _ ls hw (hP.sub [3, 4, 0, 1, 2] rfl) (hD.sub [3, 4, 0, 1, 2] (by decide) rfl) hS (lv_sub hl [0, 1, 2, 3, 4] rfl)
      · have hw := hw.2 c_4
        refine lv_aload_n hx hb dX11_anHour_79 rfl (lv_at hl 0 rfl) ?_
        refine lv_iload_n hx hb dX11_anHour_80 rfl (lv_at hl 3 rfl) ?_
        refine lv_iload hx hb dX11_anHour_81 (lv_at hl 4 rfl) ?_
        refine lv_iload_n hx hb dX11_anHour_83 rfl (lv_at hl 2 rfl) ?_
        have hPc := hP.sub (ws' := [(h, .inr (10, [.ref h_all, .ref h_has, .int f_size, .int f_next, .int f_where, .int f_token, .int f_number, .int f_sign, .int f_word, .int f_wrong, .int f_open, .int f_lines, .int f_acts, .ref h_line, .ref h_act, .ref h_pile, .ref h_comes, .ref h_leaves, .ref h_tried, .ref h_met])), (h_all, .inl (cI, 53700, .inl r_all))]) [3, 4] rfl
        have hDc := hD.sub (ws' := [(h, .inr (10, [.ref h_all, .ref h_has, .int f_size, .int f_next, .int f_where, .int f_token, .int f_number, .int f_sign, .int f_word, .int f_wrong, .int f_open, .int f_lines, .int f_acts, .ref h_line, .ref h_act, .ref h_pile, .ref h_comes, .ref h_leaves, .ref h_tried, .ref h_met])), (h_all, .inl (cI, 53700, .inl r_all))]) [3, 4] (by decide) rfl
        have hFc := va_free (wc := [(h, .inr (10, [.ref h_all, .ref h_has, .int f_size, .int f_next, .int f_where, .int f_token, .int f_number, .int f_sign, .int f_word, .int f_wrong, .int f_open, .int f_lines, .int f_acts, .ref h_line, .ref h_act, .ref h_pile, .ref h_comes, .ref h_leaves, .ref h_tried, .ref h_met])), (h_all, .inl (cI, 53700, .inl r_all))]) hD hS hA [3, 4] rfl
        refine va_callv (va_runV (As := [.int x3, .int x4, .int x2]) (rest := []) ⟨hx, hb, hml, hown, hts⟩ (kX11_freezes l dC dI cI cZ cO cW h h_all h_has h_line h_act h_pile h_comes h_leaves h_tried h_met H.size f_size f_next f_where f_token f_number f_sign f_word f_wrong f_open f_lines f_acts r_all x3 x4 x2 _ hw) (cwV 3 hts (gV gw_810 gw_811 gw_812 gw_622 (gM gw_805)) rfl rfl rfl (by decide +kernel) ⟨Nat.le_of_ble_eq_true rfl, Nat.le_of_ble_eq_true rfl⟩) (pv_of hPc hK hDc (va_recv hK hPc (ci := 10) (q0 := 0) rfl rfl)) rfl rfl hl.1 rfl (lv_room (Nat.le_of_ble_eq_true rfl)) dX11_anHour_84 ⟨Nat.zero_le _, Nat.zero_le _⟩) hS (fun q _ h => hFc q h) hFc (fun u t H locs ht hvm hw hB hz1 hk1 hS => ?_)
        obtain ⟨r_all_5, rfl⟩ : ∃ z, z = u := ⟨_, rfl⟩
        obtain ⟨hP, hD⟩ := af_join (wr := [(h_comes, .inl (cI, 64, .inl r_comes)), (h_leaves, .inl (cI, 64, .inl r_leaves)), (h_pile, .inl (cZ, 300, .inl r_pile))]) (w1 := [(h, .inr (10, [.ref h_all, .ref h_has, .int f_size, .int f_next, .int f_where, .int f_token, .int f_number, .int f_sign, .int f_word, .int f_wrong, .int f_open, .int f_lines, .int f_acts, .ref h_line, .ref h_act, .ref h_pile, .ref h_comes, .ref h_leaves, .ref h_tried, .ref h_met])), (h_all, .inl (cI, 53700, .inl r_all_5))]) hB ht hP hD [3, 4] [0, 1, 2] rfl rfl (by decide) (by decide) hk1 hFc
        have hP : va_P (dC, dI) vwCl [(h_comes, .inl (cI, 64, .inl r_comes)), (h_leaves, .inl (cI, 64, .inl r_leaves)), (h_pile, .inl (cZ, 300, .inl r_pile)), (h, .inr (10, [.ref h_all, .ref h_has, .int f_size, .int f_next, .int f_where, .int f_token, .int f_number, .int f_sign, .int f_word, .int f_wrong, .int f_open, .int f_lines, .int f_acts, .ref h_line, .ref h_act, .ref h_pile, .ref h_comes, .ref h_leaves, .ref h_tried, .ref h_met])), (h_all, .inl (cI, 53700, .inl r_all_5))] _ := hP
        have hD : va_D A [(h_comes, .inl (cI, 64, .inl r_comes)), (h_leaves, .inl (cI, 64, .inl r_leaves)), (h_pile, .inl (cZ, 300, .inl r_pile)), (h, .inr (10, [.ref h_all, .ref h_has, .int f_size, .int f_next, .int f_where, .int f_token, .int f_number, .int f_sign, .int f_word, .int f_wrong, .int f_open, .int f_lines, .int f_acts, .ref h_line, .ref h_act, .ref h_pile, .ref h_comes, .ref h_leaves, .ref h_tried, .ref h_met])), (h_all, .inl (cI, 53700, .inl r_all_5))] := hD
        exact tX11_anHour_87 hC hK hA ih x1 x2 x3 x4 r_all_5 r_comes r_leaves r_pile _ _ ls hw (hP.sub [3, 4, 0, 1, 2] rfl) (hD.sub [3, 4, 0, 1, 2] (by decide) rfl) hS (lv_sub hl [0, 1, 2, 3, 4] rfl)
set_option maxHeartbeats 4000000 in
set_option maxRecDepth 100000 in
theorem tX11_anHour_211 {p : Program} {l : Launch} {e : Env} {s : State} {m : MethodId} {args : Array Value} {below : List Frame} {meth : Method} {c : Code} {dC : Nat → ClassId} {dI : Nat → Nat → Nat} {cI cZ cO cW : ClassId} {A : Nat → Prop} {h h_all h_has h_line h_act h_pile h_comes h_leaves h_tried h_met : Nat} {f_size f_next f_where f_token f_number f_sign f_word f_wrong f_open f_lines f_acts : Int32} {Q : (Nat → Int32) → (Nat → Int32) → (Nat → Int32) → (Nat → Int32) → Prop} {K_150 : Int32 → Int32 → Int32 → (Nat → Int32) → (Nat → Int32) → (Nat → Int32) → (Nat → Int32) → Prop} (hC : Cx p s m args meth c cX11_anHour none 6 GW RX11) (hK : va_K (dC, dI) vwCl (tysA cI cZ cO cW) s) (hA : ∀ q : Nat, s.heap.size ≤ q → A q) (hk_150 : ∀ (x1 : Int32) (x3 : Int32) (x4 : Int32) (r_all : (Nat → Int32)) (r_comes : (Nat → Int32)) (r_leaves : (Nat → Int32)) (r_pile : (Nat → Int32)) (H : Heap) (locs : List Loc) (ls : Array Slot), K_150 x1 x3 x4 r_all r_comes r_leaves r_pile → va_P (dC, dI) vwCl (vX11_anHour cI cZ h h_all h_has h_line h_act h_pile h_comes h_leaves h_tried h_met f_size f_next f_where f_token f_number f_sign f_word f_wrong f_open f_lines f_acts r_all r_comes r_leaves r_pile) H → va_D A (vX11_anHour cI cZ h h_all h_has h_line h_act h_pile h_comes h_leaves h_tried h_met f_size f_next f_where f_token f_number f_sign f_word f_wrong f_open f_lines f_acts r_all r_comes r_leaves r_pile) → va_S A s.heap H locs → lv_has ls 6 [(0, .ref h), (1, .int x1), (3, .int x3), (4, .int x4)] → W p l e rmX11_anHour s m args below meth c H locs 0 0 (MQ below (qX11_anHour dC dI cI cZ cO cW h h_all h_has h_line h_act h_pile h_comes h_leaves h_tried h_met f_size f_next f_where f_token f_number f_sign f_word f_wrong f_open f_lines f_acts Q A) args s 0 0 A) (F0 m 150 ls [])) :
    ∀ (x1 : Int32) (x3 : Int32) (x4 : Int32) (r_all : (Nat → Int32)) (r_comes : (Nat → Int32)) (r_leaves : (Nat → Int32)) (r_pile : (Nat → Int32)) (H : Heap) (locs : List Loc) (ls : Array Slot), wX11_anHour_211 Q K_150 x1 x3 x4 r_all r_comes r_leaves r_pile → va_P (dC, dI) vwCl (vX11_anHour cI cZ h h_all h_has h_line h_act h_pile h_comes h_leaves h_tried h_met f_size f_next f_where f_token f_number f_sign f_word f_wrong f_open f_lines f_acts r_all r_comes r_leaves r_pile) H → va_D A (vX11_anHour cI cZ h h_all h_has h_line h_act h_pile h_comes h_leaves h_tried h_met f_size f_next f_where f_token f_number f_sign f_word f_wrong f_open f_lines f_acts r_all r_comes r_leaves r_pile) → va_S A s.heap H locs → lv_has ls 6 [(0, .ref h), (1, .int x1), (3, .int x3), (4, .int x4)] → W p l e rmX11_anHour s m args below meth c H locs 0 0 (MQ below (qX11_anHour dC dI cI cZ cO cW h h_all h_has h_line h_act h_pile h_comes h_leaves h_tried h_met f_size f_next f_where f_token f_number f_sign f_word f_wrong f_open f_lines f_acts Q A) args s 0 0 A) (F0 m 211 ls []) := by
  obtain ⟨hx, hb, hr, hml, hown, hts, hlocks⟩ := id hC
  intro x1 x3 x4 r_all r_comes r_leaves r_pile H locs ls hw hP hD hS hl
  refine lv_iinc (v := (x4 + (1 : Int32))) (lv' := [(4, .int (x4 + (1 : Int32))), (0, .ref h), (1, .int x1), (3, .int x3)]) hx hb dX11_anHour_211 hl (k := 3) rfl rfl (by decide) rfl (fun ls hl => ?_)
  refine lv_goto (tgt := 150) hx hb dX11_anHour_214 (by decide) ?_
  exact hk_150 x1 x3 (x4 + (1 : Int32)) r_all r_comes r_leaves r_pile _ _ ls hw (hP.sub [0, 1, 2, 3, 4] rfl) (hD.sub [0, 1, 2, 3, 4] (by decide) rfl) hS (lv_sub hl [1, 2, 3, 0] rfl)
set_option maxHeartbeats 4000000 in
set_option maxRecDepth 100000 in
theorem tX11_anHour_196 {p : Program} {l : Launch} {e : Env} {s : State} {m : MethodId} {args : Array Value} {below : List Frame} {meth : Method} {c : Code} {dC : Nat → ClassId} {dI : Nat → Nat → Nat} {cI cZ cO cW : ClassId} {A : Nat → Prop} {h h_all h_has h_line h_act h_pile h_comes h_leaves h_tried h_met : Nat} {f_size f_next f_where f_token f_number f_sign f_word f_wrong f_open f_lines f_acts : Int32} {Q : (Nat → Int32) → (Nat → Int32) → (Nat → Int32) → (Nat → Int32) → Prop} {K_150 : Int32 → Int32 → Int32 → (Nat → Int32) → (Nat → Int32) → (Nat → Int32) → (Nat → Int32) → Prop} (hC : Cx p s m args meth c cX11_anHour none 6 GW RX11) (hK : va_K (dC, dI) vwCl (tysA cI cZ cO cW) s) (hA : ∀ q : Nat, s.heap.size ≤ q → A q) (hk_150 : ∀ (x1 : Int32) (x3 : Int32) (x4 : Int32) (r_all : (Nat → Int32)) (r_comes : (Nat → Int32)) (r_leaves : (Nat → Int32)) (r_pile : (Nat → Int32)) (H : Heap) (locs : List Loc) (ls : Array Slot), K_150 x1 x3 x4 r_all r_comes r_leaves r_pile → va_P (dC, dI) vwCl (vX11_anHour cI cZ h h_all h_has h_line h_act h_pile h_comes h_leaves h_tried h_met f_size f_next f_where f_token f_number f_sign f_word f_wrong f_open f_lines f_acts r_all r_comes r_leaves r_pile) H → va_D A (vX11_anHour cI cZ h h_all h_has h_line h_act h_pile h_comes h_leaves h_tried h_met f_size f_next f_where f_token f_number f_sign f_word f_wrong f_open f_lines f_acts r_all r_comes r_leaves r_pile) → va_S A s.heap H locs → lv_has ls 6 [(0, .ref h), (1, .int x1), (3, .int x3), (4, .int x4)] → W p l e rmX11_anHour s m args below meth c H locs 0 0 (MQ below (qX11_anHour dC dI cI cZ cO cW h h_all h_has h_line h_act h_pile h_comes h_leaves h_tried h_met f_size f_next f_where f_token f_number f_sign f_word f_wrong f_open f_lines f_acts Q A) args s 0 0 A) (F0 m 150 ls [])) :
    ∀ (x1 : Int32) (x3 : Int32) (x4 : Int32) (r_all : (Nat → Int32)) (r_comes : (Nat → Int32)) (r_leaves : (Nat → Int32)) (r_pile : (Nat → Int32)) (H : Heap) (locs : List Loc) (ls : Array Slot), wX11_anHour_196 Q K_150 x1 x3 x4 r_all r_comes r_leaves r_pile → va_P (dC, dI) vwCl (vX11_anHour cI cZ h h_all h_has h_line h_act h_pile h_comes h_leaves h_tried h_met f_size f_next f_where f_token f_number f_sign f_word f_wrong f_open f_lines f_acts r_all r_comes r_leaves r_pile) H → va_D A (vX11_anHour cI cZ h h_all h_has h_line h_act h_pile h_comes h_leaves h_tried h_met f_size f_next f_where f_token f_number f_sign f_word f_wrong f_open f_lines f_acts r_all r_comes r_leaves r_pile) → va_S A s.heap H locs → lv_has ls 6 [(0, .ref h), (1, .int x1), (3, .int x3), (4, .int x4)] → W p l e rmX11_anHour s m args below meth c H locs 0 0 (MQ below (qX11_anHour dC dI cI cZ cO cW h h_all h_has h_line h_act h_pile h_comes h_leaves h_tried h_met f_size f_next f_where f_token f_number f_sign f_word f_wrong f_open f_lines f_acts Q A) args s 0 0 A) (F0 m 196 ls []) := by
  obtain ⟨hx, hb, hr, hml, hown, hts, hlocks⟩ := id hC
  intro x1 x3 x4 r_all r_comes r_leaves r_pile H locs ls hw hP hD hS hl
  refine lv_aload_n hx hb dX11_anHour_196 rfl (lv_at hl 0 rfl) ?_
  refine va_get (D := (dC, dI)) (ci := 10) (v := .ref h_all) (C := RX11) (T := TX11) (N := 20) hx hb hts gu_X11 hown hK hP 0 rfl rfl 0 (by decide) (hts _ gw_607) (fun _ h9 => h9) rfl dX11_anHour_197 ?_
  refine lv_bipush (v := (40 : Int32)) hx hb dX11_anHour_200 (by decide) ?_
  refine lv_iconst (v := (5 : Int32)) hx hb dX11_anHour_202 (by decide) ?_
  refine lv_iload hx hb dX11_anHour_203 (lv_at hl 3 rfl) ?_
  refine lv_imul hx hb dX11_anHour_205 ?_
  refine lv_iadd hx hb dX11_anHour_206 ?_
  refine lv_iconst (v := (3 : Int32)) hx hb dX11_anHour_207 (by decide) ?_
  refine lv_iadd hx hb dX11_anHour_208 ?_
  refine lv_iconst (v := (-1 : Int32)) hx hb dX11_anHour_209 (by decide) ?_
  obtain ⟨h_6, hw⟩ := hw
  refine va_iast hx hb hK hP hD hS 1 0 rfl rfl h_6 dX11_anHour_210 (fun H locs hP hD hS => ?_)
  have hP : va_P (dC, dI) vwCl [(h, .inr (10, [.ref h_all, .ref h_has, .int f_size, .int f_next, .int f_where, .int f_token, .int f_number, .int f_sign, .int f_word, .int f_wrong, .int f_open, .int f_lines, .int f_acts, .ref h_line, .ref h_act, .ref h_pile, .ref h_comes, .ref h_leaves, .ref h_tried, .ref h_met])), (h_all, .inl (cI, 53700, .inl (upd r_all (((40 : Int32) + ((5 : Int32) * x4)) + (3 : Int32)).toNatClampNeg (-1 : Int32)))), (h_comes, .inl (cI, 64, .inl r_comes)), (h_leaves, .inl (cI, 64, .inl r_leaves)), (h_pile, .inl (cZ, 300, .inl r_pile))] _ := hP
  have hD : va_D A [(h, .inr (10, [.ref h_all, .ref h_has, .int f_size, .int f_next, .int f_where, .int f_token, .int f_number, .int f_sign, .int f_word, .int f_wrong, .int f_open, .int f_lines, .int f_acts, .ref h_line, .ref h_act, .ref h_pile, .ref h_comes, .ref h_leaves, .ref h_tried, .ref h_met])), (h_all, .inl (cI, 53700, .inl (upd r_all (((40 : Int32) + ((5 : Int32) * x4)) + (3 : Int32)).toNatClampNeg (-1 : Int32)))), (h_comes, .inl (cI, 64, .inl r_comes)), (h_leaves, .inl (cI, 64, .inl r_leaves)), (h_pile, .inl (cZ, 300, .inl r_pile))] := hD
  exact tX11_anHour_211 hC hK hA hk_150 x1 x3 x4 (upd r_all (((40 : Int32) + ((5 : Int32) * x4)) + (3 : Int32)).toNatClampNeg (-1 : Int32)) r_comes r_leaves r_pile _ _ ls hw (hP.sub [0, 1, 2, 3, 4] rfl) (hD.sub [0, 1, 2, 3, 4] (by decide) rfl) hS (lv_sub hl [0, 1, 2, 3] rfl)
set_option maxHeartbeats 4000000 in
set_option maxRecDepth 100000 in
theorem tX11_anHour_150 {p : Program} {l : Launch} {e : Env} {s : State} {m : MethodId} {args : Array Value} {below : List Frame} {meth : Method} {c : Code} {dC : Nat → ClassId} {dI : Nat → Nat → Nat} {cI cZ cO cW : ClassId} {A : Nat → Prop} {h h_all h_has h_line h_act h_pile h_comes h_leaves h_tried h_met : Nat} {f_size f_next f_where f_token f_number f_sign f_word f_wrong f_open f_lines f_acts : Int32} {Q : (Nat → Int32) → (Nat → Int32) → (Nat → Int32) → (Nat → Int32) → Prop}  (hC : Cx p s m args meth c cX11_anHour none 6 GW RX11) (hK : va_K (dC, dI) vwCl (tysA cI cZ cO cW) s) (hA : ∀ q : Nat, s.heap.size ≤ q → A q) :
    ∀ (n : Nat) (x1 : Int32) (x3 : Int32) (x4 : Int32) (r_all : (Nat → Int32)) (r_comes : (Nat → Int32)) (r_leaves : (Nat → Int32)) (r_pile : (Nat → Int32)) (H : Heap) (locs : List Loc) (ls : Array Slot), wX11_anHour_150 Q  n x1 x3 x4 r_all r_comes r_leaves r_pile → va_P (dC, dI) vwCl (vX11_anHour cI cZ h h_all h_has h_line h_act h_pile h_comes h_leaves h_tried h_met f_size f_next f_where f_token f_number f_sign f_word f_wrong f_open f_lines f_acts r_all r_comes r_leaves r_pile) H → va_D A (vX11_anHour cI cZ h h_all h_has h_line h_act h_pile h_comes h_leaves h_tried h_met f_size f_next f_where f_token f_number f_sign f_word f_wrong f_open f_lines f_acts r_all r_comes r_leaves r_pile) → va_S A s.heap H locs → lv_has ls 6 [(0, .ref h), (1, .int x1), (3, .int x3), (4, .int x4)] → W p l e rmX11_anHour s m args below meth c H locs 0 0 (MQ below (qX11_anHour dC dI cI cZ cO cW h h_all h_has h_line h_act h_pile h_comes h_leaves h_tried h_met f_size f_next f_where f_token f_number f_sign f_word f_wrong f_open f_lines f_acts Q A) args s 0 0 A) (F0 m 150 ls []) := by
  obtain ⟨hx, hb, hr, hml, hown, hts, hlocks⟩ := id hC
  intro n
  induction n with
  | zero =>
    intro  x1 x3 x4 r_all r_comes r_leaves r_pile H locs ls hw
    exact hw.elim
  | succ n ih =>
    intro  x1 x3 x4 r_all r_comes r_leaves r_pile H locs ls hw hP hD hS hl
    refine lv_iload hx hb dX11_anHour_150 (lv_at hl 3 rfl) ?_
    refine lv_bipush (v := (64 : Int32)) hx hb dX11_anHour_152 (by decide) ?_
    refine lv_icmp_ge (tgt := 217) hx hb dX11_anHour_154 (by decide) (fun c_7 => ?_) (fun c_7 => ?_)
    · have hw := hw.1 c_7
      refine lv_aload_n hx hb dX11_anHour_217 rfl (lv_at hl 0 rfl) ?_
      refine va_get (D := (dC, dI)) (ci := 10) (v := .ref h_all) (C := RX11) (T := TX11) (N := 20) hx hb hts gu_X11 hown hK hP 0 rfl rfl 0 (by decide) (hts _ gw_607) (fun _ h9 => h9) rfl dX11_anHour_218 ?_
      refine lv_iconst (v := (3 : Int32)) hx hb dX11_anHour_221 (by decide) ?_
      refine lv_dup2_11 hx hb dX11_anHour_222 rfl rfl ?_
      obtain ⟨h_8, hw⟩ := hw
      refine va_iald hx hb hK hP 1 0 rfl rfl h_8 dX11_anHour_223 ?_
      refine lv_iconst (v := (1 : Int32)) hx hb dX11_anHour_224 (by decide) ?_
      refine lv_iadd hx hb dX11_anHour_225 ?_
      obtain ⟨h_9, hw⟩ := hw
      refine va_iast hx hb hK hP hD hS 1 0 rfl rfl h_9 dX11_anHour_226 (fun H locs hP hD hS => ?_)
      have hP : va_P (dC, dI) vwCl [(h, .inr (10, [.ref h_all, .ref h_has, .int f_size, .int f_next, .int f_where, .int f_token, .int f_number, .int f_sign, .int f_word, .int f_wrong, .int f_open, .int f_lines, .int f_acts, .ref h_line, .ref h_act, .ref h_pile, .ref h_comes, .ref h_leaves, .ref h_tried, .ref h_met])), (h_all, .inl (cI, 53700, .inl (upd r_all (3 : Int32).toNatClampNeg ((r_all (3 : Int32).toNatClampNeg) + (1 : Int32))))), (h_comes, .inl (cI, 64, .inl r_comes)), (h_leaves, .inl (cI, 64, .inl r_leaves)), (h_pile, .inl (cZ, 300, .inl r_pile))] _ := hP
      have hD : va_D A [(h, .inr (10, [.ref h_all, .ref h_has, .int f_size, .int f_next, .int f_where, .int f_token, .int f_number, .int f_sign, .int f_word, .int f_wrong, .int f_open, .int f_lines, .int f_acts, .ref h_line, .ref h_act, .ref h_pile, .ref h_comes, .ref h_leaves, .ref h_tried, .ref h_met])), (h_all, .inl (cI, 53700, .inl (upd r_all (3 : Int32).toNatClampNeg ((r_all (3 : Int32).toNatClampNeg) + (1 : Int32))))), (h_comes, .inl (cI, 64, .inl r_comes)), (h_leaves, .inl (cI, 64, .inl r_leaves)), (h_pile, .inl (cZ, 300, .inl r_pile))] := hD
      have hP9 := hP.sub (ws' := (vX11_anHour cI cZ h h_all h_has h_line h_act h_pile h_comes h_leaves h_tried h_met f_size f_next f_where f_token f_number f_sign f_word f_wrong f_open f_lines f_acts (upd r_all (3 : Int32).toNatClampNeg ((r_all (3 : Int32).toNatClampNeg) + (1 : Int32))) r_comes r_leaves r_pile)) [0, 1, 2, 3, 4] rfl
      have hD9 := hD.sub (ws' := (vX11_anHour cI cZ h h_all h_has h_line h_act h_pile h_comes h_leaves h_tried h_met f_size f_next f_where f_token f_number f_sign f_word f_wrong f_open f_lines f_acts (upd r_all (3 : Int32).toNatClampNeg ((r_all (3 : Int32).toNatClampNeg) + (1 : Int32))) r_comes r_leaves r_pile)) [0, 1, 2, 3, 4] (by decide) rfl
      exact W.vret hx hb hr (fun t ht hW => ⟨⟨((upd r_all (3 : Int32).toNatClampNeg ((r_all (3 : Int32).toNatClampNeg) + (1 : Int32))), r_comes, r_leaves, r_pile), rfl, hw, by rw [ht]; exact hP9, va_K.moved hW.alike hK, hD9⟩, hS.F ht⟩) hS.2.2 dX11_anHour_227
    · have hw := hw.2 c_7
      refine lv_aload_n hx hb dX11_anHour_157 rfl (lv_at hl 0 rfl) ?_
      refine va_get (D := (dC, dI)) (ci := 10) (v := .ref h_all) (C := RX11) (T := TX11) (N := 20) hx hb hts gu_X11 hown hK hP 0 rfl rfl 0 (by decide) (hts _ gw_607) (fun _ h9 => h9) rfl dX11_anHour_158 ?_
      refine lv_bipush (v := (40 : Int32)) hx hb dX11_anHour_161 (by decide) ?_
      refine lv_iconst (v := (5 : Int32)) hx hb dX11_anHour_163 (by decide) ?_
      refine lv_iload hx hb dX11_anHour_164 (lv_at hl 3 rfl) ?_
      refine lv_imul hx hb dX11_anHour_166 ?_
      refine lv_iadd hx hb dX11_anHour_167 ?_
      refine lv_iconst (v := (3 : Int32)) hx hb dX11_anHour_168 (by decide) ?_
      refine lv_iadd hx hb dX11_anHour_169 ?_
      obtain ⟨h_10, hw⟩ := hw
      refine va_iald hx hb hK hP 1 0 rfl rfl h_10 dX11_anHour_170 ?_
      refine lv_istore (lv' := [(5, .int (r_all (((40 : Int32) + ((5 : Int32) * x4)) + (3 : Int32)).toNatClampNeg)), (0, .ref h), (1, .int x1), (3, .int x3), (4, .int x4)]) hx hb dX11_anHour_171 hl (by decide) rfl (fun ls hl => ?_)
      refine lv_iload hx hb dX11_anHour_173 (lv_at hl 0 rfl) ?_
      refine lv_if_lt (tgt := 211) hx hb dX11_anHour_175 (by decide) (fun c_11 => ?_) (fun c_11 => ?_)
      · have hw := hw.1 c_11
        exact tX11_anHour_211 hC hK hA ih x1 x3 x4 r_all r_comes r_leaves r_pile _ _ ls hw (hP.sub [0, 1, 2, 3, 4] rfl) (hD.sub [0, 1, 2, 3, 4] (by decide) rfl) hS (lv_sub hl [1, 2, 3, 4] rfl)
      · have hw := hw.2 c_11
        refine lv_aload_n hx hb dX11_anHour_178 rfl (lv_at hl 1 rfl) ?_
        refine va_get (D := (dC, dI)) (ci := 10) (v := .ref h_comes) (C := RX11) (T := TX11) (N := 20) hx hb hts gu_X11 hown hK hP 0 rfl rfl 16 (by decide) (hts _ gw_615) (fun _ h9 => h9) rfl dX11_anHour_179 ?_
        refine lv_iload hx hb dX11_anHour_182 (lv_at hl 4 rfl) ?_
        obtain ⟨h_12, hw⟩ := hw
        refine va_iald hx hb hK hP 2 0 rfl rfl h_12 dX11_anHour_184 ?_
        refine lv_if_gt (tgt := 196) hx hb dX11_anHour_185 (by decide) (fun c_13 => ?_) (fun c_13 => ?_)
        · have hw := hw.1 c_13
          exact tX11_anHour_196 hC hK hA ih x1 x3 x4 r_all r_comes r_leaves r_pile _ _ ls hw (hP.sub [0, 1, 2, 3, 4] rfl) (hD.sub [0, 1, 2, 3, 4] (by decide) rfl) hS (lv_sub hl [1, 2, 3, 4] rfl)
        · have hw := hw.2 c_13
          refine lv_iload_n hx hb dX11_anHour_188 rfl (lv_at hl 2 rfl) ?_
          refine lv_iload hx hb dX11_anHour_189 (lv_at hl 0 rfl) ?_
          refine lv_iload_n hx hb dX11_anHour_191 rfl (lv_at hl 3 rfl) ?_
          refine lv_iadd hx hb dX11_anHour_192 ?_
          refine lv_icmp_lt (tgt := 211) hx hb dX11_anHour_193 (by decide) (fun c_14 => ?_) (fun c_14 => ?_)
          · have hw := hw.1 c_14
            exact tX11_anHour_211 hC hK hA ih x1 x3 x4 r_all r_comes r_leaves r_pile _ _ ls hw (hP.sub [0, 1, 2, 3, 4] rfl) (hD.sub [0, 1, 2, 3, 4] (by decide) rfl) hS (lv_sub hl [1, 2, 3, 4] rfl)
          · have hw := hw.2 c_14
            exact tX11_anHour_196 hC hK hA ih x1 x3 x4 r_all r_comes r_leaves r_pile _ _ ls hw (hP.sub [0, 1, 2, 3, 4] rfl) (hD.sub [0, 1, 2, 3, 4] (by decide) rfl) hS (lv_sub hl [1, 2, 3, 4] rfl)
set_option maxHeartbeats 4000000 in
set_option maxRecDepth 100000 in
theorem tX11_anHour_142 {p : Program} {l : Launch} {e : Env} {s : State} {m : MethodId} {args : Array Value} {below : List Frame} {meth : Method} {c : Code} {dC : Nat → ClassId} {dI : Nat → Nat → Nat} {cI cZ cO cW : ClassId} {A : Nat → Prop} {h h_all h_has h_line h_act h_pile h_comes h_leaves h_tried h_met : Nat} {f_size f_next f_where f_token f_number f_sign f_word f_wrong f_open f_lines f_acts : Int32} {Q : (Nat → Int32) → (Nat → Int32) → (Nat → Int32) → (Nat → Int32) → Prop}  (hC : Cx p s m args meth c cX11_anHour none 6 GW RX11) (hK : va_K (dC, dI) vwCl (tysA cI cZ cO cW) s) (hA : ∀ q : Nat, s.heap.size ≤ q → A q) :
    ∀ (x1 : Int32) (s0 : Int32) (s1 : Int32) (r_all : (Nat → Int32)) (r_comes : (Nat → Int32)) (r_leaves : (Nat → Int32)) (r_pile : (Nat → Int32)) (H : Heap) (locs : List Loc) (ls : Array Slot), wX11_anHour_142 Q  x1 s0 s1 r_all r_comes r_leaves r_pile → va_P (dC, dI) vwCl (vX11_anHour cI cZ h h_all h_has h_line h_act h_pile h_comes h_leaves h_tried h_met f_size f_next f_where f_token f_number f_sign f_word f_wrong f_open f_lines f_acts r_all r_comes r_leaves r_pile) H → va_D A (vX11_anHour cI cZ h h_all h_has h_line h_act h_pile h_comes h_leaves h_tried h_met f_size f_next f_where f_token f_number f_sign f_word f_wrong f_open f_lines f_acts r_all r_comes r_leaves r_pile) → va_S A s.heap H locs → lv_has ls 6 [(0, .ref h), (1, .int x1)] → W p l e rmX11_anHour s m args below meth c H locs 0 0 (MQ below (qX11_anHour dC dI cI cZ cO cW h h_all h_has h_line h_act h_pile h_comes h_leaves h_tried h_met f_size f_next f_where f_token f_number f_sign f_word f_wrong f_open f_lines f_acts Q A) args s 0 0 A) (F0 m 142 ls [.int s1, .int s0]) := by
  obtain ⟨hx, hb, hr, hml, hown, hts, hlocks⟩ := id hC
  intro x1 s0 s1 r_all r_comes r_leaves r_pile H locs ls hw hP hD hS hl
  refine lv_bipush (v := (10 : Int32)) hx hb dX11_anHour_142 (by decide) ?_
  refine lv_idiv hx hb dX11_anHour_144 (by decide) ?_
  refine lv_isub hx hb dX11_anHour_145 ?_
  refine lv_istore_n (lv' := [(3, .int (s0 - (s1 / (10 : Int32)))), (0, .ref h), (1, .int x1)]) hx hb dX11_anHour_146 rfl hl (by decide) rfl (fun ls hl => ?_)
  refine lv_iconst (v := (0 : Int32)) hx hb dX11_anHour_147 (by decide) ?_
  refine lv_istore (lv' := [(4, .int (0 : Int32)), (3, .int (s0 - (s1 / (10 : Int32)))), (0, .ref h), (1, .int x1)]) hx hb dX11_anHour_148 hl (by decide) rfl (fun ls hl => ?_)
  obtain ⟨n_15, hw⟩ := hw
  exact tX11_anHour_150 hC hK hA  n_15 x1 (s0 - (s1 / (10 : Int32))) (0 : Int32) r_all r_comes r_leaves r_pile _ _ ls hw (hP.sub [0, 1, 2, 3, 4] rfl) (hD.sub [0, 1, 2, 3, 4] (by decide) rfl) hS (lv_sub hl [2, 3, 1, 0] rfl)
set_option maxHeartbeats 4000000 in
set_option maxRecDepth 100000 in
theorem tX11_anHour_45 {p : Program} {l : Launch} {e : Env} {s : State} {m : MethodId} {args : Array Value} {below : List Frame} {meth : Method} {c : Code} {dC : Nat → ClassId} {dI : Nat → Nat → Nat} {cI cZ cO cW : ClassId} {A : Nat → Prop} {h h_all h_has h_line h_act h_pile h_comes h_leaves h_tried h_met : Nat} {f_size f_next f_where f_token f_number f_sign f_word f_wrong f_open f_lines f_acts : Int32} {Q : (Nat → Int32) → (Nat → Int32) → (Nat → Int32) → (Nat → Int32) → Prop}  (hC : Cx p s m args meth c cX11_anHour none 6 GW RX11) (hK : va_K (dC, dI) vwCl (tysA cI cZ cO cW) s) (hA : ∀ q : Nat, s.heap.size ≤ q → A q) :
    ∀ (n : Nat) (x1 : Int32) (x2 : Int32) (x3 : Int32) (r_all : (Nat → Int32)) (r_comes : (Nat → Int32)) (r_leaves : (Nat → Int32)) (r_pile : (Nat → Int32)) (H : Heap) (locs : List Loc) (ls : Array Slot), wX11_anHour_45 Q  n x1 x2 x3 r_all r_comes r_leaves r_pile → va_P (dC, dI) vwCl (vX11_anHour cI cZ h h_all h_has h_line h_act h_pile h_comes h_leaves h_tried h_met f_size f_next f_where f_token f_number f_sign f_word f_wrong f_open f_lines f_acts r_all r_comes r_leaves r_pile) H → va_D A (vX11_anHour cI cZ h h_all h_has h_line h_act h_pile h_comes h_leaves h_tried h_met f_size f_next f_where f_token f_number f_sign f_word f_wrong f_open f_lines f_acts r_all r_comes r_leaves r_pile) → va_S A s.heap H locs → lv_has ls 6 [(0, .ref h), (1, .int x1), (2, .int x2), (3, .int x3)] → W p l e rmX11_anHour s m args below meth c H locs 0 0 (MQ below (qX11_anHour dC dI cI cZ cO cW h h_all h_has h_line h_act h_pile h_comes h_leaves h_tried h_met f_size f_next f_where f_token f_number f_sign f_word f_wrong f_open f_lines f_acts Q A) args s 0 0 A) (F0 m 45 ls []) := by
  obtain ⟨hx, hb, hr, hml, hown, hts, hlocks⟩ := id hC
  intro n
  induction n with
  | zero =>
    intro  x1 x2 x3 r_all r_comes r_leaves r_pile H locs ls hw
    exact hw.elim
  | succ n ih =>
    intro  x1 x2 x3 r_all r_comes r_leaves r_pile H locs ls hw hP hD hS hl
    refine lv_iload_n hx hb dX11_anHour_45 rfl (lv_at hl 3 rfl) ?_
    refine lv_aload_n hx hb dX11_anHour_46 rfl (lv_at hl 0 rfl) ?_
    refine va_get (D := (dC, dI)) (ci := 10) (v := .ref h_all) (C := RX11) (T := TX11) (N := 20) hx hb hts gu_X11 hown hK hP 0 rfl rfl 0 (by decide) (hts _ gw_607) (fun _ h9 => h9) rfl dX11_anHour_47 ?_
    refine lv_iconst (v := (0 : Int32)) hx hb dX11_anHour_50 (by decide) ?_
    obtain ⟨h_16, hw⟩ := hw
    refine va_iald hx hb hK hP 1 0 rfl rfl h_16 dX11_anHour_51 ?_
    refine lv_icmp_ge (tgt := 99) hx hb dX11_anHour_52 (by decide) (fun c_17 => ?_) (fun c_17 => ?_)
    · have hw := hw.1 c_17
      refine lv_aload_n hx hb dX11_anHour_99 rfl (lv_at hl 0 rfl) ?_
      refine lv_aload_n hx hb dX11_anHour_100 rfl (lv_at hl 0 rfl) ?_
      refine va_get (D := (dC, dI)) (ci := 10) (v := .ref h_all) (C := RX11) (T := TX11) (N := 20) hx hb hts gu_X11 hown hK hP 0 rfl rfl 0 (by decide) (hts _ gw_607) (fun _ h9 => h9) rfl dX11_anHour_101 ?_
      refine lv_sipush (v := (460 : Int32)) hx hb dX11_anHour_104 (by decide) ?_
      refine lv_iconst (v := (3 : Int32)) hx hb dX11_anHour_107 (by decide) ?_
      refine lv_iload_n hx hb dX11_anHour_108 rfl (lv_at hl 1 rfl) ?_
      refine lv_imul hx hb dX11_anHour_109 ?_
      refine lv_iadd hx hb dX11_anHour_110 ?_
      refine lv_iconst (v := (1 : Int32)) hx hb dX11_anHour_111 (by decide) ?_
      refine lv_iadd hx hb dX11_anHour_112 ?_
      obtain ⟨h_18, hw⟩ := hw
      refine va_iald hx hb hK hP 1 0 rfl rfl h_18 dX11_anHour_113 ?_
      refine lv_aload_n hx hb dX11_anHour_114 rfl (lv_at hl 0 rfl) ?_
      refine va_get (D := (dC, dI)) (ci := 10) (v := .ref h_all) (C := RX11) (T := TX11) (N := 20) hx hb hts gu_X11 hown hK hP 0 rfl rfl 0 (by decide) (hts _ gw_607) (fun _ h9 => h9) rfl dX11_anHour_115 ?_
      refine lv_sipush (v := (460 : Int32)) hx hb dX11_anHour_118 (by decide) ?_
      refine lv_iconst (v := (3 : Int32)) hx hb dX11_anHour_121 (by decide) ?_
      refine lv_iload_n hx hb dX11_anHour_122 rfl (lv_at hl 1 rfl) ?_
      refine lv_imul hx hb dX11_anHour_123 ?_
      refine lv_iadd hx hb dX11_anHour_124 ?_
      refine lv_iconst (v := (2 : Int32)) hx hb dX11_anHour_125 (by decide) ?_
      refine lv_iadd hx hb dX11_anHour_126 ?_
      obtain ⟨h_19, hw⟩ := hw
      refine va_iald hx hb hK hP 1 0 rfl rfl h_19 dX11_anHour_127 ?_
      have hPc := hP.sub (ws' := [(h, .inr (10, [.ref h_all, .ref h_has, .int f_size, .int f_next, .int f_where, .int f_token, .int f_number, .int f_sign, .int f_word, .int f_wrong, .int f_open, .int f_lines, .int f_acts, .ref h_line, .ref h_act, .ref h_pile, .ref h_comes, .ref h_leaves, .ref h_tried, .ref h_met])), (h_all, .inl (cI, 53700, .inl r_all)), (h_comes, .inl (cI, 64, .inl r_comes)), (h_leaves, .inl (cI, 64, .inl r_leaves))]) [0, 1, 2, 3] rfl
      have hDc := hD.sub (ws' := [(h, .inr (10, [.ref h_all, .ref h_has, .int f_size, .int f_next, .int f_where, .int f_token, .int f_number, .int f_sign, .int f_word, .int f_wrong, .int f_open, .int f_lines, .int f_acts, .ref h_line, .ref h_act, .ref h_pile, .ref h_comes, .ref h_leaves, .ref h_tried, .ref h_met])), (h_all, .inl (cI, 53700, .inl r_all)), (h_comes, .inl (cI, 64, .inl r_comes)), (h_leaves, .inl (cI, 64, .inl r_leaves))]) [0, 1, 2, 3] (by decide) rfl
      have hFc := va_free (wc := [(h, .inr (10, [.ref h_all, .ref h_has, .int f_size, .int f_next, .int f_where, .int f_token, .int f_number, .int f_sign, .int f_word, .int f_wrong, .int f_open, .int f_lines, .int f_acts, .ref h_line, .ref h_act, .ref h_pile, .ref h_comes, .ref h_leaves, .ref h_tried, .ref h_met])), (h_all, .inl (cI, 53700, .inl r_all)), (h_comes, .inl (cI, 64, .inl r_comes)), (h_leaves, .inl (cI, 64, .inl r_leaves))]) hD hS hA [0, 1, 2, 3] rfl
      refine va_callv (va_runV (As := [.int (r_all (((460 : Int32) + ((3 : Int32) * x1)) + (1 : Int32)).toNatClampNeg), .int (r_all (((460 : Int32) + ((3 : Int32) * x1)) + (2 : Int32)).toNatClampNeg)]) (rest := []) ⟨hx, hb, hml, hown, hts⟩ (kX11_drifts l dC dI cI cZ cO cW h h_all h_has h_line h_act h_pile h_comes h_leaves h_tried h_met H.size f_size f_next f_where f_token f_number f_sign f_word f_wrong f_open f_lines f_acts r_all r_comes r_leaves (r_all (((460 : Int32) + ((3 : Int32) * x1)) + (1 : Int32)).toNatClampNeg) (r_all (((460 : Int32) + ((3 : Int32) * x1)) + (2 : Int32)).toNatClampNeg) _ hw) (cwV 2 hts (gV gw_813 gw_814 gw_815 gw_622 (gM gw_806)) rfl rfl rfl (by decide +kernel) ⟨Nat.le_of_ble_eq_true rfl, Nat.le_of_ble_eq_true rfl⟩) (pv_of hPc hK hDc (va_recv hK hPc (ci := 10) (q0 := 0) rfl rfl)) rfl rfl hl.1 rfl (lv_room (Nat.le_of_ble_eq_true rfl)) dX11_anHour_128 ⟨Nat.zero_le _, Nat.zero_le _⟩) hS (fun q _ h => hFc q h) hFc (fun u t H locs ht hvm hw hB hz1 hk1 hS => ?_)
      obtain ⟨r_all_20, r_comes_21, r_leaves_22⟩ := u
      obtain ⟨hP, hD⟩ := af_join (wr := [(h_pile, .inl (cZ, 300, .inl r_pile))]) (w1 := [(h, .inr (10, [.ref h_all, .ref h_has, .int f_size, .int f_next, .int f_where, .int f_token, .int f_number, .int f_sign, .int f_word, .int f_wrong, .int f_open, .int f_lines, .int f_acts, .ref h_line, .ref h_act, .ref h_pile, .ref h_comes, .ref h_leaves, .ref h_tried, .ref h_met])), (h_all, .inl (cI, 53700, .inl r_all_20)), (h_comes, .inl (cI, 64, .inl r_comes_21)), (h_leaves, .inl (cI, 64, .inl r_leaves_22))]) hB ht hP hD [0, 1, 2, 3] [4] rfl rfl (by decide) (by decide) hk1 hFc
      have hP : va_P (dC, dI) vwCl [(h_pile, .inl (cZ, 300, .inl r_pile)), (h, .inr (10, [.ref h_all, .ref h_has, .int f_size, .int f_next, .int f_where, .int f_token, .int f_number, .int f_sign, .int f_word, .int f_wrong, .int f_open, .int f_lines, .int f_acts, .ref h_line, .ref h_act, .ref h_pile, .ref h_comes, .ref h_leaves, .ref h_tried, .ref h_met])), (h_all, .inl (cI, 53700, .inl r_all_20)), (h_comes, .inl (cI, 64, .inl r_comes_21)), (h_leaves, .inl (cI, 64, .inl r_leaves_22))] _ := hP
      have hD : va_D A [(h_pile, .inl (cZ, 300, .inl r_pile)), (h, .inr (10, [.ref h_all, .ref h_has, .int f_size, .int f_next, .int f_where, .int f_token, .int f_number, .int f_sign, .int f_word, .int f_wrong, .int f_open, .int f_lines, .int f_acts, .ref h_line, .ref h_act, .ref h_pile, .ref h_comes, .ref h_leaves, .ref h_tried, .ref h_met])), (h_all, .inl (cI, 53700, .inl r_all_20)), (h_comes, .inl (cI, 64, .inl r_comes_21)), (h_leaves, .inl (cI, 64, .inl r_leaves_22))] := hD
      refine lv_bipush (v := (7 : Int32)) hx hb dX11_anHour_131 (by decide) ?_
      refine lv_iload_n hx hb dX11_anHour_133 rfl (lv_at hl 2 rfl) ?_
      refine lv_if_ge (tgt := 141) hx hb dX11_anHour_134 (by decide) (fun c_23 => ?_) (fun c_23 => ?_)
      · have hw := hw.1 c_23
        refine lv_iload_n hx hb dX11_anHour_141 rfl (lv_at hl 2 rfl) ?_
        exact tX11_anHour_142 hC hK hA  x1 (7 : Int32) x2 r_all_20 r_comes_21 r_leaves_22 r_pile _ _ ls hw (hP.sub [1, 2, 3, 4, 0] rfl) (hD.sub [1, 2, 3, 4, 0] (by decide) rfl) hS (lv_sub hl [0, 1] rfl)
      · have hw := hw.2 c_23
        refine lv_iconst (v := (0 : Int32)) hx hb dX11_anHour_137 (by decide) ?_
        refine lv_goto (tgt := 142) hx hb dX11_anHour_138 (by decide) ?_
        exact tX11_anHour_142 hC hK hA  x1 (7 : Int32) (0 : Int32) r_all_20 r_comes_21 r_leaves_22 r_pile _ _ ls hw (hP.sub [1, 2, 3, 4, 0] rfl) (hD.sub [1, 2, 3, 4, 0] (by decide) rfl) hS (lv_sub hl [0, 1] rfl)
    · have hw := hw.2 c_17
      refine lv_iconst (v := (0 : Int32)) hx hb dX11_anHour_55 (by decide) ?_
      refine lv_istore (lv' := [(4, .int (0 : Int32)), (0, .ref h), (1, .int x1), (2, .int x2), (3, .int x3)]) hx hb dX11_anHour_56 hl (by decide) rfl (fun ls hl => ?_)
      obtain ⟨n_24, hw⟩ := hw
      exact tX11_anHour_58 hC hK hA ih n_24 x1 x2 x3 (0 : Int32) r_all r_comes r_leaves r_pile _ _ ls hw (hP.sub [0, 1, 2, 3, 4] rfl) (hD.sub [0, 1, 2, 3, 4] (by decide) rfl) hS (lv_sub hl [1, 2, 3, 4, 0] rfl)
set_option maxHeartbeats 4000000 in
set_option maxRecDepth 100000 in
theorem tX11_anHour_22 {p : Program} {l : Launch} {e : Env} {s : State} {m : MethodId} {args : Array Value} {below : List Frame} {meth : Method} {c : Code} {dC : Nat → ClassId} {dI : Nat → Nat → Nat} {cI cZ cO cW : ClassId} {A : Nat → Prop} {h h_all h_has h_line h_act h_pile h_comes h_leaves h_tried h_met : Nat} {f_size f_next f_where f_token f_number f_sign f_word f_wrong f_open f_lines f_acts : Int32} {Q : (Nat → Int32) → (Nat → Int32) → (Nat → Int32) → (Nat → Int32) → Prop}  (hC : Cx p s m args meth c cX11_anHour none 6 GW RX11) (hK : va_K (dC, dI) vwCl (tysA cI cZ cO cW) s) (hA : ∀ q : Nat, s.heap.size ≤ q → A q) :
    ∀ (n : Nat) (x1 : Int32) (x2 : Int32) (x3 : Int32) (r_all : (Nat → Int32)) (r_comes : (Nat → Int32)) (r_leaves : (Nat → Int32)) (r_pile : (Nat → Int32)) (H : Heap) (locs : List Loc) (ls : Array Slot), wX11_anHour_22 Q  n x1 x2 x3 r_all r_comes r_leaves r_pile → va_P (dC, dI) vwCl (vX11_anHour cI cZ h h_all h_has h_line h_act h_pile h_comes h_leaves h_tried h_met f_size f_next f_where f_token f_number f_sign f_word f_wrong f_open f_lines f_acts r_all r_comes r_leaves r_pile) H → va_D A (vX11_anHour cI cZ h h_all h_has h_line h_act h_pile h_comes h_leaves h_tried h_met f_size f_next f_where f_token f_number f_sign f_word f_wrong f_open f_lines f_acts r_all r_comes r_leaves r_pile) → va_S A s.heap H locs → lv_has ls 6 [(0, .ref h), (1, .int x1), (2, .int x2), (3, .int x3)] → W p l e rmX11_anHour s m args below meth c H locs 0 0 (MQ below (qX11_anHour dC dI cI cZ cO cW h h_all h_has h_line h_act h_pile h_comes h_leaves h_tried h_met f_size f_next f_where f_token f_number f_sign f_word f_wrong f_open f_lines f_acts Q A) args s 0 0 A) (F0 m 22 ls []) := by
  obtain ⟨hx, hb, hr, hml, hown, hts, hlocks⟩ := id hC
  intro n
  induction n with
  | zero =>
    intro  x1 x2 x3 r_all r_comes r_leaves r_pile H locs ls hw
    exact hw.elim
  | succ n ih =>
    intro  x1 x2 x3 r_all r_comes r_leaves r_pile H locs ls hw hP hD hS hl
    refine lv_iload_n hx hb dX11_anHour_22 rfl (lv_at hl 3 rfl) ?_
    refine lv_aload_n hx hb dX11_anHour_23 rfl (lv_at hl 0 rfl) ?_
    refine va_get (D := (dC, dI)) (ci := 10) (v := .ref h_all) (C := RX11) (T := TX11) (N := 20) hx hb hts gu_X11 hown hK hP 0 rfl rfl 0 (by decide) (hts _ gw_607) (fun _ h9 => h9) rfl dX11_anHour_24 ?_
    refine lv_iconst (v := (2 : Int32)) hx hb dX11_anHour_27 (by decide) ?_
    obtain ⟨h_25, hw⟩ := hw
    refine va_iald hx hb hK hP 1 0 rfl rfl h_25 dX11_anHour_28 ?_
    refine lv_icmp_ge (tgt := 43) hx hb dX11_anHour_29 (by decide) (fun c_26 => ?_) (fun c_26 => ?_)
    · have hw := hw.1 c_26
      refine lv_iconst (v := (0 : Int32)) hx hb dX11_anHour_43 (by decide) ?_
      refine lv_istore_n (lv' := [(3, .int (0 : Int32)), (0, .ref h), (1, .int x1), (2, .int x2)]) hx hb dX11_anHour_44 rfl hl (by decide) rfl (fun ls hl => ?_)
      obtain ⟨n_27, hw⟩ := hw
      exact tX11_anHour_45 hC hK hA  n_27 x1 x2 (0 : Int32) r_all r_comes r_leaves r_pile _ _ ls hw (hP.sub [0, 1, 2, 3, 4] rfl) (hD.sub [0, 1, 2, 3, 4] (by decide) rfl) hS (lv_sub hl [1, 2, 3, 0] rfl)
    · have hw := hw.2 c_26
      refine lv_aload_n hx hb dX11_anHour_32 rfl (lv_at hl 0 rfl) ?_
      refine lv_iload_n hx hb dX11_anHour_33 rfl (lv_at hl 3 rfl) ?_
      have hPc := hP.sub (ws' := [(h, .inr (10, [.ref h_all, .ref h_has, .int f_size, .int f_next, .int f_where, .int f_token, .int f_number, .int f_sign, .int f_word, .int f_wrong, .int f_open, .int f_lines, .int f_acts, .ref h_line, .ref h_act, .ref h_pile, .ref h_comes, .ref h_leaves, .ref h_tried, .ref h_met])), (h_all, .inl (cI, 53700, .inl r_all)), (h_pile, .inl (cZ, 300, .inl r_pile))]) [0, 1, 4] rfl
      have hDc := hD.sub (ws' := [(h, .inr (10, [.ref h_all, .ref h_has, .int f_size, .int f_next, .int f_where, .int f_token, .int f_number, .int f_sign, .int f_word, .int f_wrong, .int f_open, .int f_lines, .int f_acts, .ref h_line, .ref h_act, .ref h_pile, .ref h_comes, .ref h_leaves, .ref h_tried, .ref h_met])), (h_all, .inl (cI, 53700, .inl r_all)), (h_pile, .inl (cZ, 300, .inl r_pile))]) [0, 1, 4] (by decide) rfl
      have hFc := va_free (wc := [(h, .inr (10, [.ref h_all, .ref h_has, .int f_size, .int f_next, .int f_where, .int f_token, .int f_number, .int f_sign, .int f_word, .int f_wrong, .int f_open, .int f_lines, .int f_acts, .ref h_line, .ref h_act, .ref h_pile, .ref h_comes, .ref h_leaves, .ref h_tried, .ref h_met])), (h_all, .inl (cI, 53700, .inl r_all)), (h_pile, .inl (cZ, 300, .inl r_pile))]) hD hS hA [0, 1, 4] rfl
      refine va_callv (va_runV (As := [.int x3]) (rest := []) ⟨hx, hb, hml, hown, hts⟩ (kX11_obeys l dC dI cI cZ cO cW h h_all h_has h_line h_act h_pile h_comes h_leaves h_tried h_met H.size f_size f_next f_where f_token f_number f_sign f_word f_wrong f_open f_lines f_acts r_all r_pile x3 _ hw) (cwV 1 hts (gV gw_807 gw_808 gw_809 gw_622 (gM gw_804)) rfl rfl rfl (by decide +kernel) ⟨Nat.le_of_ble_eq_true rfl, Nat.le_of_ble_eq_true rfl⟩) (pv_of hPc hK hDc (va_recv hK hPc (ci := 10) (q0 := 0) rfl rfl)) rfl rfl hl.1 rfl (lv_room (Nat.le_of_ble_eq_true rfl)) dX11_anHour_34 ⟨Nat.zero_le _, Nat.zero_le _⟩) hS (fun q _ h => hFc q h) hFc (fun u t H locs ht hvm hw hB hz1 hk1 hS => ?_)
      obtain ⟨r_all_28, r_pile_29⟩ := u
      obtain ⟨hP, hD⟩ := af_join (wr := [(h_comes, .inl (cI, 64, .inl r_comes)), (h_leaves, .inl (cI, 64, .inl r_leaves))]) (w1 := [(h, .inr (10, [.ref h_all, .ref h_has, .int f_size, .int f_next, .int f_where, .int f_token, .int f_number, .int f_sign, .int f_word, .int f_wrong, .int f_open, .int f_lines, .int f_acts, .ref h_line, .ref h_act, .ref h_pile, .ref h_comes, .ref h_leaves, .ref h_tried, .ref h_met])), (h_all, .inl (cI, 53700, .inl r_all_28)), (h_pile, .inl (cZ, 300, .inl r_pile_29))]) hB ht hP hD [0, 1, 4] [2, 3] rfl rfl (by decide) (by decide) hk1 hFc
      have hP : va_P (dC, dI) vwCl [(h_comes, .inl (cI, 64, .inl r_comes)), (h_leaves, .inl (cI, 64, .inl r_leaves)), (h, .inr (10, [.ref h_all, .ref h_has, .int f_size, .int f_next, .int f_where, .int f_token, .int f_number, .int f_sign, .int f_word, .int f_wrong, .int f_open, .int f_lines, .int f_acts, .ref h_line, .ref h_act, .ref h_pile, .ref h_comes, .ref h_leaves, .ref h_tried, .ref h_met])), (h_all, .inl (cI, 53700, .inl r_all_28)), (h_pile, .inl (cZ, 300, .inl r_pile_29))] _ := hP
      have hD : va_D A [(h_comes, .inl (cI, 64, .inl r_comes)), (h_leaves, .inl (cI, 64, .inl r_leaves)), (h, .inr (10, [.ref h_all, .ref h_has, .int f_size, .int f_next, .int f_where, .int f_token, .int f_number, .int f_sign, .int f_word, .int f_wrong, .int f_open, .int f_lines, .int f_acts, .ref h_line, .ref h_act, .ref h_pile, .ref h_comes, .ref h_leaves, .ref h_tried, .ref h_met])), (h_all, .inl (cI, 53700, .inl r_all_28)), (h_pile, .inl (cZ, 300, .inl r_pile_29))] := hD
      refine lv_iinc (v := (x3 + (1 : Int32))) (lv' := [(3, .int (x3 + (1 : Int32))), (0, .ref h), (1, .int x1), (2, .int x2)]) hx hb dX11_anHour_37 hl (k := 3) rfl rfl (by decide) rfl (fun ls hl => ?_)
      refine lv_goto (tgt := 22) hx hb dX11_anHour_40 (by decide) ?_
      exact ih x1 x2 (x3 + (1 : Int32)) r_all_28 r_comes r_leaves r_pile_29 _ _ ls hw (hP.sub [2, 3, 0, 1, 4] rfl) (hD.sub [2, 3, 0, 1, 4] (by decide) rfl) hS (lv_sub hl [1, 2, 3, 0] rfl)
set_option maxHeartbeats 4000000 in
set_option maxRecDepth 100000 in
theorem tX11_anHour_e {p : Program} {l : Launch} {e : Env} {s : State} {m : MethodId} {args : Array Value} {below : List Frame} {meth : Method} {c : Code} {dC : Nat → ClassId} {dI : Nat → Nat → Nat} {cI cZ cO cW : ClassId} {A : Nat → Prop} {h h_all h_has h_line h_act h_pile h_comes h_leaves h_tried h_met : Nat} {f_size f_next f_where f_token f_number f_sign f_word f_wrong f_open f_lines f_acts : Int32} {Q : (Nat → Int32) → (Nat → Int32) → (Nat → Int32) → (Nat → Int32) → Prop} (hC : Cx p s m args meth c cX11_anHour none 6 GW RX11) (hK : va_K (dC, dI) vwCl (tysA cI cZ cO cW) s) (hA : ∀ q : Nat, s.heap.size ≤ q → A q) :
    ∀ (r_all : Nat → Int32) (r_comes : Nat → Int32) (r_leaves : Nat → Int32) (r_pile : Nat → Int32) (H : Heap) (locs : List Loc) (ls : Array Slot), wX11_anHour Q  r_all r_comes r_leaves r_pile → va_P (dC, dI) vwCl (vX11_anHour cI cZ h h_all h_has h_line h_act h_pile h_comes h_leaves h_tried h_met f_size f_next f_where f_token f_number f_sign f_word f_wrong f_open f_lines f_acts r_all r_comes r_leaves r_pile) H → va_D A (vX11_anHour cI cZ h h_all h_has h_line h_act h_pile h_comes h_leaves h_tried h_met f_size f_next f_where f_token f_number f_sign f_word f_wrong f_open f_lines f_acts r_all r_comes r_leaves r_pile) → va_S A s.heap H locs → lv_has ls 6 [(0, .ref h)] → W p l e rmX11_anHour s m args below meth c H locs 0 0 (MQ below (qX11_anHour dC dI cI cZ cO cW h h_all h_has h_line h_act h_pile h_comes h_leaves h_tried h_met f_size f_next f_where f_token f_number f_sign f_word f_wrong f_open f_lines f_acts Q A) args s 0 0 A) (F0 m 0 ls []) := by
  obtain ⟨hx, hb, hr, hml, hown, hts, hlocks⟩ := id hC
  intro  r_all r_comes r_leaves r_pile H locs ls hw hP hD hS hl
  refine lv_aload_n hx hb dX11_anHour_0 rfl (lv_at hl 0 rfl) ?_
  refine va_get (D := (dC, dI)) (ci := 10) (v := .ref h_all) (C := RX11) (T := TX11) (N := 20) hx hb hts gu_X11 hown hK hP 0 rfl rfl 0 (by decide) (hts _ gw_607) (fun _ h9 => h9) rfl dX11_anHour_1 ?_
  refine lv_iconst (v := (3 : Int32)) hx hb dX11_anHour_4 (by decide) ?_
  obtain ⟨h_30, hw⟩ := hw
  refine va_iald hx hb hK hP 1 0 rfl rfl h_30 dX11_anHour_5 ?_
  refine lv_istore_n (lv' := [(1, .int (r_all (3 : Int32).toNatClampNeg)), (0, .ref h)]) hx hb dX11_anHour_6 rfl hl (by decide) rfl (fun ls hl => ?_)
  refine lv_aload_n hx hb dX11_anHour_7 rfl (lv_at hl 1 rfl) ?_
  refine va_get (D := (dC, dI)) (ci := 10) (v := .ref h_all) (C := RX11) (T := TX11) (N := 20) hx hb hts gu_X11 hown hK hP 0 rfl rfl 0 (by decide) (hts _ gw_607) (fun _ h9 => h9) rfl dX11_anHour_8 ?_
  refine lv_sipush (v := (460 : Int32)) hx hb dX11_anHour_11 (by decide) ?_
  refine lv_iconst (v := (3 : Int32)) hx hb dX11_anHour_14 (by decide) ?_
  refine lv_iload_n hx hb dX11_anHour_15 rfl (lv_at hl 0 rfl) ?_
  refine lv_imul hx hb dX11_anHour_16 ?_
  refine lv_iadd hx hb dX11_anHour_17 ?_
  obtain ⟨h_31, hw⟩ := hw
  refine va_iald hx hb hK hP 1 0 rfl rfl h_31 dX11_anHour_18 ?_
  refine lv_istore_n (lv' := [(2, .int (r_all ((460 : Int32) + ((3 : Int32) * (r_all (3 : Int32).toNatClampNeg))).toNatClampNeg)), (1, .int (r_all (3 : Int32).toNatClampNeg)), (0, .ref h)]) hx hb dX11_anHour_19 rfl hl (by decide) rfl (fun ls hl => ?_)
  refine lv_iconst (v := (0 : Int32)) hx hb dX11_anHour_20 (by decide) ?_
  refine lv_istore_n (lv' := [(3, .int (0 : Int32)), (2, .int (r_all ((460 : Int32) + ((3 : Int32) * (r_all (3 : Int32).toNatClampNeg))).toNatClampNeg)), (1, .int (r_all (3 : Int32).toNatClampNeg)), (0, .ref h)]) hx hb dX11_anHour_21 rfl hl (by decide) rfl (fun ls hl => ?_)
  obtain ⟨n_32, hw⟩ := hw
  exact tX11_anHour_22 hC hK hA  n_32 (r_all (3 : Int32).toNatClampNeg) (r_all ((460 : Int32) + ((3 : Int32) * (r_all (3 : Int32).toNatClampNeg))).toNatClampNeg) (0 : Int32) r_all r_comes r_leaves r_pile _ _ ls hw (hP.sub [0, 1, 2, 3, 4] rfl) (hD.sub [0, 1, 2, 3, 4] (by decide) rfl) hS (lv_sub hl [3, 2, 1, 0] rfl)
set_option maxHeartbeats 4000000 in
set_option maxRecDepth 100000 in
theorem kX11_anHour (l : Launch) (dC : Nat → ClassId) (dI : Nat → Nat → Nat) (cI cZ cO cW : ClassId) (h h_all h_has h_line h_act h_pile h_comes h_leaves h_tried h_met : Nat)  (sz : Nat) (f_size : Int32) (f_next : Int32) (f_where : Int32) (f_token : Int32) (f_number : Int32) (f_sign : Int32) (f_word : Int32) (f_wrong : Int32) (f_open : Int32) (f_lines : Int32) (f_acts : Int32) (r_all : Nat → Int32) (r_comes : Nat → Int32) (r_leaves : Nat → Int32) (r_pile : Nat → Int32)  (Q : (Nat → Int32) → (Nat → Int32) → (Nat → Int32) → (Nat → Int32) → Prop) (hw : wX11_anHour Q  r_all r_comes r_leaves r_pile) : Met l yX11_anHour zsX11_anHour rmX11_anHour (va_Pc [.ref h] (fun U => U.heap.size = sz ∧ va_P (dC, dI) vwCl (vX11_anHour cI cZ h h_all h_has h_line h_act h_pile h_comes h_leaves h_tried h_met f_size f_next f_where f_token f_number f_sign f_word f_wrong f_open f_lines f_acts r_all r_comes r_leaves r_pile) U.heap ∧ va_K (dC, dI) vwCl (tysA cI cZ cO cW) U ∧ va_D (fun _ => True) (vX11_anHour cI cZ h h_all h_has h_line h_act h_pile h_comes h_leaves h_tried h_met f_size f_next f_where f_token f_number f_sign f_word f_wrong f_open f_lines f_acts r_all r_comes r_leaves r_pile))) (qX11_anHour dC dI cI cZ cO cW h h_all h_has h_line h_act h_pile h_comes h_leaves h_tried h_met f_size f_next f_where f_token f_number f_sign f_word f_wrong f_open f_lines f_acts Q (va_A (vX11_anHour cI cZ h h_all h_has h_line h_act h_pile h_comes h_leaves h_tried h_met f_size f_next f_where f_token f_number f_sign f_word f_wrong f_open f_lines f_acts r_all r_comes r_leaves r_pile) sz)) 0 0 (va_A (vX11_anHour cI cZ h h_all h_has h_line h_act h_pile h_comes h_leaves h_tried h_met f_size f_next f_where f_token f_number f_sign f_word f_wrong f_open f_lines f_acts r_all r_comes r_leaves r_pile) sz) := by
  refine Met.ofW (cc := cX11_anHour) (maxL := 6) (ret := none) (by decide) rfl ?_
  intro p e s m args below meth c s₁ B hml hv
  obtain ⟨rfl, hsz, hP, hK, hD0⟩ := hv
  subst hsz
  have hC : Cx p s m ([.ref h] : List Value).toArray meth c cX11_anHour none 6 GW RX11 := ⟨B.exec, B.bytes, B.returns, hml, findClass_of_methodNamed B.named, fun w h => atoms_spec (ws := zsX11_anHour) B.pre w (List.mem_cons_of_mem _ h), B.notSynchronized⟩
  have hD := hD0.self (sz := s.heap.size)
  generalize hAe : va_A (vX11_anHour cI cZ h h_all h_has h_line h_act h_pile h_comes h_leaves h_tried h_met f_size f_next f_where f_token f_number f_sign f_word f_wrong f_open f_lines f_acts r_all r_comes r_leaves r_pile) s.heap.size = A at hD ⊢
  have hA : ∀ q : Nat, s.heap.size ≤ q → A q := fun q h => by rw [← hAe]; exact Or.inr h
  have hl := lv_entry ([.ref h]) (n := 6) (Nat.le_of_ble_eq_true rfl)
  rw [lg_entry_eq]
  generalize (lg_sl ([.ref h]) ++ List.replicate (6 - (lg_sl ([.ref h])).length) Slot.unset).toArray = ls at hl ⊢
  exact tX11_anHour_e hC hK hA  r_all r_comes r_leaves r_pile _ _ ls hw hP hD va_S.rf hl

/-! X11_hours -/
def wX11_hours_12 (Q : Int32 → (Nat → Int32) → (Nat → Int32) → (Nat → Int32) → (Nat → Int32) → Prop)   : Nat → Int32 → Int32 → (Nat → Int32) → (Nat → Int32) → (Nat → Int32) → (Nat → Int32) → Prop
  | 0, _, _, _, _, _, _ => False
  | n + 1, x1, x2, r_all, r_comes, r_leaves, r_pile => ((x1 ≤ x2 → (vp_in (3 : Int32) 53700 ∧ (Q (r_all (3 : Int32).toNatClampNeg) r_all r_comes r_leaves r_pile))) ∧ (¬ x1 ≤ x2 → (wX11_anHour (fun r_all_3 r_comes_4 r_leaves_5 r_pile_6 => (wX11_hours_12 Q n x1 (x2 + (1 : Int32)) r_all_3 r_comes_4 r_leaves_5 r_pile_6)) r_all r_comes r_leaves r_pile)))
def wX11_hours (Q : Int32 → (Nat → Int32) → (Nat → Int32) → (Nat → Int32) → (Nat → Int32) → Prop) (x1 : Int32) (r_all : Nat → Int32) (r_comes : Nat → Int32) (r_leaves : Nat → Int32) (r_pile : Nat → Int32) : Prop :=
  (wX11_mayGo (fun r_7 => ((¬ r_7 = 0 → (∃ j_, wX11_hours_12 Q j_ x1 (0 : Int32) r_all r_comes r_leaves r_pile)) ∧ (r_7 = 0 → (Q (-1 : Int32) r_all r_comes r_leaves r_pile)))) x1 r_all)
abbrev vX11_hours (cI cZ : ClassId) (h h_all h_has h_line h_act h_pile h_comes h_leaves h_tried h_met : Nat) (f_size : Int32) (f_next : Int32) (f_where : Int32) (f_token : Int32) (f_number : Int32) (f_sign : Int32) (f_word : Int32) (f_wrong : Int32) (f_open : Int32) (f_lines : Int32) (f_acts : Int32) (r_all : Nat → Int32) (r_comes : Nat → Int32) (r_leaves : Nat → Int32) (r_pile : Nat → Int32) : va_W := [(h, .inr (10, [.ref h_all, .ref h_has, .int f_size, .int f_next, .int f_where, .int f_token, .int f_number, .int f_sign, .int f_word, .int f_wrong, .int f_open, .int f_lines, .int f_acts, .ref h_line, .ref h_act, .ref h_pile, .ref h_comes, .ref h_leaves, .ref h_tried, .ref h_met])), (h_all, .inl (cI, 53700, .inl r_all)), (h_comes, .inl (cI, 64, .inl r_comes)), (h_leaves, .inl (cI, 64, .inl r_leaves)), (h_pile, .inl (cZ, 300, .inl r_pile))]
abbrev rmX11_hours : Room := { frames := 8, cells := 0, slots := 0, locals := 191 }
abbrev qX11_hours (dC : Nat → ClassId) (dI : Nat → Nat → Nat) (cI cZ cO cW : ClassId) (h h_all h_has h_line h_act h_pile h_comes h_leaves h_tried h_met : Nat) (f_size : Int32) (f_next : Int32) (f_where : Int32) (f_token : Int32) (f_number : Int32) (f_sign : Int32) (f_word : Int32) (f_wrong : Int32) (f_open : Int32) (f_lines : Int32) (f_acts : Int32) (Q : Int32 → (Nat → Int32) → (Nat → Int32) → (Nat → Int32) → (Nat → Int32) → Prop) (A : Nat → Prop) : Array Value → State → Outcome → State → Prop := va_Qi (fun (r : Int32) (u : (Nat → Int32) × (Nat → Int32) × (Nat → Int32) × (Nat → Int32)) => Q r u.1 u.2.1 u.2.2.1 u.2.2.2) (fun (u : (Nat → Int32) × (Nat → Int32) × (Nat → Int32) × (Nat → Int32)) (t : State) => va_P (dC, dI) vwCl (vX11_hours cI cZ h h_all h_has h_line h_act h_pile h_comes h_leaves h_tried h_met f_size f_next f_where f_token f_number f_sign f_word f_wrong f_open f_lines f_acts u.1 u.2.1 u.2.2.1 u.2.2.2) t.heap ∧ va_K (dC, dI) vwCl (tysA cI cZ cO cW) t ∧ va_D A (vX11_hours cI cZ h h_all h_has h_line h_act h_pile h_comes h_leaves h_tried h_met f_size f_next f_where f_token f_number f_sign f_word f_wrong f_open f_lines f_acts u.1 u.2.1 u.2.2.1 u.2.2.2)) A
def zsX11_hours : List Cond := Cond.code yX11_hours cX11_hours 3 (some .int) :: GW
set_option maxHeartbeats 4000000 in
set_option maxRecDepth 100000 in
theorem tX11_hours_12 {p : Program} {l : Launch} {e : Env} {s : State} {m : MethodId} {args : Array Value} {below : List Frame} {meth : Method} {c : Code} {dC : Nat → ClassId} {dI : Nat → Nat → Nat} {cI cZ cO cW : ClassId} {A : Nat → Prop} {h h_all h_has h_line h_act h_pile h_comes h_leaves h_tried h_met : Nat} {f_size f_next f_where f_token f_number f_sign f_word f_wrong f_open f_lines f_acts : Int32} {Q : Int32 → (Nat → Int32) → (Nat → Int32) → (Nat → Int32) → (Nat → Int32) → Prop}  (hC : Cx p s m args meth c cX11_hours (some .int) 3 GW RX11) (hK : va_K (dC, dI) vwCl (tysA cI cZ cO cW) s) (hA : ∀ q : Nat, s.heap.size ≤ q → A q) :
    ∀ (n : Nat) (x1 : Int32) (x2 : Int32) (r_all : (Nat → Int32)) (r_comes : (Nat → Int32)) (r_leaves : (Nat → Int32)) (r_pile : (Nat → Int32)) (H : Heap) (locs : List Loc) (ls : Array Slot), wX11_hours_12 Q  n x1 x2 r_all r_comes r_leaves r_pile → va_P (dC, dI) vwCl (vX11_hours cI cZ h h_all h_has h_line h_act h_pile h_comes h_leaves h_tried h_met f_size f_next f_where f_token f_number f_sign f_word f_wrong f_open f_lines f_acts r_all r_comes r_leaves r_pile) H → va_D A (vX11_hours cI cZ h h_all h_has h_line h_act h_pile h_comes h_leaves h_tried h_met f_size f_next f_where f_token f_number f_sign f_word f_wrong f_open f_lines f_acts r_all r_comes r_leaves r_pile) → va_S A s.heap H locs → lv_has ls 3 [(0, .ref h), (1, .int x1), (2, .int x2)] → W p l e rmX11_hours s m args below meth c H locs 0 0 (MQ below (qX11_hours dC dI cI cZ cO cW h h_all h_has h_line h_act h_pile h_comes h_leaves h_tried h_met f_size f_next f_where f_token f_number f_sign f_word f_wrong f_open f_lines f_acts Q A) args s 0 0 A) (F0 m 12 ls []) := by
  obtain ⟨hx, hb, hr, hml, hown, hts, hlocks⟩ := id hC
  intro n
  induction n with
  | zero =>
    intro  x1 x2 r_all r_comes r_leaves r_pile H locs ls hw
    exact hw.elim
  | succ n ih =>
    intro  x1 x2 r_all r_comes r_leaves r_pile H locs ls hw hP hD hS hl
    refine lv_iload_n hx hb dX11_hours_12 rfl (lv_at hl 2 rfl) ?_
    refine lv_iload_n hx hb dX11_hours_13 rfl (lv_at hl 1 rfl) ?_
    refine lv_icmp_ge (tgt := 27) hx hb dX11_hours_14 (by decide) (fun c_1 => ?_) (fun c_1 => ?_)
    · have hw := hw.1 c_1
      refine lv_aload_n hx hb dX11_hours_27 rfl (lv_at hl 0 rfl) ?_
      refine va_get (D := (dC, dI)) (ci := 10) (v := .ref h_all) (C := RX11) (T := TX11) (N := 20) hx hb hts gu_X11 hown hK hP 0 rfl rfl 0 (by decide) (hts _ gw_607) (fun _ h9 => h9) rfl dX11_hours_28 ?_
      refine lv_iconst (v := (3 : Int32)) hx hb dX11_hours_31 (by decide) ?_
      obtain ⟨h_2, hw⟩ := hw
      refine va_iald hx hb hK hP 1 0 rfl rfl h_2 dX11_hours_32 ?_
      have hP9 := hP.sub (ws' := (vX11_hours cI cZ h h_all h_has h_line h_act h_pile h_comes h_leaves h_tried h_met f_size f_next f_where f_token f_number f_sign f_word f_wrong f_open f_lines f_acts r_all r_comes r_leaves r_pile)) [0, 1, 2, 3, 4] rfl
      have hD9 := hD.sub (ws' := (vX11_hours cI cZ h h_all h_has h_line h_act h_pile h_comes h_leaves h_tried h_met f_size f_next f_where f_token f_number f_sign f_word f_wrong f_open f_lines f_acts r_all r_comes r_leaves r_pile)) [0, 1, 2, 3, 4] (by decide) rfl
      exact W.iret (v := (r_all (3 : Int32).toNatClampNeg)) hx hb hr (fun t ht hW => ⟨⟨(r_all (3 : Int32).toNatClampNeg), (r_all, r_comes, r_leaves, r_pile), rfl, hw, by rw [ht]; exact hP9, va_K.moved hW.alike hK, hD9⟩, hS.F ht⟩) hS.2.2 dX11_hours_33
    · have hw := hw.2 c_1
      refine lv_aload_n hx hb dX11_hours_17 rfl (lv_at hl 0 rfl) ?_
      have hPc := hP.sub (ws' := [(h, .inr (10, [.ref h_all, .ref h_has, .int f_size, .int f_next, .int f_where, .int f_token, .int f_number, .int f_sign, .int f_word, .int f_wrong, .int f_open, .int f_lines, .int f_acts, .ref h_line, .ref h_act, .ref h_pile, .ref h_comes, .ref h_leaves, .ref h_tried, .ref h_met])), (h_all, .inl (cI, 53700, .inl r_all)), (h_comes, .inl (cI, 64, .inl r_comes)), (h_leaves, .inl (cI, 64, .inl r_leaves)), (h_pile, .inl (cZ, 300, .inl r_pile))]) [0, 1, 2, 3, 4] rfl
      have hDc := hD.sub (ws' := [(h, .inr (10, [.ref h_all, .ref h_has, .int f_size, .int f_next, .int f_where, .int f_token, .int f_number, .int f_sign, .int f_word, .int f_wrong, .int f_open, .int f_lines, .int f_acts, .ref h_line, .ref h_act, .ref h_pile, .ref h_comes, .ref h_leaves, .ref h_tried, .ref h_met])), (h_all, .inl (cI, 53700, .inl r_all)), (h_comes, .inl (cI, 64, .inl r_comes)), (h_leaves, .inl (cI, 64, .inl r_leaves)), (h_pile, .inl (cZ, 300, .inl r_pile))]) [0, 1, 2, 3, 4] (by decide) rfl
      have hFc := va_free (wc := [(h, .inr (10, [.ref h_all, .ref h_has, .int f_size, .int f_next, .int f_where, .int f_token, .int f_number, .int f_sign, .int f_word, .int f_wrong, .int f_open, .int f_lines, .int f_acts, .ref h_line, .ref h_act, .ref h_pile, .ref h_comes, .ref h_leaves, .ref h_tried, .ref h_met])), (h_all, .inl (cI, 53700, .inl r_all)), (h_comes, .inl (cI, 64, .inl r_comes)), (h_leaves, .inl (cI, 64, .inl r_leaves)), (h_pile, .inl (cZ, 300, .inl r_pile))]) hD hS hA [0, 1, 2, 3, 4] rfl
      refine va_callv (va_runV (As := []) (rest := []) ⟨hx, hb, hml, hown, hts⟩ (kX11_anHour l dC dI cI cZ cO cW h h_all h_has h_line h_act h_pile h_comes h_leaves h_tried h_met H.size f_size f_next f_where f_token f_number f_sign f_word f_wrong f_open f_lines f_acts r_all r_comes r_leaves r_pile _ hw) (cwV 0 hts (gV gw_821 gw_822 gw_823 gw_622 (gM gw_816)) rfl rfl rfl (by decide +kernel) ⟨Nat.le_of_ble_eq_true rfl, Nat.le_of_ble_eq_true rfl⟩) (pv_of hPc hK hDc (va_recv hK hPc (ci := 10) (q0 := 0) rfl rfl)) rfl rfl hl.1 rfl (lv_room (Nat.le_of_ble_eq_true rfl)) dX11_hours_18 ⟨Nat.zero_le _, Nat.zero_le _⟩) hS (fun q _ h => hFc q h) hFc (fun u t H locs ht hvm hw hB hz1 hk1 hS => ?_)
      obtain ⟨r_all_3, r_comes_4, r_leaves_5, r_pile_6⟩ := u
      obtain ⟨hP, hD⟩ := af_join (wr := []) (w1 := [(h, .inr (10, [.ref h_all, .ref h_has, .int f_size, .int f_next, .int f_where, .int f_token, .int f_number, .int f_sign, .int f_word, .int f_wrong, .int f_open, .int f_lines, .int f_acts, .ref h_line, .ref h_act, .ref h_pile, .ref h_comes, .ref h_leaves, .ref h_tried, .ref h_met])), (h_all, .inl (cI, 53700, .inl r_all_3)), (h_comes, .inl (cI, 64, .inl r_comes_4)), (h_leaves, .inl (cI, 64, .inl r_leaves_5)), (h_pile, .inl (cZ, 300, .inl r_pile_6))]) hB ht hP hD [0, 1, 2, 3, 4] [] rfl rfl (by decide) (by decide) hk1 hFc
      have hP : va_P (dC, dI) vwCl [(h, .inr (10, [.ref h_all, .ref h_has, .int f_size, .int f_next, .int f_where, .int f_token, .int f_number, .int f_sign, .int f_word, .int f_wrong, .int f_open, .int f_lines, .int f_acts, .ref h_line, .ref h_act, .ref h_pile, .ref h_comes, .ref h_leaves, .ref h_tried, .ref h_met])), (h_all, .inl (cI, 53700, .inl r_all_3)), (h_comes, .inl (cI, 64, .inl r_comes_4)), (h_leaves, .inl (cI, 64, .inl r_leaves_5)), (h_pile, .inl (cZ, 300, .inl r_pile_6))] _ := hP
      have hD : va_D A [(h, .inr (10, [.ref h_all, .ref h_has, .int f_size, .int f_next, .int f_where, .int f_token, .int f_number, .int f_sign, .int f_word, .int f_wrong, .int f_open, .int f_lines, .int f_acts, .ref h_line, .ref h_act, .ref h_pile, .ref h_comes, .ref h_leaves, .ref h_tried, .ref h_met])), (h_all, .inl (cI, 53700, .inl r_all_3)), (h_comes, .inl (cI, 64, .inl r_comes_4)), (h_leaves, .inl (cI, 64, .inl r_leaves_5)), (h_pile, .inl (cZ, 300, .inl r_pile_6))] := hD
      refine lv_iinc (v := (x2 + (1 : Int32))) (lv' := [(2, .int (x2 + (1 : Int32))), (0, .ref h), (1, .int x1)]) hx hb dX11_hours_21 hl (k := 2) rfl rfl (by decide) rfl (fun ls hl => ?_)
      refine lv_goto (tgt := 12) hx hb dX11_hours_24 (by decide) ?_
      exact ih x1 (x2 + (1 : Int32)) r_all_3 r_comes_4 r_leaves_5 r_pile_6 _ _ ls hw (hP.sub [0, 1, 2, 3, 4] rfl) (hD.sub [0, 1, 2, 3, 4] (by decide) rfl) hS (lv_sub hl [1, 2, 0] rfl)
set_option maxHeartbeats 4000000 in
set_option maxRecDepth 100000 in
theorem tX11_hours_e {p : Program} {l : Launch} {e : Env} {s : State} {m : MethodId} {args : Array Value} {below : List Frame} {meth : Method} {c : Code} {dC : Nat → ClassId} {dI : Nat → Nat → Nat} {cI cZ cO cW : ClassId} {A : Nat → Prop} {h h_all h_has h_line h_act h_pile h_comes h_leaves h_tried h_met : Nat} {f_size f_next f_where f_token f_number f_sign f_word f_wrong f_open f_lines f_acts : Int32} {Q : Int32 → (Nat → Int32) → (Nat → Int32) → (Nat → Int32) → (Nat → Int32) → Prop} (hC : Cx p s m args meth c cX11_hours (some .int) 3 GW RX11) (hK : va_K (dC, dI) vwCl (tysA cI cZ cO cW) s) (hA : ∀ q : Nat, s.heap.size ≤ q → A q) :
    ∀ (x1 : Int32) (r_all : Nat → Int32) (r_comes : Nat → Int32) (r_leaves : Nat → Int32) (r_pile : Nat → Int32) (H : Heap) (locs : List Loc) (ls : Array Slot), wX11_hours Q x1 r_all r_comes r_leaves r_pile → va_P (dC, dI) vwCl (vX11_hours cI cZ h h_all h_has h_line h_act h_pile h_comes h_leaves h_tried h_met f_size f_next f_where f_token f_number f_sign f_word f_wrong f_open f_lines f_acts r_all r_comes r_leaves r_pile) H → va_D A (vX11_hours cI cZ h h_all h_has h_line h_act h_pile h_comes h_leaves h_tried h_met f_size f_next f_where f_token f_number f_sign f_word f_wrong f_open f_lines f_acts r_all r_comes r_leaves r_pile) → va_S A s.heap H locs → lv_has ls 3 [(0, .ref h), (1, .int x1)] → W p l e rmX11_hours s m args below meth c H locs 0 0 (MQ below (qX11_hours dC dI cI cZ cO cW h h_all h_has h_line h_act h_pile h_comes h_leaves h_tried h_met f_size f_next f_where f_token f_number f_sign f_word f_wrong f_open f_lines f_acts Q A) args s 0 0 A) (F0 m 0 ls []) := by
  obtain ⟨hx, hb, hr, hml, hown, hts, hlocks⟩ := id hC
  intro x1 r_all r_comes r_leaves r_pile H locs ls hw hP hD hS hl
  refine lv_aload_n hx hb dX11_hours_0 rfl (lv_at hl 0 rfl) ?_
  refine lv_iload_n hx hb dX11_hours_1 rfl (lv_at hl 1 rfl) ?_
  have hPc := hP.sub (ws' := [(h, .inr (10, [.ref h_all, .ref h_has, .int f_size, .int f_next, .int f_where, .int f_token, .int f_number, .int f_sign, .int f_word, .int f_wrong, .int f_open, .int f_lines, .int f_acts, .ref h_line, .ref h_act, .ref h_pile, .ref h_comes, .ref h_leaves, .ref h_tried, .ref h_met])), (h_all, .inl (cI, 53700, .inl r_all))]) [0, 1] rfl
  have hDc := hD.sub (ws' := [(h, .inr (10, [.ref h_all, .ref h_has, .int f_size, .int f_next, .int f_where, .int f_token, .int f_number, .int f_sign, .int f_word, .int f_wrong, .int f_open, .int f_lines, .int f_acts, .ref h_line, .ref h_act, .ref h_pile, .ref h_comes, .ref h_leaves, .ref h_tried, .ref h_met])), (h_all, .inl (cI, 53700, .inl r_all))]) [0, 1] (by decide) rfl
  have hFc := va_free (wc := [(h, .inr (10, [.ref h_all, .ref h_has, .int f_size, .int f_next, .int f_where, .int f_token, .int f_number, .int f_sign, .int f_word, .int f_wrong, .int f_open, .int f_lines, .int f_acts, .ref h_line, .ref h_act, .ref h_pile, .ref h_comes, .ref h_leaves, .ref h_tried, .ref h_met])), (h_all, .inl (cI, 53700, .inl r_all))]) hD hS hA [0, 1] rfl
  refine va_calli (va_runV (As := [.int x1]) (rest := []) ⟨hx, hb, hml, hown, hts⟩ (kX11_mayGo l dC dI cI cZ cO cW h h_all h_has h_line h_act h_pile h_comes h_leaves h_tried h_met H.size f_size f_next f_where f_token f_number f_sign f_word f_wrong f_open f_lines f_acts r_all x1 _ hw) (cwV 1 hts (gV gw_818 gw_819 gw_820 gw_622 (gM gw_817)) rfl rfl rfl (by decide +kernel) ⟨Nat.le_of_ble_eq_true rfl, Nat.le_of_ble_eq_true rfl⟩) (pv_of hPc hK hDc (va_recv hK hPc (ci := 10) (q0 := 0) rfl rfl)) rfl rfl hl.1 rfl (lv_room (Nat.le_of_ble_eq_true rfl)) dX11_hours_2 ⟨Nat.zero_le _, Nat.zero_le _⟩) hS (fun q _ h => hFc q h) hFc (fun r_7 u t H locs ht hvm hw hB hz1 hk1 hS => ?_)
  obtain ⟨hP, hD⟩ := af_join (wr := [(h_comes, .inl (cI, 64, .inl r_comes)), (h_leaves, .inl (cI, 64, .inl r_leaves)), (h_pile, .inl (cZ, 300, .inl r_pile))]) (w1 := [(h, .inr (10, [.ref h_all, .ref h_has, .int f_size, .int f_next, .int f_where, .int f_token, .int f_number, .int f_sign, .int f_word, .int f_wrong, .int f_open, .int f_lines, .int f_acts, .ref h_line, .ref h_act, .ref h_pile, .ref h_comes, .ref h_leaves, .ref h_tried, .ref h_met])), (h_all, .inl (cI, 53700, .inl r_all))]) hB ht hP hD [0, 1] [2, 3, 4] rfl rfl (by decide) (by decide) hk1 hFc
  have hP : va_P (dC, dI) vwCl [(h_comes, .inl (cI, 64, .inl r_comes)), (h_leaves, .inl (cI, 64, .inl r_leaves)), (h_pile, .inl (cZ, 300, .inl r_pile)), (h, .inr (10, [.ref h_all, .ref h_has, .int f_size, .int f_next, .int f_where, .int f_token, .int f_number, .int f_sign, .int f_word, .int f_wrong, .int f_open, .int f_lines, .int f_acts, .ref h_line, .ref h_act, .ref h_pile, .ref h_comes, .ref h_leaves, .ref h_tried, .ref h_met])), (h_all, .inl (cI, 53700, .inl r_all))] _ := hP
  have hD : va_D A [(h_comes, .inl (cI, 64, .inl r_comes)), (h_leaves, .inl (cI, 64, .inl r_leaves)), (h_pile, .inl (cZ, 300, .inl r_pile)), (h, .inr (10, [.ref h_all, .ref h_has, .int f_size, .int f_next, .int f_where, .int f_token, .int f_number, .int f_sign, .int f_word, .int f_wrong, .int f_open, .int f_lines, .int f_acts, .ref h_line, .ref h_act, .ref h_pile, .ref h_comes, .ref h_leaves, .ref h_tried, .ref h_met])), (h_all, .inl (cI, 53700, .inl r_all))] := hD
  refine lv_if_ne (tgt := 10) hx hb dX11_hours_5 (by decide) (fun c_8 => ?_) (fun c_8 => ?_)
  · have hw := hw.1 c_8
    refine lv_iconst (v := (0 : Int32)) hx hb dX11_hours_10 (by decide) ?_
    refine lv_istore_n (lv' := [(2, .int (0 : Int32)), (0, .ref h), (1, .int x1)]) hx hb dX11_hours_11 rfl hl (by decide) rfl (fun ls hl => ?_)
    obtain ⟨n_9, hw⟩ := hw
    exact tX11_hours_12 hC hK hA  n_9 x1 (0 : Int32) r_all r_comes r_leaves r_pile _ _ ls hw (hP.sub [3, 4, 0, 1, 2] rfl) (hD.sub [3, 4, 0, 1, 2] (by decide) rfl) hS (lv_sub hl [1, 2, 0] rfl)
  · have hw := hw.2 c_8
    refine lv_iconst (v := (-1 : Int32)) hx hb dX11_hours_8 (by decide) ?_
    have hP9 := hP.sub (ws' := (vX11_hours cI cZ h h_all h_has h_line h_act h_pile h_comes h_leaves h_tried h_met f_size f_next f_where f_token f_number f_sign f_word f_wrong f_open f_lines f_acts r_all r_comes r_leaves r_pile)) [3, 4, 0, 1, 2] rfl
    have hD9 := hD.sub (ws' := (vX11_hours cI cZ h h_all h_has h_line h_act h_pile h_comes h_leaves h_tried h_met f_size f_next f_where f_token f_number f_sign f_word f_wrong f_open f_lines f_acts r_all r_comes r_leaves r_pile)) [3, 4, 0, 1, 2] (by decide) rfl
    exact W.iret (v := (-1 : Int32)) hx hb hr (fun t ht hW => ⟨⟨(-1 : Int32), (r_all, r_comes, r_leaves, r_pile), rfl, hw, by rw [ht]; exact hP9, va_K.moved hW.alike hK, hD9⟩, hS.F ht⟩) hS.2.2 dX11_hours_9
set_option maxHeartbeats 4000000 in
set_option maxRecDepth 100000 in
theorem kX11_hours (l : Launch) (dC : Nat → ClassId) (dI : Nat → Nat → Nat) (cI cZ cO cW : ClassId) (h h_all h_has h_line h_act h_pile h_comes h_leaves h_tried h_met : Nat)  (sz : Nat) (f_size : Int32) (f_next : Int32) (f_where : Int32) (f_token : Int32) (f_number : Int32) (f_sign : Int32) (f_word : Int32) (f_wrong : Int32) (f_open : Int32) (f_lines : Int32) (f_acts : Int32) (r_all : Nat → Int32) (r_comes : Nat → Int32) (r_leaves : Nat → Int32) (r_pile : Nat → Int32) (x1 : Int32) (Q : Int32 → (Nat → Int32) → (Nat → Int32) → (Nat → Int32) → (Nat → Int32) → Prop) (hw : wX11_hours Q x1 r_all r_comes r_leaves r_pile) : Met l yX11_hours zsX11_hours rmX11_hours (va_Pc [.ref h, .int x1] (fun U => U.heap.size = sz ∧ va_P (dC, dI) vwCl (vX11_hours cI cZ h h_all h_has h_line h_act h_pile h_comes h_leaves h_tried h_met f_size f_next f_where f_token f_number f_sign f_word f_wrong f_open f_lines f_acts r_all r_comes r_leaves r_pile) U.heap ∧ va_K (dC, dI) vwCl (tysA cI cZ cO cW) U ∧ va_D (fun _ => True) (vX11_hours cI cZ h h_all h_has h_line h_act h_pile h_comes h_leaves h_tried h_met f_size f_next f_where f_token f_number f_sign f_word f_wrong f_open f_lines f_acts r_all r_comes r_leaves r_pile))) (qX11_hours dC dI cI cZ cO cW h h_all h_has h_line h_act h_pile h_comes h_leaves h_tried h_met f_size f_next f_where f_token f_number f_sign f_word f_wrong f_open f_lines f_acts Q (va_A (vX11_hours cI cZ h h_all h_has h_line h_act h_pile h_comes h_leaves h_tried h_met f_size f_next f_where f_token f_number f_sign f_word f_wrong f_open f_lines f_acts r_all r_comes r_leaves r_pile) sz)) 0 0 (va_A (vX11_hours cI cZ h h_all h_has h_line h_act h_pile h_comes h_leaves h_tried h_met f_size f_next f_where f_token f_number f_sign f_word f_wrong f_open f_lines f_acts r_all r_comes r_leaves r_pile) sz) := by
  refine Met.ofW (cc := cX11_hours) (maxL := 3) (ret := (some .int)) (by decide) rfl ?_
  intro p e s m args below meth c s₁ B hml hv
  obtain ⟨rfl, hsz, hP, hK, hD0⟩ := hv
  subst hsz
  have hC : Cx p s m ([.ref h, .int x1] : List Value).toArray meth c cX11_hours (some .int) 3 GW RX11 := ⟨B.exec, B.bytes, B.returns, hml, findClass_of_methodNamed B.named, fun w h => atoms_spec (ws := zsX11_hours) B.pre w (List.mem_cons_of_mem _ h), B.notSynchronized⟩
  have hD := hD0.self (sz := s.heap.size)
  generalize hAe : va_A (vX11_hours cI cZ h h_all h_has h_line h_act h_pile h_comes h_leaves h_tried h_met f_size f_next f_where f_token f_number f_sign f_word f_wrong f_open f_lines f_acts r_all r_comes r_leaves r_pile) s.heap.size = A at hD ⊢
  have hA : ∀ q : Nat, s.heap.size ≤ q → A q := fun q h => by rw [← hAe]; exact Or.inr h
  have hl := lv_entry ([.ref h, .int x1]) (n := 3) (Nat.le_of_ble_eq_true rfl)
  rw [lg_entry_eq]
  generalize (lg_sl ([.ref h, .int x1]) ++ List.replicate (3 - (lg_sl ([.ref h, .int x1])).length) Slot.unset).toArray = ls at hl ⊢
  exact tX11_hours_e hC hK hA x1 r_all r_comes r_leaves r_pile _ _ ls hw hP hD va_S.rf hl

/-! X11_ahead -/
def wX11_ahead_131 (Q : Int32 → (Nat → Int32) → (Nat → Int32) → (Nat → Int32) → (Nat → Int32) → Prop)   (x2 : Int32) (x3 : Int32) (s0 : Int32) (r_all : (Nat → Int32)) (r_comes : (Nat → Int32)) (r_leaves : (Nat → Int32)) (r_pile : (Nat → Int32)) : Prop :=
  (wX11_copies (fun r_all_1 => ((¬ x3 = (3 : Int32) → (Q s0 r_all_1 r_comes r_leaves r_pile)) ∧ (x3 = (3 : Int32) → (wX11_its (fun r_3 => (Q (s0 - r_3) r_all_1 r_comes r_leaves r_pile)) x2 (5 : Int32) r_all_1)))) (4 : Int32) (0 : Int32) r_all)
def wX11_ahead_42 (Q : Int32 → (Nat → Int32) → (Nat → Int32) → (Nat → Int32) → (Nat → Int32) → Prop)   : Nat → Int32 → Int32 → Int32 → Int32 → (Nat → Int32) → (Nat → Int32) → (Nat → Int32) → (Nat → Int32) → Prop
  | 0, _, _, _, _, _, _, _, _ => False
  | n + 1, x1, x2, x3, x4, r_all, r_comes, r_leaves, r_pile => ((x1 ≤ x4 → ((¬ x3 = (4 : Int32) → ((¬ x3 = (5 : Int32) → ((¬ x3 = 0 → ((¬ x3 = (1 : Int32) → ((¬ x3 = (2 : Int32) → (wX11_its (fun r_10 => (wX11_ahead_131 Q x2 x3 r_10 r_all r_comes r_leaves r_pile)) x2 (5 : Int32) r_all)) ∧ (x3 = (2 : Int32) → (wX11_its (fun r_11 => (wX11_ahead_131 Q x2 x3 r_11 r_all r_comes r_leaves r_pile)) x2 (1 : Int32) r_all)))) ∧ (x3 = (1 : Int32) → (wX11_its (fun r_12 => (wX11_ahead_131 Q x2 x3 r_12 r_all r_comes r_leaves r_pile)) x2 (3 : Int32) r_all)))) ∧ (x3 = 0 → (wX11_its (fun r_13 => (wX11_ahead_131 Q x2 x3 r_13 r_all r_comes r_leaves r_pile)) x2 (2 : Int32) r_all)))) ∧ (x3 = (5 : Int32) → (wX11_iceOf (fun r_14 => (wX11_ahead_131 Q x2 x3 r_14 r_all r_comes r_leaves r_pile)) (2 : Int32) r_all)))) ∧ (x3 = (4 : Int32) → (wX11_iceOf (fun r_15 => (wX11_ahead_131 Q x2 x3 r_15 r_all r_comes r_leaves r_pile)) (1 : Int32) r_all)))) ∧ (¬ x1 ≤ x4 → (wX11_anHour (fun r_all_16 r_comes_17 r_leaves_18 r_pile_19 => (wX11_ahead_42 Q n x1 x2 x3 (x4 + (1 : Int32)) r_all_16 r_comes_17 r_leaves_18 r_pile_19)) r_all r_comes r_leaves r_pile)))
def wX11_ahead_33 (Q : Int32 → (Nat → Int32) → (Nat → Int32) → (Nat → Int32) → (Nat → Int32) → Prop)   (x1 : Int32) (x2 : Int32) (x3 : Int32) (r_all : (Nat → Int32)) (r_comes : (Nat → Int32)) (r_leaves : (Nat → Int32)) (r_pile : (Nat → Int32)) : Prop :=
  (wX11_copies (fun r_all_20 => (∃ j_, wX11_ahead_42 Q j_ x1 x2 x3 (0 : Int32) r_all_20 r_comes r_leaves r_pile)) (0 : Int32) (4 : Int32) r_all)
def wX11_ahead (Q : Int32 → (Nat → Int32) → (Nat → Int32) → (Nat → Int32) → (Nat → Int32) → Prop) (x1 : Int32) (x2 : Int32) (x3 : Int32) (r_all : Nat → Int32) (r_comes : Nat → Int32) (r_leaves : Nat → Int32) (r_pile : Nat → Int32) : Prop :=
  (wX11_mayGo (fun r_22 => ((r_22 = 0 → (Q (-2 : Int32) r_all r_comes r_leaves r_pile)) ∧ (¬ r_22 = 0 → (wX11_isIn (fun r_24 => ((r_24 = 0 → (Q (-2 : Int32) r_all r_comes r_leaves r_pile)) ∧ (¬ r_24 = 0 → (((4 : Int32) ≤ x3 → (wX11_ahead_33 Q x1 x2 x3 r_all r_comes r_leaves r_pile)) ∧ (¬ (4 : Int32) ≤ x3 → (wX11_isShip (fun r_27 => ((¬ r_27 = 0 → (wX11_ahead_33 Q x1 x2 x3 r_all r_comes r_leaves r_pile)) ∧ (r_27 = 0 → (Q (-2 : Int32) r_all r_comes r_leaves r_pile)))) x2 r_all)))))) x3 (0 : Int32) (5 : Int32))))) x1 r_all)
abbrev vX11_ahead (cI cZ : ClassId) (h h_all h_has h_line h_act h_pile h_comes h_leaves h_tried h_met : Nat) (f_size : Int32) (f_next : Int32) (f_where : Int32) (f_token : Int32) (f_number : Int32) (f_sign : Int32) (f_word : Int32) (f_wrong : Int32) (f_open : Int32) (f_lines : Int32) (f_acts : Int32) (r_all : Nat → Int32) (r_comes : Nat → Int32) (r_leaves : Nat → Int32) (r_pile : Nat → Int32) : va_W := [(h, .inr (10, [.ref h_all, .ref h_has, .int f_size, .int f_next, .int f_where, .int f_token, .int f_number, .int f_sign, .int f_word, .int f_wrong, .int f_open, .int f_lines, .int f_acts, .ref h_line, .ref h_act, .ref h_pile, .ref h_comes, .ref h_leaves, .ref h_tried, .ref h_met])), (h_all, .inl (cI, 53700, .inl r_all)), (h_comes, .inl (cI, 64, .inl r_comes)), (h_leaves, .inl (cI, 64, .inl r_leaves)), (h_pile, .inl (cZ, 300, .inl r_pile))]
abbrev rmX11_ahead : Room := { frames := 8, cells := 0, slots := 0, locals := 191 }
abbrev qX11_ahead (dC : Nat → ClassId) (dI : Nat → Nat → Nat) (cI cZ cO cW : ClassId) (h h_all h_has h_line h_act h_pile h_comes h_leaves h_tried h_met : Nat) (f_size : Int32) (f_next : Int32) (f_where : Int32) (f_token : Int32) (f_number : Int32) (f_sign : Int32) (f_word : Int32) (f_wrong : Int32) (f_open : Int32) (f_lines : Int32) (f_acts : Int32) (Q : Int32 → (Nat → Int32) → (Nat → Int32) → (Nat → Int32) → (Nat → Int32) → Prop) (A : Nat → Prop) : Array Value → State → Outcome → State → Prop := va_Qi (fun (r : Int32) (u : (Nat → Int32) × (Nat → Int32) × (Nat → Int32) × (Nat → Int32)) => Q r u.1 u.2.1 u.2.2.1 u.2.2.2) (fun (u : (Nat → Int32) × (Nat → Int32) × (Nat → Int32) × (Nat → Int32)) (t : State) => va_P (dC, dI) vwCl (vX11_ahead cI cZ h h_all h_has h_line h_act h_pile h_comes h_leaves h_tried h_met f_size f_next f_where f_token f_number f_sign f_word f_wrong f_open f_lines f_acts u.1 u.2.1 u.2.2.1 u.2.2.2) t.heap ∧ va_K (dC, dI) vwCl (tysA cI cZ cO cW) t ∧ va_D A (vX11_ahead cI cZ h h_all h_has h_line h_act h_pile h_comes h_leaves h_tried h_met f_size f_next f_where f_token f_number f_sign f_word f_wrong f_open f_lines f_acts u.1 u.2.1 u.2.2.1 u.2.2.2)) A
def zsX11_ahead : List Cond := Cond.code yX11_ahead cX11_ahead 5 (some .int) :: GW
set_option maxHeartbeats 4000000 in
set_option maxRecDepth 100000 in
theorem tX11_ahead_131 {p : Program} {l : Launch} {e : Env} {s : State} {m : MethodId} {args : Array Value} {below : List Frame} {meth : Method} {c : Code} {dC : Nat → ClassId} {dI : Nat → Nat → Nat} {cI cZ cO cW : ClassId} {A : Nat → Prop} {h h_all h_has h_line h_act h_pile h_comes h_leaves h_tried h_met : Nat} {f_size f_next f_where f_token f_number f_sign f_word f_wrong f_open f_lines f_acts : Int32} {Q : Int32 → (Nat → Int32) → (Nat → Int32) → (Nat → Int32) → (Nat → Int32) → Prop}  (hC : Cx p s m args meth c cX11_ahead (some .int) 5 GW RX11) (hK : va_K (dC, dI) vwCl (tysA cI cZ cO cW) s) (hA : ∀ q : Nat, s.heap.size ≤ q → A q) :
    ∀ (x2 : Int32) (x3 : Int32) (s0 : Int32) (r_all : (Nat → Int32)) (r_comes : (Nat → Int32)) (r_leaves : (Nat → Int32)) (r_pile : (Nat → Int32)) (H : Heap) (locs : List Loc) (ls : Array Slot), wX11_ahead_131 Q  x2 x3 s0 r_all r_comes r_leaves r_pile → va_P (dC, dI) vwCl (vX11_ahead cI cZ h h_all h_has h_line h_act h_pile h_comes h_leaves h_tried h_met f_size f_next f_where f_token f_number f_sign f_word f_wrong f_open f_lines f_acts r_all r_comes r_leaves r_pile) H → va_D A (vX11_ahead cI cZ h h_all h_has h_line h_act h_pile h_comes h_leaves h_tried h_met f_size f_next f_where f_token f_number f_sign f_word f_wrong f_open f_lines f_acts r_all r_comes r_leaves r_pile) → va_S A s.heap H locs → lv_has ls 5 [(0, .ref h), (2, .int x2), (3, .int x3)] → W p l e rmX11_ahead s m args below meth c H locs 0 0 (MQ below (qX11_ahead dC dI cI cZ cO cW h h_all h_has h_line h_act h_pile h_comes h_leaves h_tried h_met f_size f_next f_where f_token f_number f_sign f_word f_wrong f_open f_lines f_acts Q A) args s 0 0 A) (F0 m 131 ls [.int s0]) := by
  obtain ⟨hx, hb, hr, hml, hown, hts, hlocks⟩ := id hC
  intro x2 x3 s0 r_all r_comes r_leaves r_pile H locs ls hw hP hD hS hl
  refine lv_istore (lv' := [(4, .int s0), (0, .ref h), (2, .int x2), (3, .int x3)]) hx hb dX11_ahead_131 hl (by decide) rfl (fun ls hl => ?_)
  refine lv_aload_n hx hb dX11_ahead_133 rfl (lv_at hl 1 rfl) ?_
  refine lv_iconst (v := (4 : Int32)) hx hb dX11_ahead_134 (by decide) ?_
  refine lv_iconst (v := (0 : Int32)) hx hb dX11_ahead_135 (by decide) ?_
  have hPc := hP.sub (ws' := [(h, .inr (10, [.ref h_all, .ref h_has, .int f_size, .int f_next, .int f_where, .int f_token, .int f_number, .int f_sign, .int f_word, .int f_wrong, .int f_open, .int f_lines, .int f_acts, .ref h_line, .ref h_act, .ref h_pile, .ref h_comes, .ref h_leaves, .ref h_tried, .ref h_met])), (h_all, .inl (cI, 53700, .inl r_all))]) [0, 1] rfl
  have hDc := hD.sub (ws' := [(h, .inr (10, [.ref h_all, .ref h_has, .int f_size, .int f_next, .int f_where, .int f_token, .int f_number, .int f_sign, .int f_word, .int f_wrong, .int f_open, .int f_lines, .int f_acts, .ref h_line, .ref h_act, .ref h_pile, .ref h_comes, .ref h_leaves, .ref h_tried, .ref h_met])), (h_all, .inl (cI, 53700, .inl r_all))]) [0, 1] (by decide) rfl
  have hFc := va_free (wc := [(h, .inr (10, [.ref h_all, .ref h_has, .int f_size, .int f_next, .int f_where, .int f_token, .int f_number, .int f_sign, .int f_word, .int f_wrong, .int f_open, .int f_lines, .int f_acts, .ref h_line, .ref h_act, .ref h_pile, .ref h_comes, .ref h_leaves, .ref h_tried, .ref h_met])), (h_all, .inl (cI, 53700, .inl r_all))]) hD hS hA [0, 1] rfl
  refine va_callv (va_runV (As := [.int (4 : Int32), .int (0 : Int32)]) (rest := []) ⟨hx, hb, hml, hown, hts⟩ (kX11_copies l dC dI cI cZ cO cW h h_all h_has h_line h_act h_pile h_comes h_leaves h_tried h_met H.size f_size f_next f_where f_token f_number f_sign f_word f_wrong f_open f_lines f_acts r_all (4 : Int32) (0 : Int32) _ hw) (cwV 2 hts (gV gw_827 gw_828 gw_829 gw_622 (gM gw_826)) rfl rfl rfl (by decide +kernel) ⟨Nat.le_of_ble_eq_true rfl, Nat.le_of_ble_eq_true rfl⟩) (pv_of hPc hK hDc (va_recv hK hPc (ci := 10) (q0 := 0) rfl rfl)) rfl rfl hl.1 rfl (lv_room (Nat.le_of_ble_eq_true rfl)) dX11_ahead_136 ⟨Nat.zero_le _, Nat.zero_le _⟩) hS (fun q _ h => hFc q h) hFc (fun u t H locs ht hvm hw hB hz1 hk1 hS => ?_)
  obtain ⟨r_all_1, rfl⟩ : ∃ z, z = u := ⟨_, rfl⟩
  obtain ⟨hP, hD⟩ := af_join (wr := [(h_comes, .inl (cI, 64, .inl r_comes)), (h_leaves, .inl (cI, 64, .inl r_leaves)), (h_pile, .inl (cZ, 300, .inl r_pile))]) (w1 := [(h, .inr (10, [.ref h_all, .ref h_has, .int f_size, .int f_next, .int f_where, .int f_token, .int f_number, .int f_sign, .int f_word, .int f_wrong, .int f_open, .int f_lines, .int f_acts, .ref h_line, .ref h_act, .ref h_pile, .ref h_comes, .ref h_leaves, .ref h_tried, .ref h_met])), (h_all, .inl (cI, 53700, .inl r_all_1))]) hB ht hP hD [0, 1] [2, 3, 4] rfl rfl (by decide) (by decide) hk1 hFc
  have hP : va_P (dC, dI) vwCl [(h_comes, .inl (cI, 64, .inl r_comes)), (h_leaves, .inl (cI, 64, .inl r_leaves)), (h_pile, .inl (cZ, 300, .inl r_pile)), (h, .inr (10, [.ref h_all, .ref h_has, .int f_size, .int f_next, .int f_where, .int f_token, .int f_number, .int f_sign, .int f_word, .int f_wrong, .int f_open, .int f_lines, .int f_acts, .ref h_line, .ref h_act, .ref h_pile, .ref h_comes, .ref h_leaves, .ref h_tried, .ref h_met])), (h_all, .inl (cI, 53700, .inl r_all_1))] _ := hP
  have hD : va_D A [(h_comes, .inl (cI, 64, .inl r_comes)), (h_leaves, .inl (cI, 64, .inl r_leaves)), (h_pile, .inl (cZ, 300, .inl r_pile)), (h, .inr (10, [.ref h_all, .ref h_has, .int f_size, .int f_next, .int f_where, .int f_token, .int f_number, .int f_sign, .int f_word, .int f_wrong, .int f_open, .int f_lines, .int f_acts, .ref h_line, .ref h_act, .ref h_pile, .ref h_comes, .ref h_leaves, .ref h_tried, .ref h_met])), (h_all, .inl (cI, 53700, .inl r_all_1))] := hD
  refine lv_iload_n hx hb dX11_ahead_139 rfl (lv_at hl 3 rfl) ?_
  refine lv_iconst (v := (3 : Int32)) hx hb dX11_ahead_140 (by decide) ?_
  refine lv_icmp_ne (tgt := 156) hx hb dX11_ahead_141 (by decide) (fun c_2 => ?_) (fun c_2 => ?_)
  · have hw := hw.1 c_2
    refine lv_iload hx hb dX11_ahead_156 (lv_at hl 0 rfl) ?_
    have hP9 := hP.sub (ws' := (vX11_ahead cI cZ h h_all h_has h_line h_act h_pile h_comes h_leaves h_tried h_met f_size f_next f_where f_token f_number f_sign f_word f_wrong f_open f_lines f_acts r_all_1 r_comes r_leaves r_pile)) [3, 4, 0, 1, 2] rfl
    have hD9 := hD.sub (ws' := (vX11_ahead cI cZ h h_all h_has h_line h_act h_pile h_comes h_leaves h_tried h_met f_size f_next f_where f_token f_number f_sign f_word f_wrong f_open f_lines f_acts r_all_1 r_comes r_leaves r_pile)) [3, 4, 0, 1, 2] (by decide) rfl
    exact W.iret (v := s0) hx hb hr (fun t ht hW => ⟨⟨s0, (r_all_1, r_comes, r_leaves, r_pile), rfl, hw, by rw [ht]; exact hP9, va_K.moved hW.alike hK, hD9⟩, hS.F ht⟩) hS.2.2 dX11_ahead_158
  · have hw := hw.2 c_2
    refine lv_iload hx hb dX11_ahead_144 (lv_at hl 0 rfl) ?_
    refine lv_aload_n hx hb dX11_ahead_146 rfl (lv_at hl 1 rfl) ?_
    refine lv_iload_n hx hb dX11_ahead_147 rfl (lv_at hl 2 rfl) ?_
    refine lv_iconst (v := (5 : Int32)) hx hb dX11_ahead_148 (by decide) ?_
    have hPc := hP.sub (ws' := [(h, .inr (10, [.ref h_all, .ref h_has, .int f_size, .int f_next, .int f_where, .int f_token, .int f_number, .int f_sign, .int f_word, .int f_wrong, .int f_open, .int f_lines, .int f_acts, .ref h_line, .ref h_act, .ref h_pile, .ref h_comes, .ref h_leaves, .ref h_tried, .ref h_met])), (h_all, .inl (cI, 53700, .inl r_all_1))]) [3, 4] rfl
    have hDc := hD.sub (ws' := [(h, .inr (10, [.ref h_all, .ref h_has, .int f_size, .int f_next, .int f_where, .int f_token, .int f_number, .int f_sign, .int f_word, .int f_wrong, .int f_open, .int f_lines, .int f_acts, .ref h_line, .ref h_act, .ref h_pile, .ref h_comes, .ref h_leaves, .ref h_tried, .ref h_met])), (h_all, .inl (cI, 53700, .inl r_all_1))]) [3, 4] (by decide) rfl
    have hFc := va_free (wc := [(h, .inr (10, [.ref h_all, .ref h_has, .int f_size, .int f_next, .int f_where, .int f_token, .int f_number, .int f_sign, .int f_word, .int f_wrong, .int f_open, .int f_lines, .int f_acts, .ref h_line, .ref h_act, .ref h_pile, .ref h_comes, .ref h_leaves, .ref h_tried, .ref h_met])), (h_all, .inl (cI, 53700, .inl r_all_1))]) hD hS hA [3, 4] rfl
    refine va_calli (va_runV (As := [.int x2, .int (5 : Int32)]) (rest := [.int s0]) ⟨hx, hb, hml, hown, hts⟩ (kX11_its l dC dI cI cZ cO cW h h_all h_has h_line h_act h_pile h_comes h_leaves h_tried h_met H.size f_size f_next f_where f_token f_number f_sign f_word f_wrong f_open f_lines f_acts r_all_1 x2 (5 : Int32) _ hw) (cwV 2 hts (gV gw_640 gw_641 gw_642 gw_622 (gM gw_637)) rfl rfl rfl (by decide +kernel) ⟨Nat.le_of_ble_eq_true rfl, Nat.le_of_ble_eq_true rfl⟩) (pv_of hPc hK hDc (va_recv hK hPc (ci := 10) (q0 := 0) rfl rfl)) rfl rfl hl.1 rfl (lv_room (Nat.le_of_ble_eq_true rfl)) dX11_ahead_149 ⟨Nat.zero_le _, Nat.zero_le _⟩) hS (fun q _ h => hFc q h) hFc (fun r_3 u t H locs ht hvm hw hB hz1 hk1 hS => ?_)
    obtain ⟨hP, hD⟩ := af_join (wr := [(h_comes, .inl (cI, 64, .inl r_comes)), (h_leaves, .inl (cI, 64, .inl r_leaves)), (h_pile, .inl (cZ, 300, .inl r_pile))]) (w1 := [(h, .inr (10, [.ref h_all, .ref h_has, .int f_size, .int f_next, .int f_where, .int f_token, .int f_number, .int f_sign, .int f_word, .int f_wrong, .int f_open, .int f_lines, .int f_acts, .ref h_line, .ref h_act, .ref h_pile, .ref h_comes, .ref h_leaves, .ref h_tried, .ref h_met])), (h_all, .inl (cI, 53700, .inl r_all_1))]) hB ht hP hD [3, 4] [0, 1, 2] rfl rfl (by decide) (by decide) hk1 hFc
    have hP : va_P (dC, dI) vwCl [(h_comes, .inl (cI, 64, .inl r_comes)), (h_leaves, .inl (cI, 64, .inl r_leaves)), (h_pile, .inl (cZ, 300, .inl r_pile)), (h, .inr (10, [.ref h_all, .ref h_has, .int f_size, .int f_next, .int f_where, .int f_token, .int f_number, .int f_sign, .int f_word, .int f_wrong, .int f_open, .int f_lines, .int f_acts, .ref h_line, .ref h_act, .ref h_pile, .ref h_comes, .ref h_leaves, .ref h_tried, .ref h_met])), (h_all, .inl (cI, 53700, .inl r_all_1))] _ := hP
    have hD : va_D A [(h_comes, .inl (cI, 64, .inl r_comes)), (h_leaves, .inl (cI, 64, .inl r_leaves)), (h_pile, .inl (cZ, 300, .inl r_pile)), (h, .inr (10, [.ref h_all, .ref h_has, .int f_size, .int f_next, .int f_where, .int f_token, .int f_number, .int f_sign, .int f_word, .int f_wrong, .int f_open, .int f_lines, .int f_acts, .ref h_line, .ref h_act, .ref h_pile, .ref h_comes, .ref h_leaves, .ref h_tried, .ref h_met])), (h_all, .inl (cI, 53700, .inl r_all_1))] := hD
    refine lv_isub hx hb dX11_ahead_152 ?_
    refine lv_goto (tgt := 158) hx hb dX11_ahead_153 (by decide) ?_
    have hP9 := hP.sub (ws' := (vX11_ahead cI cZ h h_all h_has h_line h_act h_pile h_comes h_leaves h_tried h_met f_size f_next f_where f_token f_number f_sign f_word f_wrong f_open f_lines f_acts r_all_1 r_comes r_leaves r_pile)) [3, 4, 0, 1, 2] rfl
    have hD9 := hD.sub (ws' := (vX11_ahead cI cZ h h_all h_has h_line h_act h_pile h_comes h_leaves h_tried h_met f_size f_next f_where f_token f_number f_sign f_word f_wrong f_open f_lines f_acts r_all_1 r_comes r_leaves r_pile)) [3, 4, 0, 1, 2] (by decide) rfl
    exact W.iret (v := (s0 - r_3)) hx hb hr (fun t ht hW => ⟨⟨(s0 - r_3), (r_all_1, r_comes, r_leaves, r_pile), rfl, hw, by rw [ht]; exact hP9, va_K.moved hW.alike hK, hD9⟩, hS.F ht⟩) hS.2.2 dX11_ahead_158
set_option maxHeartbeats 4000000 in
set_option maxRecDepth 100000 in
theorem tX11_ahead_42 {p : Program} {l : Launch} {e : Env} {s : State} {m : MethodId} {args : Array Value} {below : List Frame} {meth : Method} {c : Code} {dC : Nat → ClassId} {dI : Nat → Nat → Nat} {cI cZ cO cW : ClassId} {A : Nat → Prop} {h h_all h_has h_line h_act h_pile h_comes h_leaves h_tried h_met : Nat} {f_size f_next f_where f_token f_number f_sign f_word f_wrong f_open f_lines f_acts : Int32} {Q : Int32 → (Nat → Int32) → (Nat → Int32) → (Nat → Int32) → (Nat → Int32) → Prop}  (hC : Cx p s m args meth c cX11_ahead (some .int) 5 GW RX11) (hK : va_K (dC, dI) vwCl (tysA cI cZ cO cW) s) (hA : ∀ q : Nat, s.heap.size ≤ q → A q) :
    ∀ (n : Nat) (x1 : Int32) (x2 : Int32) (x3 : Int32) (x4 : Int32) (r_all : (Nat → Int32)) (r_comes : (Nat → Int32)) (r_leaves : (Nat → Int32)) (r_pile : (Nat → Int32)) (H : Heap) (locs : List Loc) (ls : Array Slot), wX11_ahead_42 Q  n x1 x2 x3 x4 r_all r_comes r_leaves r_pile → va_P (dC, dI) vwCl (vX11_ahead cI cZ h h_all h_has h_line h_act h_pile h_comes h_leaves h_tried h_met f_size f_next f_where f_token f_number f_sign f_word f_wrong f_open f_lines f_acts r_all r_comes r_leaves r_pile) H → va_D A (vX11_ahead cI cZ h h_all h_has h_line h_act h_pile h_comes h_leaves h_tried h_met f_size f_next f_where f_token f_number f_sign f_word f_wrong f_open f_lines f_acts r_all r_comes r_leaves r_pile) → va_S A s.heap H locs → lv_has ls 5 [(0, .ref h), (1, .int x1), (2, .int x2), (3, .int x3), (4, .int x4)] → W p l e rmX11_ahead s m args below meth c H locs 0 0 (MQ below (qX11_ahead dC dI cI cZ cO cW h h_all h_has h_line h_act h_pile h_comes h_leaves h_tried h_met f_size f_next f_where f_token f_number f_sign f_word f_wrong f_open f_lines f_acts Q A) args s 0 0 A) (F0 m 42 ls []) := by
  obtain ⟨hx, hb, hr, hml, hown, hts, hlocks⟩ := id hC
  intro n
  induction n with
  | zero =>
    intro  x1 x2 x3 x4 r_all r_comes r_leaves r_pile H locs ls hw
    exact hw.elim
  | succ n ih =>
    intro  x1 x2 x3 x4 r_all r_comes r_leaves r_pile H locs ls hw hP hD hS hl
    refine lv_iload hx hb dX11_ahead_42 (lv_at hl 4 rfl) ?_
    refine lv_iload_n hx hb dX11_ahead_44 rfl (lv_at hl 1 rfl) ?_
    refine lv_icmp_ge (tgt := 58) hx hb dX11_ahead_45 (by decide) (fun c_4 => ?_) (fun c_4 => ?_)
    · have hw := hw.1 c_4
      refine lv_iload_n hx hb dX11_ahead_58 rfl (lv_at hl 3 rfl) ?_
      refine lv_iconst (v := (4 : Int32)) hx hb dX11_ahead_59 (by decide) ?_
      refine lv_icmp_ne (tgt := 71) hx hb dX11_ahead_60 (by decide) (fun c_5 => ?_) (fun c_5 => ?_)
      · have hw := hw.1 c_5
        refine lv_iload_n hx hb dX11_ahead_71 rfl (lv_at hl 3 rfl) ?_
        refine lv_iconst (v := (5 : Int32)) hx hb dX11_ahead_72 (by decide) ?_
        refine lv_icmp_ne (tgt := 84) hx hb dX11_ahead_73 (by decide) (fun c_6 => ?_) (fun c_6 => ?_)
        · have hw := hw.1 c_6
          refine lv_iload_n hx hb dX11_ahead_84 rfl (lv_at hl 3 rfl) ?_
          refine lv_if_ne (tgt := 97) hx hb dX11_ahead_85 (by decide) (fun c_7 => ?_) (fun c_7 => ?_)
          · have hw := hw.1 c_7
            refine lv_iload_n hx hb dX11_ahead_97 rfl (lv_at hl 3 rfl) ?_
            refine lv_iconst (v := (1 : Int32)) hx hb dX11_ahead_98 (by decide) ?_
            refine lv_icmp_ne (tgt := 111) hx hb dX11_ahead_99 (by decide) (fun c_8 => ?_) (fun c_8 => ?_)
            · have hw := hw.1 c_8
              refine lv_iload_n hx hb dX11_ahead_111 rfl (lv_at hl 3 rfl) ?_
              refine lv_iconst (v := (2 : Int32)) hx hb dX11_ahead_112 (by decide) ?_
              refine lv_icmp_ne (tgt := 125) hx hb dX11_ahead_113 (by decide) (fun c_9 => ?_) (fun c_9 => ?_)
              · have hw := hw.1 c_9
                refine lv_aload_n hx hb dX11_ahead_125 rfl (lv_at hl 0 rfl) ?_
                refine lv_iload_n hx hb dX11_ahead_126 rfl (lv_at hl 2 rfl) ?_
                refine lv_iconst (v := (5 : Int32)) hx hb dX11_ahead_127 (by decide) ?_
                have hPc := hP.sub (ws' := [(h, .inr (10, [.ref h_all, .ref h_has, .int f_size, .int f_next, .int f_where, .int f_token, .int f_number, .int f_sign, .int f_word, .int f_wrong, .int f_open, .int f_lines, .int f_acts, .ref h_line, .ref h_act, .ref h_pile, .ref h_comes, .ref h_leaves, .ref h_tried, .ref h_met])), (h_all, .inl (cI, 53700, .inl r_all))]) [0, 1] rfl
                have hDc := hD.sub (ws' := [(h, .inr (10, [.ref h_all, .ref h_has, .int f_size, .int f_next, .int f_where, .int f_token, .int f_number, .int f_sign, .int f_word, .int f_wrong, .int f_open, .int f_lines, .int f_acts, .ref h_line, .ref h_act, .ref h_pile, .ref h_comes, .ref h_leaves, .ref h_tried, .ref h_met])), (h_all, .inl (cI, 53700, .inl r_all))]) [0, 1] (by decide) rfl
                have hFc := va_free (wc := [(h, .inr (10, [.ref h_all, .ref h_has, .int f_size, .int f_next, .int f_where, .int f_token, .int f_number, .int f_sign, .int f_word, .int f_wrong, .int f_open, .int f_lines, .int f_acts, .ref h_line, .ref h_act, .ref h_pile, .ref h_comes, .ref h_leaves, .ref h_tried, .ref h_met])), (h_all, .inl (cI, 53700, .inl r_all))]) hD hS hA [0, 1] rfl
                refine va_calli (va_runV (As := [.int x2, .int (5 : Int32)]) (rest := []) ⟨hx, hb, hml, hown, hts⟩ (kX11_its l dC dI cI cZ cO cW h h_all h_has h_line h_act h_pile h_comes h_leaves h_tried h_met H.size f_size f_next f_where f_token f_number f_sign f_word f_wrong f_open f_lines f_acts r_all x2 (5 : Int32) _ hw) (cwV 2 hts (gV gw_640 gw_641 gw_642 gw_622 (gM gw_637)) rfl rfl rfl (by decide +kernel) ⟨Nat.le_of_ble_eq_true rfl, Nat.le_of_ble_eq_true rfl⟩) (pv_of hPc hK hDc (va_recv hK hPc (ci := 10) (q0 := 0) rfl rfl)) rfl rfl hl.1 rfl (lv_room (Nat.le_of_ble_eq_true rfl)) dX11_ahead_128 ⟨Nat.zero_le _, Nat.zero_le _⟩) hS (fun q _ h => hFc q h) hFc (fun r_10 u t H locs ht hvm hw hB hz1 hk1 hS => ?_)
                obtain ⟨hP, hD⟩ := af_join (wr := [(h_comes, .inl (cI, 64, .inl r_comes)), (h_leaves, .inl (cI, 64, .inl r_leaves)), (h_pile, .inl (cZ, 300, .inl r_pile))]) (w1 := [(h, .inr (10, [.ref h_all, .ref h_has, .int f_size, .int f_next, .int f_where, .int f_token, .int f_number, .int f_sign, .int f_word, .int f_wrong, .int f_open, .int f_lines, .int f_acts, .ref h_line, .ref h_act, .ref h_pile, .ref h_comes, .ref h_leaves, .ref h_tried, .ref h_met])), (h_all, .inl (cI, 53700, .inl r_all))]) hB ht hP hD [0, 1] [2, 3, 4] rfl rfl (by decide) (by decide) hk1 hFc
                have hP : va_P (dC, dI) vwCl [(h_comes, .inl (cI, 64, .inl r_comes)), (h_leaves, .inl (cI, 64, .inl r_leaves)), (h_pile, .inl (cZ, 300, .inl r_pile)), (h, .inr (10, [.ref h_all, .ref h_has, .int f_size, .int f_next, .int f_where, .int f_token, .int f_number, .int f_sign, .int f_word, .int f_wrong, .int f_open, .int f_lines, .int f_acts, .ref h_line, .ref h_act, .ref h_pile, .ref h_comes, .ref h_leaves, .ref h_tried, .ref h_met])), (h_all, .inl (cI, 53700, .inl r_all))] _ := hP
                have hD : va_D A [(h_comes, .inl (cI, 64, .inl r_comes)), (h_leaves, .inl (cI, 64, .inl r_leaves)), (h_pile, .inl (cZ, 300, .inl r_pile)), (h, .inr (10, [.ref h_all, .ref h_has, .int f_size, .int f_next, .int f_where, .int f_token, .int f_number, .int f_sign, .int f_word, .int f_wrong, .int f_open, .int f_lines, .int f_acts, .ref h_line, .ref h_act, .ref h_pile, .ref h_comes, .ref h_leaves, .ref h_tried, .ref h_met])), (h_all, .inl (cI, 53700, .inl r_all))] := hD
                exact tX11_ahead_131 hC hK hA  x2 x3 r_10 r_all r_comes r_leaves r_pile _ _ ls hw (hP.sub [3, 4, 0, 1, 2] rfl) (hD.sub [3, 4, 0, 1, 2] (by decide) rfl) hS (lv_sub hl [0, 2, 3] rfl)
              · have hw := hw.2 c_9
                refine lv_aload_n hx hb dX11_ahead_116 rfl (lv_at hl 0 rfl) ?_
                refine lv_iload_n hx hb dX11_ahead_117 rfl (lv_at hl 2 rfl) ?_
                refine lv_iconst (v := (1 : Int32)) hx hb dX11_ahead_118 (by decide) ?_
                have hPc := hP.sub (ws' := [(h, .inr (10, [.ref h_all, .ref h_has, .int f_size, .int f_next, .int f_where, .int f_token, .int f_number, .int f_sign, .int f_word, .int f_wrong, .int f_open, .int f_lines, .int f_acts, .ref h_line, .ref h_act, .ref h_pile, .ref h_comes, .ref h_leaves, .ref h_tried, .ref h_met])), (h_all, .inl (cI, 53700, .inl r_all))]) [0, 1] rfl
                have hDc := hD.sub (ws' := [(h, .inr (10, [.ref h_all, .ref h_has, .int f_size, .int f_next, .int f_where, .int f_token, .int f_number, .int f_sign, .int f_word, .int f_wrong, .int f_open, .int f_lines, .int f_acts, .ref h_line, .ref h_act, .ref h_pile, .ref h_comes, .ref h_leaves, .ref h_tried, .ref h_met])), (h_all, .inl (cI, 53700, .inl r_all))]) [0, 1] (by decide) rfl
                have hFc := va_free (wc := [(h, .inr (10, [.ref h_all, .ref h_has, .int f_size, .int f_next, .int f_where, .int f_token, .int f_number, .int f_sign, .int f_word, .int f_wrong, .int f_open, .int f_lines, .int f_acts, .ref h_line, .ref h_act, .ref h_pile, .ref h_comes, .ref h_leaves, .ref h_tried, .ref h_met])), (h_all, .inl (cI, 53700, .inl r_all))]) hD hS hA [0, 1] rfl
                refine va_calli (va_runV (As := [.int x2, .int (1 : Int32)]) (rest := []) ⟨hx, hb, hml, hown, hts⟩ (kX11_its l dC dI cI cZ cO cW h h_all h_has h_line h_act h_pile h_comes h_leaves h_tried h_met H.size f_size f_next f_where f_token f_number f_sign f_word f_wrong f_open f_lines f_acts r_all x2 (1 : Int32) _ hw) (cwV 2 hts (gV gw_640 gw_641 gw_642 gw_622 (gM gw_637)) rfl rfl rfl (by decide +kernel) ⟨Nat.le_of_ble_eq_true rfl, Nat.le_of_ble_eq_true rfl⟩) (pv_of hPc hK hDc (va_recv hK hPc (ci := 10) (q0 := 0) rfl rfl)) rfl rfl hl.1 rfl (lv_room (Nat.le_of_ble_eq_true rfl)) dX11_ahead_119 ⟨Nat.zero_le _, Nat.zero_le _⟩) hS (fun q _ h => hFc q h) hFc (fun r_11 u t H locs ht hvm hw hB hz1 hk1 hS => ?_)
                obtain ⟨hP, hD⟩ := af_join (wr := [(h_comes, .inl (cI, 64, .inl r_comes)), (h_leaves, .inl (cI, 64, .inl r_leaves)), (h_pile, .inl (cZ, 300, .inl r_pile))]) (w1 := [(h, .inr (10, [.ref h_all, .ref h_has, .int f_size, .int f_next, .int f_where, .int f_token, .int f_number, .int f_sign, .int f_word, .int f_wrong, .int f_open, .int f_lines, .int f_acts, .ref h_line, .ref h_act, .ref h_pile, .ref h_comes, .ref h_leaves, .ref h_tried, .ref h_met])), (h_all, .inl (cI, 53700, .inl r_all))]) hB ht hP hD [0, 1] [2, 3, 4] rfl rfl (by decide) (by decide) hk1 hFc
                have hP : va_P (dC, dI) vwCl [(h_comes, .inl (cI, 64, .inl r_comes)), (h_leaves, .inl (cI, 64, .inl r_leaves)), (h_pile, .inl (cZ, 300, .inl r_pile)), (h, .inr (10, [.ref h_all, .ref h_has, .int f_size, .int f_next, .int f_where, .int f_token, .int f_number, .int f_sign, .int f_word, .int f_wrong, .int f_open, .int f_lines, .int f_acts, .ref h_line, .ref h_act, .ref h_pile, .ref h_comes, .ref h_leaves, .ref h_tried, .ref h_met])), (h_all, .inl (cI, 53700, .inl r_all))] _ := hP
                have hD : va_D A [(h_comes, .inl (cI, 64, .inl r_comes)), (h_leaves, .inl (cI, 64, .inl r_leaves)), (h_pile, .inl (cZ, 300, .inl r_pile)), (h, .inr (10, [.ref h_all, .ref h_has, .int f_size, .int f_next, .int f_where, .int f_token, .int f_number, .int f_sign, .int f_word, .int f_wrong, .int f_open, .int f_lines, .int f_acts, .ref h_line, .ref h_act, .ref h_pile, .ref h_comes, .ref h_leaves, .ref h_tried, .ref h_met])), (h_all, .inl (cI, 53700, .inl r_all))] := hD
                refine lv_goto (tgt := 131) hx hb dX11_ahead_122 (by decide) ?_
                exact tX11_ahead_131 hC hK hA  x2 x3 r_11 r_all r_comes r_leaves r_pile _ _ ls hw (hP.sub [3, 4, 0, 1, 2] rfl) (hD.sub [3, 4, 0, 1, 2] (by decide) rfl) hS (lv_sub hl [0, 2, 3] rfl)
            · have hw := hw.2 c_8
              refine lv_aload_n hx hb dX11_ahead_102 rfl (lv_at hl 0 rfl) ?_
              refine lv_iload_n hx hb dX11_ahead_103 rfl (lv_at hl 2 rfl) ?_
              refine lv_iconst (v := (3 : Int32)) hx hb dX11_ahead_104 (by decide) ?_
              have hPc := hP.sub (ws' := [(h, .inr (10, [.ref h_all, .ref h_has, .int f_size, .int f_next, .int f_where, .int f_token, .int f_number, .int f_sign, .int f_word, .int f_wrong, .int f_open, .int f_lines, .int f_acts, .ref h_line, .ref h_act, .ref h_pile, .ref h_comes, .ref h_leaves, .ref h_tried, .ref h_met])), (h_all, .inl (cI, 53700, .inl r_all))]) [0, 1] rfl
              have hDc := hD.sub (ws' := [(h, .inr (10, [.ref h_all, .ref h_has, .int f_size, .int f_next, .int f_where, .int f_token, .int f_number, .int f_sign, .int f_word, .int f_wrong, .int f_open, .int f_lines, .int f_acts, .ref h_line, .ref h_act, .ref h_pile, .ref h_comes, .ref h_leaves, .ref h_tried, .ref h_met])), (h_all, .inl (cI, 53700, .inl r_all))]) [0, 1] (by decide) rfl
              have hFc := va_free (wc := [(h, .inr (10, [.ref h_all, .ref h_has, .int f_size, .int f_next, .int f_where, .int f_token, .int f_number, .int f_sign, .int f_word, .int f_wrong, .int f_open, .int f_lines, .int f_acts, .ref h_line, .ref h_act, .ref h_pile, .ref h_comes, .ref h_leaves, .ref h_tried, .ref h_met])), (h_all, .inl (cI, 53700, .inl r_all))]) hD hS hA [0, 1] rfl
              refine va_calli (va_runV (As := [.int x2, .int (3 : Int32)]) (rest := []) ⟨hx, hb, hml, hown, hts⟩ (kX11_its l dC dI cI cZ cO cW h h_all h_has h_line h_act h_pile h_comes h_leaves h_tried h_met H.size f_size f_next f_where f_token f_number f_sign f_word f_wrong f_open f_lines f_acts r_all x2 (3 : Int32) _ hw) (cwV 2 hts (gV gw_640 gw_641 gw_642 gw_622 (gM gw_637)) rfl rfl rfl (by decide +kernel) ⟨Nat.le_of_ble_eq_true rfl, Nat.le_of_ble_eq_true rfl⟩) (pv_of hPc hK hDc (va_recv hK hPc (ci := 10) (q0 := 0) rfl rfl)) rfl rfl hl.1 rfl (lv_room (Nat.le_of_ble_eq_true rfl)) dX11_ahead_105 ⟨Nat.zero_le _, Nat.zero_le _⟩) hS (fun q _ h => hFc q h) hFc (fun r_12 u t H locs ht hvm hw hB hz1 hk1 hS => ?_)
              obtain ⟨hP, hD⟩ := af_join (wr := [(h_comes, .inl (cI, 64, .inl r_comes)), (h_leaves, .inl (cI, 64, .inl r_leaves)), (h_pile, .inl (cZ, 300, .inl r_pile))]) (w1 := [(h, .inr (10, [.ref h_all, .ref h_has, .int f_size, .int f_next, .int f_where, .int f_token, .int f_number, .int f_sign, .int f_word, .int f_wrong, .int f_open, .int f_lines, .int f_acts, .ref h_line, .ref h_act, .ref h_pile, .ref h_comes, .ref h_leaves, .ref h_tried, .ref h_met])), (h_all, .inl (cI, 53700, .inl r_all))]) hB ht hP hD [0, 1] [2, 3, 4] rfl rfl (by decide) (by decide) hk1 hFc
              have hP : va_P (dC, dI) vwCl [(h_comes, .inl (cI, 64, .inl r_comes)), (h_leaves, .inl (cI, 64, .inl r_leaves)), (h_pile, .inl (cZ, 300, .inl r_pile)), (h, .inr (10, [.ref h_all, .ref h_has, .int f_size, .int f_next, .int f_where, .int f_token, .int f_number, .int f_sign, .int f_word, .int f_wrong, .int f_open, .int f_lines, .int f_acts, .ref h_line, .ref h_act, .ref h_pile, .ref h_comes, .ref h_leaves, .ref h_tried, .ref h_met])), (h_all, .inl (cI, 53700, .inl r_all))] _ := hP
              have hD : va_D A [(h_comes, .inl (cI, 64, .inl r_comes)), (h_leaves, .inl (cI, 64, .inl r_leaves)), (h_pile, .inl (cZ, 300, .inl r_pile)), (h, .inr (10, [.ref h_all, .ref h_has, .int f_size, .int f_next, .int f_where, .int f_token, .int f_number, .int f_sign, .int f_word, .int f_wrong, .int f_open, .int f_lines, .int f_acts, .ref h_line, .ref h_act, .ref h_pile, .ref h_comes, .ref h_leaves, .ref h_tried, .ref h_met])), (h_all, .inl (cI, 53700, .inl r_all))] := hD
              refine lv_goto (tgt := 131) hx hb dX11_ahead_108 (by decide) ?_
              exact tX11_ahead_131 hC hK hA  x2 x3 r_12 r_all r_comes r_leaves r_pile _ _ ls hw (hP.sub [3, 4, 0, 1, 2] rfl) (hD.sub [3, 4, 0, 1, 2] (by decide) rfl) hS (lv_sub hl [0, 2, 3] rfl)
          · have hw := hw.2 c_7
            refine lv_aload_n hx hb dX11_ahead_88 rfl (lv_at hl 0 rfl) ?_
            refine lv_iload_n hx hb dX11_ahead_89 rfl (lv_at hl 2 rfl) ?_
            refine lv_iconst (v := (2 : Int32)) hx hb dX11_ahead_90 (by decide) ?_
            have hPc := hP.sub (ws' := [(h, .inr (10, [.ref h_all, .ref h_has, .int f_size, .int f_next, .int f_where, .int f_token, .int f_number, .int f_sign, .int f_word, .int f_wrong, .int f_open, .int f_lines, .int f_acts, .ref h_line, .ref h_act, .ref h_pile, .ref h_comes, .ref h_leaves, .ref h_tried, .ref h_met])), (h_all, .inl (cI, 53700, .inl r_all))]) [0, 1] rfl
            have hDc := hD.sub (ws' := [(h, .inr (10, [.ref h_all, .ref h_has, .int f_size, .int f_next, .int f_where, .int f_token, .int f_number, .int f_sign, .int f_word, .int f_wrong, .int f_open, .int f_lines, .int f_acts, .ref h_line, .ref h_act, .ref h_pile, .ref h_comes, .ref h_leaves, .ref h_tried, .ref h_met])), (h_all, .inl (cI, 53700, .inl r_all))]) [0, 1] (by decide) rfl
            have hFc := va_free (wc := [(h, .inr (10, [.ref h_all, .ref h_has, .int f_size, .int f_next, .int f_where, .int f_token, .int f_number, .int f_sign, .int f_word, .int f_wrong, .int f_open, .int f_lines, .int f_acts, .ref h_line, .ref h_act, .ref h_pile, .ref h_comes, .ref h_leaves, .ref h_tried, .ref h_met])), (h_all, .inl (cI, 53700, .inl r_all))]) hD hS hA [0, 1] rfl
            refine va_calli (va_runV (As := [.int x2, .int (2 : Int32)]) (rest := []) ⟨hx, hb, hml, hown, hts⟩ (kX11_its l dC dI cI cZ cO cW h h_all h_has h_line h_act h_pile h_comes h_leaves h_tried h_met H.size f_size f_next f_where f_token f_number f_sign f_word f_wrong f_open f_lines f_acts r_all x2 (2 : Int32) _ hw) (cwV 2 hts (gV gw_640 gw_641 gw_642 gw_622 (gM gw_637)) rfl rfl rfl (by decide +kernel) ⟨Nat.le_of_ble_eq_true rfl, Nat.le_of_ble_eq_true rfl⟩) (pv_of hPc hK hDc (va_recv hK hPc (ci := 10) (q0 := 0) rfl rfl)) rfl rfl hl.1 rfl (lv_room (Nat.le_of_ble_eq_true rfl)) dX11_ahead_91 ⟨Nat.zero_le _, Nat.zero_le _⟩) hS (fun q _ h => hFc q h) hFc (fun r_13 u t H locs ht hvm hw hB hz1 hk1 hS => ?_)
            obtain ⟨hP, hD⟩ := af_join (wr := [(h_comes, .inl (cI, 64, .inl r_comes)), (h_leaves, .inl (cI, 64, .inl r_leaves)), (h_pile, .inl (cZ, 300, .inl r_pile))]) (w1 := [(h, .inr (10, [.ref h_all, .ref h_has, .int f_size, .int f_next, .int f_where, .int f_token, .int f_number, .int f_sign, .int f_word, .int f_wrong, .int f_open, .int f_lines, .int f_acts, .ref h_line, .ref h_act, .ref h_pile, .ref h_comes, .ref h_leaves, .ref h_tried, .ref h_met])), (h_all, .inl (cI, 53700, .inl r_all))]) hB ht hP hD [0, 1] [2, 3, 4] rfl rfl (by decide) (by decide) hk1 hFc
            have hP : va_P (dC, dI) vwCl [(h_comes, .inl (cI, 64, .inl r_comes)), (h_leaves, .inl (cI, 64, .inl r_leaves)), (h_pile, .inl (cZ, 300, .inl r_pile)), (h, .inr (10, [.ref h_all, .ref h_has, .int f_size, .int f_next, .int f_where, .int f_token, .int f_number, .int f_sign, .int f_word, .int f_wrong, .int f_open, .int f_lines, .int f_acts, .ref h_line, .ref h_act, .ref h_pile, .ref h_comes, .ref h_leaves, .ref h_tried, .ref h_met])), (h_all, .inl (cI, 53700, .inl r_all))] _ := hP
            have hD : va_D A [(h_comes, .inl (cI, 64, .inl r_comes)), (h_leaves, .inl (cI, 64, .inl r_leaves)), (h_pile, .inl (cZ, 300, .inl r_pile)), (h, .inr (10, [.ref h_all, .ref h_has, .int f_size, .int f_next, .int f_where, .int f_token, .int f_number, .int f_sign, .int f_word, .int f_wrong, .int f_open, .int f_lines, .int f_acts, .ref h_line, .ref h_act, .ref h_pile, .ref h_comes, .ref h_leaves, .ref h_tried, .ref h_met])), (h_all, .inl (cI, 53700, .inl r_all))] := hD
            refine lv_goto (tgt := 131) hx hb dX11_ahead_94 (by decide) ?_
            exact tX11_ahead_131 hC hK hA  x2 x3 r_13 r_all r_comes r_leaves r_pile _ _ ls hw (hP.sub [3, 4, 0, 1, 2] rfl) (hD.sub [3, 4, 0, 1, 2] (by decide) rfl) hS (lv_sub hl [0, 2, 3] rfl)
        · have hw := hw.2 c_6
          refine lv_aload_n hx hb dX11_ahead_76 rfl (lv_at hl 0 rfl) ?_
          refine lv_iconst (v := (2 : Int32)) hx hb dX11_ahead_77 (by decide) ?_
          have hPc := hP.sub (ws' := [(h, .inr (10, [.ref h_all, .ref h_has, .int f_size, .int f_next, .int f_where, .int f_token, .int f_number, .int f_sign, .int f_word, .int f_wrong, .int f_open, .int f_lines, .int f_acts, .ref h_line, .ref h_act, .ref h_pile, .ref h_comes, .ref h_leaves, .ref h_tried, .ref h_met])), (h_all, .inl (cI, 53700, .inl r_all))]) [0, 1] rfl
          have hDc := hD.sub (ws' := [(h, .inr (10, [.ref h_all, .ref h_has, .int f_size, .int f_next, .int f_where, .int f_token, .int f_number, .int f_sign, .int f_word, .int f_wrong, .int f_open, .int f_lines, .int f_acts, .ref h_line, .ref h_act, .ref h_pile, .ref h_comes, .ref h_leaves, .ref h_tried, .ref h_met])), (h_all, .inl (cI, 53700, .inl r_all))]) [0, 1] (by decide) rfl
          have hFc := va_free (wc := [(h, .inr (10, [.ref h_all, .ref h_has, .int f_size, .int f_next, .int f_where, .int f_token, .int f_number, .int f_sign, .int f_word, .int f_wrong, .int f_open, .int f_lines, .int f_acts, .ref h_line, .ref h_act, .ref h_pile, .ref h_comes, .ref h_leaves, .ref h_tried, .ref h_met])), (h_all, .inl (cI, 53700, .inl r_all))]) hD hS hA [0, 1] rfl
          refine va_calli (va_runV (As := [.int (2 : Int32)]) (rest := []) ⟨hx, hb, hml, hown, hts⟩ (kX11_iceOf l dC dI cI cZ cO cW h h_all h_has h_line h_act h_pile h_comes h_leaves h_tried h_met H.size f_size f_next f_where f_token f_number f_sign f_word f_wrong f_open f_lines f_acts r_all (2 : Int32) _ hw) (cwV 1 hts (gV gw_830 gw_831 gw_832 gw_622 (gM gw_825)) rfl rfl rfl (by decide +kernel) ⟨Nat.le_of_ble_eq_true rfl, Nat.le_of_ble_eq_true rfl⟩) (pv_of hPc hK hDc (va_recv hK hPc (ci := 10) (q0 := 0) rfl rfl)) rfl rfl hl.1 rfl (lv_room (Nat.le_of_ble_eq_true rfl)) dX11_ahead_78 ⟨Nat.zero_le _, Nat.zero_le _⟩) hS (fun q _ h => hFc q h) hFc (fun r_14 u t H locs ht hvm hw hB hz1 hk1 hS => ?_)
          obtain ⟨hP, hD⟩ := af_join (wr := [(h_comes, .inl (cI, 64, .inl r_comes)), (h_leaves, .inl (cI, 64, .inl r_leaves)), (h_pile, .inl (cZ, 300, .inl r_pile))]) (w1 := [(h, .inr (10, [.ref h_all, .ref h_has, .int f_size, .int f_next, .int f_where, .int f_token, .int f_number, .int f_sign, .int f_word, .int f_wrong, .int f_open, .int f_lines, .int f_acts, .ref h_line, .ref h_act, .ref h_pile, .ref h_comes, .ref h_leaves, .ref h_tried, .ref h_met])), (h_all, .inl (cI, 53700, .inl r_all))]) hB ht hP hD [0, 1] [2, 3, 4] rfl rfl (by decide) (by decide) hk1 hFc
          have hP : va_P (dC, dI) vwCl [(h_comes, .inl (cI, 64, .inl r_comes)), (h_leaves, .inl (cI, 64, .inl r_leaves)), (h_pile, .inl (cZ, 300, .inl r_pile)), (h, .inr (10, [.ref h_all, .ref h_has, .int f_size, .int f_next, .int f_where, .int f_token, .int f_number, .int f_sign, .int f_word, .int f_wrong, .int f_open, .int f_lines, .int f_acts, .ref h_line, .ref h_act, .ref h_pile, .ref h_comes, .ref h_leaves, .ref h_tried, .ref h_met])), (h_all, .inl (cI, 53700, .inl r_all))] _ := hP
          have hD : va_D A [(h_comes, .inl (cI, 64, .inl r_comes)), (h_leaves, .inl (cI, 64, .inl r_leaves)), (h_pile, .inl (cZ, 300, .inl r_pile)), (h, .inr (10, [.ref h_all, .ref h_has, .int f_size, .int f_next, .int f_where, .int f_token, .int f_number, .int f_sign, .int f_word, .int f_wrong, .int f_open, .int f_lines, .int f_acts, .ref h_line, .ref h_act, .ref h_pile, .ref h_comes, .ref h_leaves, .ref h_tried, .ref h_met])), (h_all, .inl (cI, 53700, .inl r_all))] := hD
          refine lv_goto (tgt := 131) hx hb dX11_ahead_81 (by decide) ?_
          exact tX11_ahead_131 hC hK hA  x2 x3 r_14 r_all r_comes r_leaves r_pile _ _ ls hw (hP.sub [3, 4, 0, 1, 2] rfl) (hD.sub [3, 4, 0, 1, 2] (by decide) rfl) hS (lv_sub hl [0, 2, 3] rfl)
      · have hw := hw.2 c_5
        refine lv_aload_n hx hb dX11_ahead_63 rfl (lv_at hl 0 rfl) ?_
        refine lv_iconst (v := (1 : Int32)) hx hb dX11_ahead_64 (by decide) ?_
        have hPc := hP.sub (ws' := [(h, .inr (10, [.ref h_all, .ref h_has, .int f_size, .int f_next, .int f_where, .int f_token, .int f_number, .int f_sign, .int f_word, .int f_wrong, .int f_open, .int f_lines, .int f_acts, .ref h_line, .ref h_act, .ref h_pile, .ref h_comes, .ref h_leaves, .ref h_tried, .ref h_met])), (h_all, .inl (cI, 53700, .inl r_all))]) [0, 1] rfl
        have hDc := hD.sub (ws' := [(h, .inr (10, [.ref h_all, .ref h_has, .int f_size, .int f_next, .int f_where, .int f_token, .int f_number, .int f_sign, .int f_word, .int f_wrong, .int f_open, .int f_lines, .int f_acts, .ref h_line, .ref h_act, .ref h_pile, .ref h_comes, .ref h_leaves, .ref h_tried, .ref h_met])), (h_all, .inl (cI, 53700, .inl r_all))]) [0, 1] (by decide) rfl
        have hFc := va_free (wc := [(h, .inr (10, [.ref h_all, .ref h_has, .int f_size, .int f_next, .int f_where, .int f_token, .int f_number, .int f_sign, .int f_word, .int f_wrong, .int f_open, .int f_lines, .int f_acts, .ref h_line, .ref h_act, .ref h_pile, .ref h_comes, .ref h_leaves, .ref h_tried, .ref h_met])), (h_all, .inl (cI, 53700, .inl r_all))]) hD hS hA [0, 1] rfl
        refine va_calli (va_runV (As := [.int (1 : Int32)]) (rest := []) ⟨hx, hb, hml, hown, hts⟩ (kX11_iceOf l dC dI cI cZ cO cW h h_all h_has h_line h_act h_pile h_comes h_leaves h_tried h_met H.size f_size f_next f_where f_token f_number f_sign f_word f_wrong f_open f_lines f_acts r_all (1 : Int32) _ hw) (cwV 1 hts (gV gw_830 gw_831 gw_832 gw_622 (gM gw_825)) rfl rfl rfl (by decide +kernel) ⟨Nat.le_of_ble_eq_true rfl, Nat.le_of_ble_eq_true rfl⟩) (pv_of hPc hK hDc (va_recv hK hPc (ci := 10) (q0 := 0) rfl rfl)) rfl rfl hl.1 rfl (lv_room (Nat.le_of_ble_eq_true rfl)) dX11_ahead_65 ⟨Nat.zero_le _, Nat.zero_le _⟩) hS (fun q _ h => hFc q h) hFc (fun r_15 u t H locs ht hvm hw hB hz1 hk1 hS => ?_)
        obtain ⟨hP, hD⟩ := af_join (wr := [(h_comes, .inl (cI, 64, .inl r_comes)), (h_leaves, .inl (cI, 64, .inl r_leaves)), (h_pile, .inl (cZ, 300, .inl r_pile))]) (w1 := [(h, .inr (10, [.ref h_all, .ref h_has, .int f_size, .int f_next, .int f_where, .int f_token, .int f_number, .int f_sign, .int f_word, .int f_wrong, .int f_open, .int f_lines, .int f_acts, .ref h_line, .ref h_act, .ref h_pile, .ref h_comes, .ref h_leaves, .ref h_tried, .ref h_met])), (h_all, .inl (cI, 53700, .inl r_all))]) hB ht hP hD [0, 1] [2, 3, 4] rfl rfl (by decide) (by decide) hk1 hFc
        have hP : va_P (dC, dI) vwCl [(h_comes, .inl (cI, 64, .inl r_comes)), (h_leaves, .inl (cI, 64, .inl r_leaves)), (h_pile, .inl (cZ, 300, .inl r_pile)), (h, .inr (10, [.ref h_all, .ref h_has, .int f_size, .int f_next, .int f_where, .int f_token, .int f_number, .int f_sign, .int f_word, .int f_wrong, .int f_open, .int f_lines, .int f_acts, .ref h_line, .ref h_act, .ref h_pile, .ref h_comes, .ref h_leaves, .ref h_tried, .ref h_met])), (h_all, .inl (cI, 53700, .inl r_all))] _ := hP
        have hD : va_D A [(h_comes, .inl (cI, 64, .inl r_comes)), (h_leaves, .inl (cI, 64, .inl r_leaves)), (h_pile, .inl (cZ, 300, .inl r_pile)), (h, .inr (10, [.ref h_all, .ref h_has, .int f_size, .int f_next, .int f_where, .int f_token, .int f_number, .int f_sign, .int f_word, .int f_wrong, .int f_open, .int f_lines, .int f_acts, .ref h_line, .ref h_act, .ref h_pile, .ref h_comes, .ref h_leaves, .ref h_tried, .ref h_met])), (h_all, .inl (cI, 53700, .inl r_all))] := hD
        refine lv_goto (tgt := 131) hx hb dX11_ahead_68 (by decide) ?_
        exact tX11_ahead_131 hC hK hA  x2 x3 r_15 r_all r_comes r_leaves r_pile _ _ ls hw (hP.sub [3, 4, 0, 1, 2] rfl) (hD.sub [3, 4, 0, 1, 2] (by decide) rfl) hS (lv_sub hl [0, 2, 3] rfl)
    · have hw := hw.2 c_4
      refine lv_aload_n hx hb dX11_ahead_48 rfl (lv_at hl 0 rfl) ?_
      have hPc := hP.sub (ws' := [(h, .inr (10, [.ref h_all, .ref h_has, .int f_size, .int f_next, .int f_where, .int f_token, .int f_number, .int f_sign, .int f_word, .int f_wrong, .int f_open, .int f_lines, .int f_acts, .ref h_line, .ref h_act, .ref h_pile, .ref h_comes, .ref h_leaves, .ref h_tried, .ref h_met])), (h_all, .inl (cI, 53700, .inl r_all)), (h_comes, .inl (cI, 64, .inl r_comes)), (h_leaves, .inl (cI, 64, .inl r_leaves)), (h_pile, .inl (cZ, 300, .inl r_pile))]) [0, 1, 2, 3, 4] rfl
      have hDc := hD.sub (ws' := [(h, .inr (10, [.ref h_all, .ref h_has, .int f_size, .int f_next, .int f_where, .int f_token, .int f_number, .int f_sign, .int f_word, .int f_wrong, .int f_open, .int f_lines, .int f_acts, .ref h_line, .ref h_act, .ref h_pile, .ref h_comes, .ref h_leaves, .ref h_tried, .ref h_met])), (h_all, .inl (cI, 53700, .inl r_all)), (h_comes, .inl (cI, 64, .inl r_comes)), (h_leaves, .inl (cI, 64, .inl r_leaves)), (h_pile, .inl (cZ, 300, .inl r_pile))]) [0, 1, 2, 3, 4] (by decide) rfl
      have hFc := va_free (wc := [(h, .inr (10, [.ref h_all, .ref h_has, .int f_size, .int f_next, .int f_where, .int f_token, .int f_number, .int f_sign, .int f_word, .int f_wrong, .int f_open, .int f_lines, .int f_acts, .ref h_line, .ref h_act, .ref h_pile, .ref h_comes, .ref h_leaves, .ref h_tried, .ref h_met])), (h_all, .inl (cI, 53700, .inl r_all)), (h_comes, .inl (cI, 64, .inl r_comes)), (h_leaves, .inl (cI, 64, .inl r_leaves)), (h_pile, .inl (cZ, 300, .inl r_pile))]) hD hS hA [0, 1, 2, 3, 4] rfl
      refine va_callv (va_runV (As := []) (rest := []) ⟨hx, hb, hml, hown, hts⟩ (kX11_anHour l dC dI cI cZ cO cW h h_all h_has h_line h_act h_pile h_comes h_leaves h_tried h_met H.size f_size f_next f_where f_token f_number f_sign f_word f_wrong f_open f_lines f_acts r_all r_comes r_leaves r_pile _ hw) (cwV 0 hts (gV gw_821 gw_822 gw_823 gw_622 (gM gw_816)) rfl rfl rfl (by decide +kernel) ⟨Nat.le_of_ble_eq_true rfl, Nat.le_of_ble_eq_true rfl⟩) (pv_of hPc hK hDc (va_recv hK hPc (ci := 10) (q0 := 0) rfl rfl)) rfl rfl hl.1 rfl (lv_room (Nat.le_of_ble_eq_true rfl)) dX11_ahead_49 ⟨Nat.zero_le _, Nat.zero_le _⟩) hS (fun q _ h => hFc q h) hFc (fun u t H locs ht hvm hw hB hz1 hk1 hS => ?_)
      obtain ⟨r_all_16, r_comes_17, r_leaves_18, r_pile_19⟩ := u
      obtain ⟨hP, hD⟩ := af_join (wr := []) (w1 := [(h, .inr (10, [.ref h_all, .ref h_has, .int f_size, .int f_next, .int f_where, .int f_token, .int f_number, .int f_sign, .int f_word, .int f_wrong, .int f_open, .int f_lines, .int f_acts, .ref h_line, .ref h_act, .ref h_pile, .ref h_comes, .ref h_leaves, .ref h_tried, .ref h_met])), (h_all, .inl (cI, 53700, .inl r_all_16)), (h_comes, .inl (cI, 64, .inl r_comes_17)), (h_leaves, .inl (cI, 64, .inl r_leaves_18)), (h_pile, .inl (cZ, 300, .inl r_pile_19))]) hB ht hP hD [0, 1, 2, 3, 4] [] rfl rfl (by decide) (by decide) hk1 hFc
      have hP : va_P (dC, dI) vwCl [(h, .inr (10, [.ref h_all, .ref h_has, .int f_size, .int f_next, .int f_where, .int f_token, .int f_number, .int f_sign, .int f_word, .int f_wrong, .int f_open, .int f_lines, .int f_acts, .ref h_line, .ref h_act, .ref h_pile, .ref h_comes, .ref h_leaves, .ref h_tried, .ref h_met])), (h_all, .inl (cI, 53700, .inl r_all_16)), (h_comes, .inl (cI, 64, .inl r_comes_17)), (h_leaves, .inl (cI, 64, .inl r_leaves_18)), (h_pile, .inl (cZ, 300, .inl r_pile_19))] _ := hP
      have hD : va_D A [(h, .inr (10, [.ref h_all, .ref h_has, .int f_size, .int f_next, .int f_where, .int f_token, .int f_number, .int f_sign, .int f_word, .int f_wrong, .int f_open, .int f_lines, .int f_acts, .ref h_line, .ref h_act, .ref h_pile, .ref h_comes, .ref h_leaves, .ref h_tried, .ref h_met])), (h_all, .inl (cI, 53700, .inl r_all_16)), (h_comes, .inl (cI, 64, .inl r_comes_17)), (h_leaves, .inl (cI, 64, .inl r_leaves_18)), (h_pile, .inl (cZ, 300, .inl r_pile_19))] := hD
      refine lv_iinc (v := (x4 + (1 : Int32))) (lv' := [(4, .int (x4 + (1 : Int32))), (0, .ref h), (1, .int x1), (2, .int x2), (3, .int x3)]) hx hb dX11_ahead_52 hl (k := 4) rfl rfl (by decide) rfl (fun ls hl => ?_)
      refine lv_goto (tgt := 42) hx hb dX11_ahead_55 (by decide) ?_
      exact ih x1 x2 x3 (x4 + (1 : Int32)) r_all_16 r_comes_17 r_leaves_18 r_pile_19 _ _ ls hw (hP.sub [0, 1, 2, 3, 4] rfl) (hD.sub [0, 1, 2, 3, 4] (by decide) rfl) hS (lv_sub hl [1, 2, 3, 4, 0] rfl)
set_option maxHeartbeats 4000000 in
set_option maxRecDepth 100000 in
theorem tX11_ahead_33 {p : Program} {l : Launch} {e : Env} {s : State} {m : MethodId} {args : Array Value} {below : List Frame} {meth : Method} {c : Code} {dC : Nat → ClassId} {dI : Nat → Nat → Nat} {cI cZ cO cW : ClassId} {A : Nat → Prop} {h h_all h_has h_line h_act h_pile h_comes h_leaves h_tried h_met : Nat} {f_size f_next f_where f_token f_number f_sign f_word f_wrong f_open f_lines f_acts : Int32} {Q : Int32 → (Nat → Int32) → (Nat → Int32) → (Nat → Int32) → (Nat → Int32) → Prop}  (hC : Cx p s m args meth c cX11_ahead (some .int) 5 GW RX11) (hK : va_K (dC, dI) vwCl (tysA cI cZ cO cW) s) (hA : ∀ q : Nat, s.heap.size ≤ q → A q) :
    ∀ (x1 : Int32) (x2 : Int32) (x3 : Int32) (r_all : (Nat → Int32)) (r_comes : (Nat → Int32)) (r_leaves : (Nat → Int32)) (r_pile : (Nat → Int32)) (H : Heap) (locs : List Loc) (ls : Array Slot), wX11_ahead_33 Q  x1 x2 x3 r_all r_comes r_leaves r_pile → va_P (dC, dI) vwCl (vX11_ahead cI cZ h h_all h_has h_line h_act h_pile h_comes h_leaves h_tried h_met f_size f_next f_where f_token f_number f_sign f_word f_wrong f_open f_lines f_acts r_all r_comes r_leaves r_pile) H → va_D A (vX11_ahead cI cZ h h_all h_has h_line h_act h_pile h_comes h_leaves h_tried h_met f_size f_next f_where f_token f_number f_sign f_word f_wrong f_open f_lines f_acts r_all r_comes r_leaves r_pile) → va_S A s.heap H locs → lv_has ls 5 [(0, .ref h), (1, .int x1), (2, .int x2), (3, .int x3)] → W p l e rmX11_ahead s m args below meth c H locs 0 0 (MQ below (qX11_ahead dC dI cI cZ cO cW h h_all h_has h_line h_act h_pile h_comes h_leaves h_tried h_met f_size f_next f_where f_token f_number f_sign f_word f_wrong f_open f_lines f_acts Q A) args s 0 0 A) (F0 m 33 ls []) := by
  obtain ⟨hx, hb, hr, hml, hown, hts, hlocks⟩ := id hC
  intro x1 x2 x3 r_all r_comes r_leaves r_pile H locs ls hw hP hD hS hl
  refine lv_aload_n hx hb dX11_ahead_33 rfl (lv_at hl 0 rfl) ?_
  refine lv_iconst (v := (0 : Int32)) hx hb dX11_ahead_34 (by decide) ?_
  refine lv_iconst (v := (4 : Int32)) hx hb dX11_ahead_35 (by decide) ?_
  have hPc := hP.sub (ws' := [(h, .inr (10, [.ref h_all, .ref h_has, .int f_size, .int f_next, .int f_where, .int f_token, .int f_number, .int f_sign, .int f_word, .int f_wrong, .int f_open, .int f_lines, .int f_acts, .ref h_line, .ref h_act, .ref h_pile, .ref h_comes, .ref h_leaves, .ref h_tried, .ref h_met])), (h_all, .inl (cI, 53700, .inl r_all))]) [0, 1] rfl
  have hDc := hD.sub (ws' := [(h, .inr (10, [.ref h_all, .ref h_has, .int f_size, .int f_next, .int f_where, .int f_token, .int f_number, .int f_sign, .int f_word, .int f_wrong, .int f_open, .int f_lines, .int f_acts, .ref h_line, .ref h_act, .ref h_pile, .ref h_comes, .ref h_leaves, .ref h_tried, .ref h_met])), (h_all, .inl (cI, 53700, .inl r_all))]) [0, 1] (by decide) rfl
  have hFc := va_free (wc := [(h, .inr (10, [.ref h_all, .ref h_has, .int f_size, .int f_next, .int f_where, .int f_token, .int f_number, .int f_sign, .int f_word, .int f_wrong, .int f_open, .int f_lines, .int f_acts, .ref h_line, .ref h_act, .ref h_pile, .ref h_comes, .ref h_leaves, .ref h_tried, .ref h_met])), (h_all, .inl (cI, 53700, .inl r_all))]) hD hS hA [0, 1] rfl
  refine va_callv (va_runV (As := [.int (0 : Int32), .int (4 : Int32)]) (rest := []) ⟨hx, hb, hml, hown, hts⟩ (kX11_copies l dC dI cI cZ cO cW h h_all h_has h_line h_act h_pile h_comes h_leaves h_tried h_met H.size f_size f_next f_where f_token f_number f_sign f_word f_wrong f_open f_lines f_acts r_all (0 : Int32) (4 : Int32) _ hw) (cwV 2 hts (gV gw_827 gw_828 gw_829 gw_622 (gM gw_826)) rfl rfl rfl (by decide +kernel) ⟨Nat.le_of_ble_eq_true rfl, Nat.le_of_ble_eq_true rfl⟩) (pv_of hPc hK hDc (va_recv hK hPc (ci := 10) (q0 := 0) rfl rfl)) rfl rfl hl.1 rfl (lv_room (Nat.le_of_ble_eq_true rfl)) dX11_ahead_36 ⟨Nat.zero_le _, Nat.zero_le _⟩) hS (fun q _ h => hFc q h) hFc (fun u t H locs ht hvm hw hB hz1 hk1 hS => ?_)
  obtain ⟨r_all_20, rfl⟩ : ∃ z, z = u := ⟨_, rfl⟩
  obtain ⟨hP, hD⟩ := af_join (wr := [(h_comes, .inl (cI, 64, .inl r_comes)), (h_leaves, .inl (cI, 64, .inl r_leaves)), (h_pile, .inl (cZ, 300, .inl r_pile))]) (w1 := [(h, .inr (10, [.ref h_all, .ref h_has, .int f_size, .int f_next, .int f_where, .int f_token, .int f_number, .int f_sign, .int f_word, .int f_wrong, .int f_open, .int f_lines, .int f_acts, .ref h_line, .ref h_act, .ref h_pile, .ref h_comes, .ref h_leaves, .ref h_tried, .ref h_met])), (h_all, .inl (cI, 53700, .inl r_all_20))]) hB ht hP hD [0, 1] [2, 3, 4] rfl rfl (by decide) (by decide) hk1 hFc
  have hP : va_P (dC, dI) vwCl [(h_comes, .inl (cI, 64, .inl r_comes)), (h_leaves, .inl (cI, 64, .inl r_leaves)), (h_pile, .inl (cZ, 300, .inl r_pile)), (h, .inr (10, [.ref h_all, .ref h_has, .int f_size, .int f_next, .int f_where, .int f_token, .int f_number, .int f_sign, .int f_word, .int f_wrong, .int f_open, .int f_lines, .int f_acts, .ref h_line, .ref h_act, .ref h_pile, .ref h_comes, .ref h_leaves, .ref h_tried, .ref h_met])), (h_all, .inl (cI, 53700, .inl r_all_20))] _ := hP
  have hD : va_D A [(h_comes, .inl (cI, 64, .inl r_comes)), (h_leaves, .inl (cI, 64, .inl r_leaves)), (h_pile, .inl (cZ, 300, .inl r_pile)), (h, .inr (10, [.ref h_all, .ref h_has, .int f_size, .int f_next, .int f_where, .int f_token, .int f_number, .int f_sign, .int f_word, .int f_wrong, .int f_open, .int f_lines, .int f_acts, .ref h_line, .ref h_act, .ref h_pile, .ref h_comes, .ref h_leaves, .ref h_tried, .ref h_met])), (h_all, .inl (cI, 53700, .inl r_all_20))] := hD
  refine lv_iconst (v := (0 : Int32)) hx hb dX11_ahead_39 (by decide) ?_
  refine lv_istore (lv' := [(4, .int (0 : Int32)), (0, .ref h), (1, .int x1), (2, .int x2), (3, .int x3)]) hx hb dX11_ahead_40 hl (by decide) rfl (fun ls hl => ?_)
  obtain ⟨n_21, hw⟩ := hw
  exact tX11_ahead_42 hC hK hA  n_21 x1 x2 x3 (0 : Int32) r_all_20 r_comes r_leaves r_pile _ _ ls hw (hP.sub [3, 4, 0, 1, 2] rfl) (hD.sub [3, 4, 0, 1, 2] (by decide) rfl) hS (lv_sub hl [1, 2, 3, 4, 0] rfl)
set_option maxHeartbeats 4000000 in
set_option maxRecDepth 100000 in
theorem tX11_ahead_e {p : Program} {l : Launch} {e : Env} {s : State} {m : MethodId} {args : Array Value} {below : List Frame} {meth : Method} {c : Code} {dC : Nat → ClassId} {dI : Nat → Nat → Nat} {cI cZ cO cW : ClassId} {A : Nat → Prop} {h h_all h_has h_line h_act h_pile h_comes h_leaves h_tried h_met : Nat} {f_size f_next f_where f_token f_number f_sign f_word f_wrong f_open f_lines f_acts : Int32} {Q : Int32 → (Nat → Int32) → (Nat → Int32) → (Nat → Int32) → (Nat → Int32) → Prop} (hC : Cx p s m args meth c cX11_ahead (some .int) 5 GW RX11) (hK : va_K (dC, dI) vwCl (tysA cI cZ cO cW) s) (hA : ∀ q : Nat, s.heap.size ≤ q → A q) :
    ∀ (x1 : Int32) (x2 : Int32) (x3 : Int32) (r_all : Nat → Int32) (r_comes : Nat → Int32) (r_leaves : Nat → Int32) (r_pile : Nat → Int32) (H : Heap) (locs : List Loc) (ls : Array Slot), wX11_ahead Q x1 x2 x3 r_all r_comes r_leaves r_pile → va_P (dC, dI) vwCl (vX11_ahead cI cZ h h_all h_has h_line h_act h_pile h_comes h_leaves h_tried h_met f_size f_next f_where f_token f_number f_sign f_word f_wrong f_open f_lines f_acts r_all r_comes r_leaves r_pile) H → va_D A (vX11_ahead cI cZ h h_all h_has h_line h_act h_pile h_comes h_leaves h_tried h_met f_size f_next f_where f_token f_number f_sign f_word f_wrong f_open f_lines f_acts r_all r_comes r_leaves r_pile) → va_S A s.heap H locs → lv_has ls 5 [(0, .ref h), (1, .int x1), (2, .int x2), (3, .int x3)] → W p l e rmX11_ahead s m args below meth c H locs 0 0 (MQ below (qX11_ahead dC dI cI cZ cO cW h h_all h_has h_line h_act h_pile h_comes h_leaves h_tried h_met f_size f_next f_where f_token f_number f_sign f_word f_wrong f_open f_lines f_acts Q A) args s 0 0 A) (F0 m 0 ls []) := by
  obtain ⟨hx, hb, hr, hml, hown, hts, hlocks⟩ := id hC
  intro x1 x2 x3 r_all r_comes r_leaves r_pile H locs ls hw hP hD hS hl
  refine lv_aload_n hx hb dX11_ahead_0 rfl (lv_at hl 0 rfl) ?_
  refine lv_iload_n hx hb dX11_ahead_1 rfl (lv_at hl 1 rfl) ?_
  have hPc := hP.sub (ws' := [(h, .inr (10, [.ref h_all, .ref h_has, .int f_size, .int f_next, .int f_where, .int f_token, .int f_number, .int f_sign, .int f_word, .int f_wrong, .int f_open, .int f_lines, .int f_acts, .ref h_line, .ref h_act, .ref h_pile, .ref h_comes, .ref h_leaves, .ref h_tried, .ref h_met])), (h_all, .inl (cI, 53700, .inl r_all))]) [0, 1] rfl
  have hDc := hD.sub (ws' := [(h, .inr (10, [.ref h_all, .ref h_has, .int f_size, .int f_next, .int f_where, .int f_token, .int f_number, .int f_sign, .int f_word, .int f_wrong, .int f_open, .int f_lines, .int f_acts, .ref h_line, .ref h_act, .ref h_pile, .ref h_comes, .ref h_leaves, .ref h_tried, .ref h_met])), (h_all, .inl (cI, 53700, .inl r_all))]) [0, 1] (by decide) rfl
  have hFc := va_free (wc := [(h, .inr (10, [.ref h_all, .ref h_has, .int f_size, .int f_next, .int f_where, .int f_token, .int f_number, .int f_sign, .int f_word, .int f_wrong, .int f_open, .int f_lines, .int f_acts, .ref h_line, .ref h_act, .ref h_pile, .ref h_comes, .ref h_leaves, .ref h_tried, .ref h_met])), (h_all, .inl (cI, 53700, .inl r_all))]) hD hS hA [0, 1] rfl
  refine va_calli (va_runV (As := [.int x1]) (rest := []) ⟨hx, hb, hml, hown, hts⟩ (kX11_mayGo l dC dI cI cZ cO cW h h_all h_has h_line h_act h_pile h_comes h_leaves h_tried h_met H.size f_size f_next f_where f_token f_number f_sign f_word f_wrong f_open f_lines f_acts r_all x1 _ hw) (cwV 1 hts (gV gw_818 gw_819 gw_820 gw_622 (gM gw_817)) rfl rfl rfl (by decide +kernel) ⟨Nat.le_of_ble_eq_true rfl, Nat.le_of_ble_eq_true rfl⟩) (pv_of hPc hK hDc (va_recv hK hPc (ci := 10) (q0 := 0) rfl rfl)) rfl rfl hl.1 rfl (lv_room (Nat.le_of_ble_eq_true rfl)) dX11_ahead_2 ⟨Nat.zero_le _, Nat.zero_le _⟩) hS (fun q _ h => hFc q h) hFc (fun r_22 u t H locs ht hvm hw hB hz1 hk1 hS => ?_)
  obtain ⟨hP, hD⟩ := af_join (wr := [(h_comes, .inl (cI, 64, .inl r_comes)), (h_leaves, .inl (cI, 64, .inl r_leaves)), (h_pile, .inl (cZ, 300, .inl r_pile))]) (w1 := [(h, .inr (10, [.ref h_all, .ref h_has, .int f_size, .int f_next, .int f_where, .int f_token, .int f_number, .int f_sign, .int f_word, .int f_wrong, .int f_open, .int f_lines, .int f_acts, .ref h_line, .ref h_act, .ref h_pile, .ref h_comes, .ref h_leaves, .ref h_tried, .ref h_met])), (h_all, .inl (cI, 53700, .inl r_all))]) hB ht hP hD [0, 1] [2, 3, 4] rfl rfl (by decide) (by decide) hk1 hFc
  have hP : va_P (dC, dI) vwCl [(h_comes, .inl (cI, 64, .inl r_comes)), (h_leaves, .inl (cI, 64, .inl r_leaves)), (h_pile, .inl (cZ, 300, .inl r_pile)), (h, .inr (10, [.ref h_all, .ref h_has, .int f_size, .int f_next, .int f_where, .int f_token, .int f_number, .int f_sign, .int f_word, .int f_wrong, .int f_open, .int f_lines, .int f_acts, .ref h_line, .ref h_act, .ref h_pile, .ref h_comes, .ref h_leaves, .ref h_tried, .ref h_met])), (h_all, .inl (cI, 53700, .inl r_all))] _ := hP
  have hD : va_D A [(h_comes, .inl (cI, 64, .inl r_comes)), (h_leaves, .inl (cI, 64, .inl r_leaves)), (h_pile, .inl (cZ, 300, .inl r_pile)), (h, .inr (10, [.ref h_all, .ref h_has, .int f_size, .int f_next, .int f_where, .int f_token, .int f_number, .int f_sign, .int f_word, .int f_wrong, .int f_open, .int f_lines, .int f_acts, .ref h_line, .ref h_act, .ref h_pile, .ref h_comes, .ref h_leaves, .ref h_tried, .ref h_met])), (h_all, .inl (cI, 53700, .inl r_all))] := hD
  refine lv_if_eq (tgt := 30) hx hb dX11_ahead_5 (by decide) (fun c_23 => ?_) (fun c_23 => ?_)
  · have hw := hw.1 c_23
    refine lv_bipush (v := (-2 : Int32)) hx hb dX11_ahead_30 (by decide) ?_
    have hP9 := hP.sub (ws' := (vX11_ahead cI cZ h h_all h_has h_line h_act h_pile h_comes h_leaves h_tried h_met f_size f_next f_where f_token f_number f_sign f_word f_wrong f_open f_lines f_acts r_all r_comes r_leaves r_pile)) [3, 4, 0, 1, 2] rfl
    have hD9 := hD.sub (ws' := (vX11_ahead cI cZ h h_all h_has h_line h_act h_pile h_comes h_leaves h_tried h_met f_size f_next f_where f_token f_number f_sign f_word f_wrong f_open f_lines f_acts r_all r_comes r_leaves r_pile)) [3, 4, 0, 1, 2] (by decide) rfl
    exact W.iret (v := (-2 : Int32)) hx hb hr (fun t ht hW => ⟨⟨(-2 : Int32), (r_all, r_comes, r_leaves, r_pile), rfl, hw, by rw [ht]; exact hP9, va_K.moved hW.alike hK, hD9⟩, hS.F ht⟩) hS.2.2 dX11_ahead_32
  · have hw := hw.2 c_23
    refine lv_iload_n hx hb dX11_ahead_8 rfl (lv_at hl 3 rfl) ?_
    refine lv_iconst (v := (0 : Int32)) hx hb dX11_ahead_9 (by decide) ?_
    refine lv_iconst (v := (5 : Int32)) hx hb dX11_ahead_10 (by decide) ?_
    have hPc := hP.sub (ws' := []) [] rfl
    have hDc := hD.sub (ws' := []) [] (by decide) rfl
    have hFc := va_free (wc := []) hD hS hA [] rfl
    refine va_calli (va_runS (As := [.int x3, .int (0 : Int32), .int (5 : Int32)]) (rest := []) ⟨hx, hb, hml, hown, hts⟩ (kX11_isIn l dC dI cI cZ cO cW H.size x3 (0 : Int32) (5 : Int32) _ hw) (va_cwS 3 hts (gS gw_625 gw_626 gw_622 (gM gw_623)) rfl rfl rfl (by decide +kernel) ⟨Nat.le_of_ble_eq_true rfl, Nat.le_of_ble_eq_true rfl⟩) (ps_of hPc hK hDc) rfl rfl hl.1 rfl (lv_room (Nat.le_of_ble_eq_true rfl)) dX11_ahead_11 ⟨Nat.zero_le _, Nat.zero_le _⟩) hS (fun q _ h => hFc q h) hFc (fun r_24 u t H locs ht hvm hw hB hz1 hk1 hS => ?_)
    obtain ⟨hP, hD⟩ := af_join (wr := [(h_comes, .inl (cI, 64, .inl r_comes)), (h_leaves, .inl (cI, 64, .inl r_leaves)), (h_pile, .inl (cZ, 300, .inl r_pile)), (h, .inr (10, [.ref h_all, .ref h_has, .int f_size, .int f_next, .int f_where, .int f_token, .int f_number, .int f_sign, .int f_word, .int f_wrong, .int f_open, .int f_lines, .int f_acts, .ref h_line, .ref h_act, .ref h_pile, .ref h_comes, .ref h_leaves, .ref h_tried, .ref h_met])), (h_all, .inl (cI, 53700, .inl r_all))]) (w1 := []) hB ht hP hD [] [0, 1, 2, 3, 4] rfl rfl (by decide) (by decide) hk1 hFc
    have hP : va_P (dC, dI) vwCl [(h_comes, .inl (cI, 64, .inl r_comes)), (h_leaves, .inl (cI, 64, .inl r_leaves)), (h_pile, .inl (cZ, 300, .inl r_pile)), (h, .inr (10, [.ref h_all, .ref h_has, .int f_size, .int f_next, .int f_where, .int f_token, .int f_number, .int f_sign, .int f_word, .int f_wrong, .int f_open, .int f_lines, .int f_acts, .ref h_line, .ref h_act, .ref h_pile, .ref h_comes, .ref h_leaves, .ref h_tried, .ref h_met])), (h_all, .inl (cI, 53700, .inl r_all))] _ := hP
    have hD : va_D A [(h_comes, .inl (cI, 64, .inl r_comes)), (h_leaves, .inl (cI, 64, .inl r_leaves)), (h_pile, .inl (cZ, 300, .inl r_pile)), (h, .inr (10, [.ref h_all, .ref h_has, .int f_size, .int f_next, .int f_where, .int f_token, .int f_number, .int f_sign, .int f_word, .int f_wrong, .int f_open, .int f_lines, .int f_acts, .ref h_line, .ref h_act, .ref h_pile, .ref h_comes, .ref h_leaves, .ref h_tried, .ref h_met])), (h_all, .inl (cI, 53700, .inl r_all))] := hD
    refine lv_if_eq (tgt := 30) hx hb dX11_ahead_14 (by decide) (fun c_25 => ?_) (fun c_25 => ?_)
    · have hw := hw.1 c_25
      refine lv_bipush (v := (-2 : Int32)) hx hb dX11_ahead_30 (by decide) ?_
      have hP9 := hP.sub (ws' := (vX11_ahead cI cZ h h_all h_has h_line h_act h_pile h_comes h_leaves h_tried h_met f_size f_next f_where f_token f_number f_sign f_word f_wrong f_open f_lines f_acts r_all r_comes r_leaves r_pile)) [3, 4, 0, 1, 2] rfl
      have hD9 := hD.sub (ws' := (vX11_ahead cI cZ h h_all h_has h_line h_act h_pile h_comes h_leaves h_tried h_met f_size f_next f_where f_token f_number f_sign f_word f_wrong f_open f_lines f_acts r_all r_comes r_leaves r_pile)) [3, 4, 0, 1, 2] (by decide) rfl
      exact W.iret (v := (-2 : Int32)) hx hb hr (fun t ht hW => ⟨⟨(-2 : Int32), (r_all, r_comes, r_leaves, r_pile), rfl, hw, by rw [ht]; exact hP9, va_K.moved hW.alike hK, hD9⟩, hS.F ht⟩) hS.2.2 dX11_ahead_32
    · have hw := hw.2 c_25
      refine lv_iload_n hx hb dX11_ahead_17 rfl (lv_at hl 3 rfl) ?_
      refine lv_iconst (v := (4 : Int32)) hx hb dX11_ahead_18 (by decide) ?_
      refine lv_icmp_ge (tgt := 33) hx hb dX11_ahead_19 (by decide) (fun c_26 => ?_) (fun c_26 => ?_)
      · have hw := hw.1 c_26
        exact tX11_ahead_33 hC hK hA  x1 x2 x3 r_all r_comes r_leaves r_pile _ _ ls hw (hP.sub [3, 4, 0, 1, 2] rfl) (hD.sub [3, 4, 0, 1, 2] (by decide) rfl) hS (lv_sub hl [0, 1, 2, 3] rfl)
      · have hw := hw.2 c_26
        refine lv_aload_n hx hb dX11_ahead_22 rfl (lv_at hl 0 rfl) ?_
        refine lv_iload_n hx hb dX11_ahead_23 rfl (lv_at hl 2 rfl) ?_
        have hPc := hP.sub (ws' := [(h, .inr (10, [.ref h_all, .ref h_has, .int f_size, .int f_next, .int f_where, .int f_token, .int f_number, .int f_sign, .int f_word, .int f_wrong, .int f_open, .int f_lines, .int f_acts, .ref h_line, .ref h_act, .ref h_pile, .ref h_comes, .ref h_leaves, .ref h_tried, .ref h_met])), (h_all, .inl (cI, 53700, .inl r_all))]) [3, 4] rfl
        have hDc := hD.sub (ws' := [(h, .inr (10, [.ref h_all, .ref h_has, .int f_size, .int f_next, .int f_where, .int f_token, .int f_number, .int f_sign, .int f_word, .int f_wrong, .int f_open, .int f_lines, .int f_acts, .ref h_line, .ref h_act, .ref h_pile, .ref h_comes, .ref h_leaves, .ref h_tried, .ref h_met])), (h_all, .inl (cI, 53700, .inl r_all))]) [3, 4] (by decide) rfl
        have hFc := va_free (wc := [(h, .inr (10, [.ref h_all, .ref h_has, .int f_size, .int f_next, .int f_where, .int f_token, .int f_number, .int f_sign, .int f_word, .int f_wrong, .int f_open, .int f_lines, .int f_acts, .ref h_line, .ref h_act, .ref h_pile, .ref h_comes, .ref h_leaves, .ref h_tried, .ref h_met])), (h_all, .inl (cI, 53700, .inl r_all))]) hD hS hA [3, 4] rfl
        refine va_calli (va_runV (As := [.int x2]) (rest := []) ⟨hx, hb, hml, hown, hts⟩ (kX11_isShip l dC dI cI cZ cO cW h h_all h_has h_line h_act h_pile h_comes h_leaves h_tried h_met H.size f_size f_next f_where f_token f_number f_sign f_word f_wrong f_open f_lines f_acts r_all x2 _ hw) (cwV 1 hts (gV gw_753 gw_754 gw_755 gw_622 (gM gw_659)) rfl rfl rfl (by decide +kernel) ⟨Nat.le_of_ble_eq_true rfl, Nat.le_of_ble_eq_true rfl⟩) (pv_of hPc hK hDc (va_recv hK hPc (ci := 10) (q0 := 0) rfl rfl)) rfl rfl hl.1 rfl (lv_room (Nat.le_of_ble_eq_true rfl)) dX11_ahead_24 ⟨Nat.zero_le _, Nat.zero_le _⟩) hS (fun q _ h => hFc q h) hFc (fun r_27 u t H locs ht hvm hw hB hz1 hk1 hS => ?_)
        obtain ⟨hP, hD⟩ := af_join (wr := [(h_comes, .inl (cI, 64, .inl r_comes)), (h_leaves, .inl (cI, 64, .inl r_leaves)), (h_pile, .inl (cZ, 300, .inl r_pile))]) (w1 := [(h, .inr (10, [.ref h_all, .ref h_has, .int f_size, .int f_next, .int f_where, .int f_token, .int f_number, .int f_sign, .int f_word, .int f_wrong, .int f_open, .int f_lines, .int f_acts, .ref h_line, .ref h_act, .ref h_pile, .ref h_comes, .ref h_leaves, .ref h_tried, .ref h_met])), (h_all, .inl (cI, 53700, .inl r_all))]) hB ht hP hD [3, 4] [0, 1, 2] rfl rfl (by decide) (by decide) hk1 hFc
        have hP : va_P (dC, dI) vwCl [(h_comes, .inl (cI, 64, .inl r_comes)), (h_leaves, .inl (cI, 64, .inl r_leaves)), (h_pile, .inl (cZ, 300, .inl r_pile)), (h, .inr (10, [.ref h_all, .ref h_has, .int f_size, .int f_next, .int f_where, .int f_token, .int f_number, .int f_sign, .int f_word, .int f_wrong, .int f_open, .int f_lines, .int f_acts, .ref h_line, .ref h_act, .ref h_pile, .ref h_comes, .ref h_leaves, .ref h_tried, .ref h_met])), (h_all, .inl (cI, 53700, .inl r_all))] _ := hP
        have hD : va_D A [(h_comes, .inl (cI, 64, .inl r_comes)), (h_leaves, .inl (cI, 64, .inl r_leaves)), (h_pile, .inl (cZ, 300, .inl r_pile)), (h, .inr (10, [.ref h_all, .ref h_has, .int f_size, .int f_next, .int f_where, .int f_token, .int f_number, .int f_sign, .int f_word, .int f_wrong, .int f_open, .int f_lines, .int f_acts, .ref h_line, .ref h_act, .ref h_pile, .ref h_comes, .ref h_leaves, .ref h_tried, .ref h_met])), (h_all, .inl (cI, 53700, .inl r_all))] := hD
        refine lv_if_ne (tgt := 33) hx hb dX11_ahead_27 (by decide) (fun c_28 => ?_) (fun c_28 => ?_)
        · have hw := hw.1 c_28
          exact tX11_ahead_33 hC hK hA  x1 x2 x3 r_all r_comes r_leaves r_pile _ _ ls hw (hP.sub [3, 4, 0, 1, 2] rfl) (hD.sub [3, 4, 0, 1, 2] (by decide) rfl) hS (lv_sub hl [0, 1, 2, 3] rfl)
        · have hw := hw.2 c_28
          refine lv_bipush (v := (-2 : Int32)) hx hb dX11_ahead_30 (by decide) ?_
          have hP9 := hP.sub (ws' := (vX11_ahead cI cZ h h_all h_has h_line h_act h_pile h_comes h_leaves h_tried h_met f_size f_next f_where f_token f_number f_sign f_word f_wrong f_open f_lines f_acts r_all r_comes r_leaves r_pile)) [3, 4, 0, 1, 2] rfl
          have hD9 := hD.sub (ws' := (vX11_ahead cI cZ h h_all h_has h_line h_act h_pile h_comes h_leaves h_tried h_met f_size f_next f_where f_token f_number f_sign f_word f_wrong f_open f_lines f_acts r_all r_comes r_leaves r_pile)) [3, 4, 0, 1, 2] (by decide) rfl
          exact W.iret (v := (-2 : Int32)) hx hb hr (fun t ht hW => ⟨⟨(-2 : Int32), (r_all, r_comes, r_leaves, r_pile), rfl, hw, by rw [ht]; exact hP9, va_K.moved hW.alike hK, hD9⟩, hS.F ht⟩) hS.2.2 dX11_ahead_32
set_option maxHeartbeats 4000000 in
set_option maxRecDepth 100000 in
theorem kX11_ahead (l : Launch) (dC : Nat → ClassId) (dI : Nat → Nat → Nat) (cI cZ cO cW : ClassId) (h h_all h_has h_line h_act h_pile h_comes h_leaves h_tried h_met : Nat)  (sz : Nat) (f_size : Int32) (f_next : Int32) (f_where : Int32) (f_token : Int32) (f_number : Int32) (f_sign : Int32) (f_word : Int32) (f_wrong : Int32) (f_open : Int32) (f_lines : Int32) (f_acts : Int32) (r_all : Nat → Int32) (r_comes : Nat → Int32) (r_leaves : Nat → Int32) (r_pile : Nat → Int32) (x1 : Int32) (x2 : Int32) (x3 : Int32) (Q : Int32 → (Nat → Int32) → (Nat → Int32) → (Nat → Int32) → (Nat → Int32) → Prop) (hw : wX11_ahead Q x1 x2 x3 r_all r_comes r_leaves r_pile) : Met l yX11_ahead zsX11_ahead rmX11_ahead (va_Pc [.ref h, .int x1, .int x2, .int x3] (fun U => U.heap.size = sz ∧ va_P (dC, dI) vwCl (vX11_ahead cI cZ h h_all h_has h_line h_act h_pile h_comes h_leaves h_tried h_met f_size f_next f_where f_token f_number f_sign f_word f_wrong f_open f_lines f_acts r_all r_comes r_leaves r_pile) U.heap ∧ va_K (dC, dI) vwCl (tysA cI cZ cO cW) U ∧ va_D (fun _ => True) (vX11_ahead cI cZ h h_all h_has h_line h_act h_pile h_comes h_leaves h_tried h_met f_size f_next f_where f_token f_number f_sign f_word f_wrong f_open f_lines f_acts r_all r_comes r_leaves r_pile))) (qX11_ahead dC dI cI cZ cO cW h h_all h_has h_line h_act h_pile h_comes h_leaves h_tried h_met f_size f_next f_where f_token f_number f_sign f_word f_wrong f_open f_lines f_acts Q (va_A (vX11_ahead cI cZ h h_all h_has h_line h_act h_pile h_comes h_leaves h_tried h_met f_size f_next f_where f_token f_number f_sign f_word f_wrong f_open f_lines f_acts r_all r_comes r_leaves r_pile) sz)) 0 0 (va_A (vX11_ahead cI cZ h h_all h_has h_line h_act h_pile h_comes h_leaves h_tried h_met f_size f_next f_where f_token f_number f_sign f_word f_wrong f_open f_lines f_acts r_all r_comes r_leaves r_pile) sz) := by
  refine Met.ofW (cc := cX11_ahead) (maxL := 5) (ret := (some .int)) (by decide) rfl ?_
  intro p e s m args below meth c s₁ B hml hv
  obtain ⟨rfl, hsz, hP, hK, hD0⟩ := hv
  subst hsz
  have hC : Cx p s m ([.ref h, .int x1, .int x2, .int x3] : List Value).toArray meth c cX11_ahead (some .int) 5 GW RX11 := ⟨B.exec, B.bytes, B.returns, hml, findClass_of_methodNamed B.named, fun w h => atoms_spec (ws := zsX11_ahead) B.pre w (List.mem_cons_of_mem _ h), B.notSynchronized⟩
  have hD := hD0.self (sz := s.heap.size)
  generalize hAe : va_A (vX11_ahead cI cZ h h_all h_has h_line h_act h_pile h_comes h_leaves h_tried h_met f_size f_next f_where f_token f_number f_sign f_word f_wrong f_open f_lines f_acts r_all r_comes r_leaves r_pile) s.heap.size = A at hD ⊢
  have hA : ∀ q : Nat, s.heap.size ≤ q → A q := fun q h => by rw [← hAe]; exact Or.inr h
  have hl := lv_entry ([.ref h, .int x1, .int x2, .int x3]) (n := 5) (Nat.le_of_ble_eq_true rfl)
  rw [lg_entry_eq]
  generalize (lg_sl ([.ref h, .int x1, .int x2, .int x3]) ++ List.replicate (5 - (lg_sl ([.ref h, .int x1, .int x2, .int x3])).length) Slot.unset).toArray = ls at hl ⊢
  exact tX11_ahead_e hC hK hA x1 x2 x3 r_all r_comes r_leaves r_pile _ _ ls hw hP hD va_S.rf hl

/-! X11_cell -/
def wX11_cell (Q : Int32 → Prop) (x1 : Int32) (x2 : Int32) (x3 : Int32) (r_all : Nat → Int32) : Prop :=
  (wX11_isCell (fun r_1 => ((¬ r_1 = 0 → ((x3 = (0 : Int32) → (wX11_of (fun r_5 => (Q r_5)) x1 x2 x3 r_all)) ∧ (x3 = (1 : Int32) → (wX11_of (fun r_6 => (Q r_6)) x1 x2 x3 r_all)) ∧ (x3 = (2 : Int32) → (wX11_of (fun r_7 => (Q r_7)) x1 x2 x3 r_all)) ∧ (x3 = (3 : Int32) → (wX11_of (fun r_8 => (Q r_8)) x1 x2 x3 r_all)) ∧ (x3 = (4 : Int32) → (wX11_of (fun r_9 => (Q r_9)) x1 x2 x3 r_all)) ∧ (x3 = (5 : Int32) → (wX11_burden (fun r_10 => (Q r_10)) x1 x2 r_all)) ∧ (x3 = (6 : Int32) → (wX11_shipAt (fun r_11 => (Q r_11)) x1 x2 r_all)) ∧ ((x3.toInt < (0 : Int) ∨ (6 : Int) < x3.toInt) → (Q (-1 : Int32))))) ∧ (r_1 = 0 → (Q (-1 : Int32))))) x1 x2 r_all)
abbrev vX11_cell (cI cZ : ClassId) (h h_all h_has h_line h_act h_pile h_comes h_leaves h_tried h_met : Nat) (f_size : Int32) (f_next : Int32) (f_where : Int32) (f_token : Int32) (f_number : Int32) (f_sign : Int32) (f_word : Int32) (f_wrong : Int32) (f_open : Int32) (f_lines : Int32) (f_acts : Int32) (r_all : Nat → Int32) : va_W := [(h, .inr (10, [.ref h_all, .ref h_has, .int f_size, .int f_next, .int f_where, .int f_token, .int f_number, .int f_sign, .int f_word, .int f_wrong, .int f_open, .int f_lines, .int f_acts, .ref h_line, .ref h_act, .ref h_pile, .ref h_comes, .ref h_leaves, .ref h_tried, .ref h_met])), (h_all, .inl (cI, 53700, .inl r_all))]
abbrev rmX11_cell : Room := { frames := 2, cells := 0, slots := 0, locals := 45 }
abbrev qX11_cell (dC : Nat → ClassId) (dI : Nat → Nat → Nat) (cI cZ cO cW : ClassId) (h h_all h_has h_line h_act h_pile h_comes h_leaves h_tried h_met : Nat) (f_size : Int32) (f_next : Int32) (f_where : Int32) (f_token : Int32) (f_number : Int32) (f_sign : Int32) (f_word : Int32) (f_wrong : Int32) (f_open : Int32) (f_lines : Int32) (f_acts : Int32) (r_all : Nat → Int32) (Q : Int32 → Prop) (A : Nat → Prop) : Array Value → State → Outcome → State → Prop := va_Qi (fun (r : Int32) (u : Unit) => Q r) (fun (u : Unit) (t : State) => va_P (dC, dI) vwCl (vX11_cell cI cZ h h_all h_has h_line h_act h_pile h_comes h_leaves h_tried h_met f_size f_next f_where f_token f_number f_sign f_word f_wrong f_open f_lines f_acts r_all) t.heap ∧ va_K (dC, dI) vwCl (tysA cI cZ cO cW) t ∧ va_D A (vX11_cell cI cZ h h_all h_has h_line h_act h_pile h_comes h_leaves h_tried h_met f_size f_next f_where f_token f_number f_sign f_word f_wrong f_open f_lines f_acts r_all)) A
def zsX11_cell : List Cond := Cond.code yX11_cell cX11_cell 4 (some .int) :: GW
set_option maxHeartbeats 4000000 in
set_option maxRecDepth 100000 in
theorem tX11_cell_e {p : Program} {l : Launch} {e : Env} {s : State} {m : MethodId} {args : Array Value} {below : List Frame} {meth : Method} {c : Code} {dC : Nat → ClassId} {dI : Nat → Nat → Nat} {cI cZ cO cW : ClassId} {A : Nat → Prop} {h h_all h_has h_line h_act h_pile h_comes h_leaves h_tried h_met : Nat} {f_size f_next f_where f_token f_number f_sign f_word f_wrong f_open f_lines f_acts : Int32} {Q : Int32 → Prop} (hC : Cx p s m args meth c cX11_cell (some .int) 4 GW RX11) (hK : va_K (dC, dI) vwCl (tysA cI cZ cO cW) s) (hA : ∀ q : Nat, s.heap.size ≤ q → A q) :
    ∀ (x1 : Int32) (x2 : Int32) (x3 : Int32) (r_all : Nat → Int32) (H : Heap) (locs : List Loc) (ls : Array Slot), wX11_cell Q x1 x2 x3 r_all → va_P (dC, dI) vwCl (vX11_cell cI cZ h h_all h_has h_line h_act h_pile h_comes h_leaves h_tried h_met f_size f_next f_where f_token f_number f_sign f_word f_wrong f_open f_lines f_acts r_all) H → va_D A (vX11_cell cI cZ h h_all h_has h_line h_act h_pile h_comes h_leaves h_tried h_met f_size f_next f_where f_token f_number f_sign f_word f_wrong f_open f_lines f_acts r_all) → va_S A s.heap H locs → lv_has ls 4 [(0, .ref h), (1, .int x1), (2, .int x2), (3, .int x3)] → W p l e rmX11_cell s m args below meth c H locs 0 0 (MQ below (qX11_cell dC dI cI cZ cO cW h h_all h_has h_line h_act h_pile h_comes h_leaves h_tried h_met f_size f_next f_where f_token f_number f_sign f_word f_wrong f_open f_lines f_acts r_all Q A) args s 0 0 A) (F0 m 0 ls []) := by
  obtain ⟨hx, hb, hr, hml, hown, hts, hlocks⟩ := id hC
  intro x1 x2 x3 r_all H locs ls hw hP hD hS hl
  refine lv_aload_n hx hb dX11_cell_0 rfl (lv_at hl 0 rfl) ?_
  refine lv_iload_n hx hb dX11_cell_1 rfl (lv_at hl 1 rfl) ?_
  refine lv_iload_n hx hb dX11_cell_2 rfl (lv_at hl 2 rfl) ?_
  have hPc := hP.sub (ws' := [(h, .inr (10, [.ref h_all, .ref h_has, .int f_size, .int f_next, .int f_where, .int f_token, .int f_number, .int f_sign, .int f_word, .int f_wrong, .int f_open, .int f_lines, .int f_acts, .ref h_line, .ref h_act, .ref h_pile, .ref h_comes, .ref h_leaves, .ref h_tried, .ref h_met])), (h_all, .inl (cI, 53700, .inl r_all))]) [0, 1] rfl
  have hDc := hD.sub (ws' := [(h, .inr (10, [.ref h_all, .ref h_has, .int f_size, .int f_next, .int f_where, .int f_token, .int f_number, .int f_sign, .int f_word, .int f_wrong, .int f_open, .int f_lines, .int f_acts, .ref h_line, .ref h_act, .ref h_pile, .ref h_comes, .ref h_leaves, .ref h_tried, .ref h_met])), (h_all, .inl (cI, 53700, .inl r_all))]) [0, 1] (by decide) rfl
  have hFc := va_free (wc := [(h, .inr (10, [.ref h_all, .ref h_has, .int f_size, .int f_next, .int f_where, .int f_token, .int f_number, .int f_sign, .int f_word, .int f_wrong, .int f_open, .int f_lines, .int f_acts, .ref h_line, .ref h_act, .ref h_pile, .ref h_comes, .ref h_leaves, .ref h_tried, .ref h_met])), (h_all, .inl (cI, 53700, .inl r_all))]) hD hS hA [0, 1] rfl
  refine va_calli (va_runV (As := [.int x1, .int x2]) (rest := []) ⟨hx, hb, hml, hown, hts⟩ (kX11_isCell l dC dI cI cZ cO cW h h_all h_has h_line h_act h_pile h_comes h_leaves h_tried h_met H.size f_size f_next f_where f_token f_number f_sign f_word f_wrong f_open f_lines f_acts r_all x1 x2 _ hw) (cwV 2 hts (gV gw_631 gw_632 gw_633 gw_622 (gM gw_627)) rfl rfl rfl (by decide +kernel) ⟨Nat.le_of_ble_eq_true rfl, Nat.le_of_ble_eq_true rfl⟩) (pv_of hPc hK hDc (va_recv hK hPc (ci := 10) (q0 := 0) rfl rfl)) rfl rfl hl.1 rfl (lv_room (Nat.le_of_ble_eq_true rfl)) dX11_cell_3 ⟨Nat.zero_le _, Nat.zero_le _⟩) hS (fun q _ h => hFc q h) hFc (fun r_1 u t H locs ht hvm hw hB hz1 hk1 hS => ?_)
  obtain ⟨hP, hD⟩ := af_join (wr := []) (w1 := [(h, .inr (10, [.ref h_all, .ref h_has, .int f_size, .int f_next, .int f_where, .int f_token, .int f_number, .int f_sign, .int f_word, .int f_wrong, .int f_open, .int f_lines, .int f_acts, .ref h_line, .ref h_act, .ref h_pile, .ref h_comes, .ref h_leaves, .ref h_tried, .ref h_met])), (h_all, .inl (cI, 53700, .inl r_all))]) hB ht hP hD [0, 1] [] rfl rfl (by decide) (by decide) hk1 hFc
  have hP : va_P (dC, dI) vwCl [(h, .inr (10, [.ref h_all, .ref h_has, .int f_size, .int f_next, .int f_where, .int f_token, .int f_number, .int f_sign, .int f_word, .int f_wrong, .int f_open, .int f_lines, .int f_acts, .ref h_line, .ref h_act, .ref h_pile, .ref h_comes, .ref h_leaves, .ref h_tried, .ref h_met])), (h_all, .inl (cI, 53700, .inl r_all))] _ := hP
  have hD : va_D A [(h, .inr (10, [.ref h_all, .ref h_has, .int f_size, .int f_next, .int f_where, .int f_token, .int f_number, .int f_sign, .int f_word, .int f_wrong, .int f_open, .int f_lines, .int f_acts, .ref h_line, .ref h_act, .ref h_pile, .ref h_comes, .ref h_leaves, .ref h_tried, .ref h_met])), (h_all, .inl (cI, 53700, .inl r_all))] := hD
  refine lv_if_ne (tgt := 11) hx hb dX11_cell_6 (by decide) (fun c_2 => ?_) (fun c_2 => ?_)
  · have hw := hw.1 c_2
    refine lv_iload_n hx hb dX11_cell_11 rfl (lv_at hl 3 rfl) ?_
    refine lv_topi (fun y_3 ey_3 => ?_)
    rcases (show (y_3.toInt < (0 : Int) ∨ (6 : Int) < y_3.toInt) ∨ y_3.toInt = 0 ∨ y_3.toInt = 1 ∨ y_3.toInt = 2 ∨ y_3.toInt = 3 ∨ y_3.toInt = 4 ∨ y_3.toInt = 5 ∨ y_3.toInt = 6 by omega) with c_4 | c_4 | c_4 | c_4 | c_4 | c_4 | c_4 | c_4
    · have hw := hw.2.2.2.2.2.2.2 (by rw [← ey_3]; exact c_4)
      refine lv_tableOut (tgt := 78) hx hb dX11_cell_12 c_4 (by decide) ?_
      refine lv_iconst (v := (-1 : Int32)) hx hb dX11_cell_78 (by decide) ?_
      have hP9 := hP.sub (ws' := (vX11_cell cI cZ h h_all h_has h_line h_act h_pile h_comes h_leaves h_tried h_met f_size f_next f_where f_token f_number f_sign f_word f_wrong f_open f_lines f_acts r_all)) [0, 1] rfl
      have hD9 := hD.sub (ws' := (vX11_cell cI cZ h h_all h_has h_line h_act h_pile h_comes h_leaves h_tried h_met f_size f_next f_where f_token f_number f_sign f_word f_wrong f_open f_lines f_acts r_all)) [0, 1] (by decide) rfl
      exact W.iret (v := (-1 : Int32)) hx hb hr (fun t ht hW => ⟨⟨(-1 : Int32), (), rfl, hw, by rw [ht]; exact hP9, va_K.moved hW.alike hK, hD9⟩, hS.F ht⟩) hS.2.2 dX11_cell_79
    · have hw := hw.1 (ey_3.symm.trans (Int32.toInt_inj.mp (c_4.trans (by decide))))
      refine lv_tableIn (tgt := 56) hx hb dX11_cell_12 (by omega) (by omega) (by rw [c_4]; rfl) (by decide) ?_
      refine lv_aload_n hx hb dX11_cell_56 rfl (lv_at hl 0 rfl) ?_
      refine lv_iload_n hx hb dX11_cell_57 rfl (lv_at hl 1 rfl) ?_
      refine lv_iload_n hx hb dX11_cell_58 rfl (lv_at hl 2 rfl) ?_
      refine lv_iload_n hx hb dX11_cell_59 rfl (lv_at hl 3 rfl) ?_
      have hPc := hP.sub (ws' := [(h, .inr (10, [.ref h_all, .ref h_has, .int f_size, .int f_next, .int f_where, .int f_token, .int f_number, .int f_sign, .int f_word, .int f_wrong, .int f_open, .int f_lines, .int f_acts, .ref h_line, .ref h_act, .ref h_pile, .ref h_comes, .ref h_leaves, .ref h_tried, .ref h_met])), (h_all, .inl (cI, 53700, .inl r_all))]) [0, 1] rfl
      have hDc := hD.sub (ws' := [(h, .inr (10, [.ref h_all, .ref h_has, .int f_size, .int f_next, .int f_where, .int f_token, .int f_number, .int f_sign, .int f_word, .int f_wrong, .int f_open, .int f_lines, .int f_acts, .ref h_line, .ref h_act, .ref h_pile, .ref h_comes, .ref h_leaves, .ref h_tried, .ref h_met])), (h_all, .inl (cI, 53700, .inl r_all))]) [0, 1] (by decide) rfl
      have hFc := va_free (wc := [(h, .inr (10, [.ref h_all, .ref h_has, .int f_size, .int f_next, .int f_where, .int f_token, .int f_number, .int f_sign, .int f_word, .int f_wrong, .int f_open, .int f_lines, .int f_acts, .ref h_line, .ref h_act, .ref h_pile, .ref h_comes, .ref h_leaves, .ref h_tried, .ref h_met])), (h_all, .inl (cI, 53700, .inl r_all))]) hD hS hA [0, 1] rfl
      refine va_calli (va_runV (As := [.int x1, .int x2, .int x3]) (rest := []) ⟨hx, hb, hml, hown, hts⟩ (kX11_of l dC dI cI cZ cO cW h h_all h_has h_line h_act h_pile h_comes h_leaves h_tried h_met H.size f_size f_next f_where f_token f_number f_sign f_word f_wrong f_open f_lines f_acts r_all x1 x2 x3 _ hw) (cwV 3 hts (gV gw_634 gw_635 gw_636 gw_622 (gM gw_628)) rfl rfl rfl (by decide +kernel) ⟨Nat.le_of_ble_eq_true rfl, Nat.le_of_ble_eq_true rfl⟩) (pv_of hPc hK hDc (va_recv hK hPc (ci := 10) (q0 := 0) rfl rfl)) rfl rfl hl.1 rfl (lv_room (Nat.le_of_ble_eq_true rfl)) dX11_cell_60 ⟨Nat.zero_le _, Nat.zero_le _⟩) hS (fun q _ h => hFc q h) hFc (fun r_5 u t H locs ht hvm hw hB hz1 hk1 hS => ?_)
      obtain ⟨hP, hD⟩ := af_join (wr := []) (w1 := [(h, .inr (10, [.ref h_all, .ref h_has, .int f_size, .int f_next, .int f_where, .int f_token, .int f_number, .int f_sign, .int f_word, .int f_wrong, .int f_open, .int f_lines, .int f_acts, .ref h_line, .ref h_act, .ref h_pile, .ref h_comes, .ref h_leaves, .ref h_tried, .ref h_met])), (h_all, .inl (cI, 53700, .inl r_all))]) hB ht hP hD [0, 1] [] rfl rfl (by decide) (by decide) hk1 hFc
      have hP : va_P (dC, dI) vwCl [(h, .inr (10, [.ref h_all, .ref h_has, .int f_size, .int f_next, .int f_where, .int f_token, .int f_number, .int f_sign, .int f_word, .int f_wrong, .int f_open, .int f_lines, .int f_acts, .ref h_line, .ref h_act, .ref h_pile, .ref h_comes, .ref h_leaves, .ref h_tried, .ref h_met])), (h_all, .inl (cI, 53700, .inl r_all))] _ := hP
      have hD : va_D A [(h, .inr (10, [.ref h_all, .ref h_has, .int f_size, .int f_next, .int f_where, .int f_token, .int f_number, .int f_sign, .int f_word, .int f_wrong, .int f_open, .int f_lines, .int f_acts, .ref h_line, .ref h_act, .ref h_pile, .ref h_comes, .ref h_leaves, .ref h_tried, .ref h_met])), (h_all, .inl (cI, 53700, .inl r_all))] := hD
      have hP9 := hP.sub (ws' := (vX11_cell cI cZ h h_all h_has h_line h_act h_pile h_comes h_leaves h_tried h_met f_size f_next f_where f_token f_number f_sign f_word f_wrong f_open f_lines f_acts r_all)) [0, 1] rfl
      have hD9 := hD.sub (ws' := (vX11_cell cI cZ h h_all h_has h_line h_act h_pile h_comes h_leaves h_tried h_met f_size f_next f_where f_token f_number f_sign f_word f_wrong f_open f_lines f_acts r_all)) [0, 1] (by decide) rfl
      exact W.iret (v := r_5) hx hb hr (fun t ht hW => ⟨⟨r_5, (), rfl, hw, by rw [ht]; exact hP9, va_K.moved hW.alike hK, hD9⟩, hS.F ht⟩) hS.2.2 dX11_cell_63
    · have hw := hw.2.1 (ey_3.symm.trans (Int32.toInt_inj.mp (c_4.trans (by decide))))
      refine lv_tableIn (tgt := 56) hx hb dX11_cell_12 (by omega) (by omega) (by rw [c_4]; rfl) (by decide) ?_
      refine lv_aload_n hx hb dX11_cell_56 rfl (lv_at hl 0 rfl) ?_
      refine lv_iload_n hx hb dX11_cell_57 rfl (lv_at hl 1 rfl) ?_
      refine lv_iload_n hx hb dX11_cell_58 rfl (lv_at hl 2 rfl) ?_
      refine lv_iload_n hx hb dX11_cell_59 rfl (lv_at hl 3 rfl) ?_
      have hPc := hP.sub (ws' := [(h, .inr (10, [.ref h_all, .ref h_has, .int f_size, .int f_next, .int f_where, .int f_token, .int f_number, .int f_sign, .int f_word, .int f_wrong, .int f_open, .int f_lines, .int f_acts, .ref h_line, .ref h_act, .ref h_pile, .ref h_comes, .ref h_leaves, .ref h_tried, .ref h_met])), (h_all, .inl (cI, 53700, .inl r_all))]) [0, 1] rfl
      have hDc := hD.sub (ws' := [(h, .inr (10, [.ref h_all, .ref h_has, .int f_size, .int f_next, .int f_where, .int f_token, .int f_number, .int f_sign, .int f_word, .int f_wrong, .int f_open, .int f_lines, .int f_acts, .ref h_line, .ref h_act, .ref h_pile, .ref h_comes, .ref h_leaves, .ref h_tried, .ref h_met])), (h_all, .inl (cI, 53700, .inl r_all))]) [0, 1] (by decide) rfl
      have hFc := va_free (wc := [(h, .inr (10, [.ref h_all, .ref h_has, .int f_size, .int f_next, .int f_where, .int f_token, .int f_number, .int f_sign, .int f_word, .int f_wrong, .int f_open, .int f_lines, .int f_acts, .ref h_line, .ref h_act, .ref h_pile, .ref h_comes, .ref h_leaves, .ref h_tried, .ref h_met])), (h_all, .inl (cI, 53700, .inl r_all))]) hD hS hA [0, 1] rfl
      refine va_calli (va_runV (As := [.int x1, .int x2, .int x3]) (rest := []) ⟨hx, hb, hml, hown, hts⟩ (kX11_of l dC dI cI cZ cO cW h h_all h_has h_line h_act h_pile h_comes h_leaves h_tried h_met H.size f_size f_next f_where f_token f_number f_sign f_word f_wrong f_open f_lines f_acts r_all x1 x2 x3 _ hw) (cwV 3 hts (gV gw_634 gw_635 gw_636 gw_622 (gM gw_628)) rfl rfl rfl (by decide +kernel) ⟨Nat.le_of_ble_eq_true rfl, Nat.le_of_ble_eq_true rfl⟩) (pv_of hPc hK hDc (va_recv hK hPc (ci := 10) (q0 := 0) rfl rfl)) rfl rfl hl.1 rfl (lv_room (Nat.le_of_ble_eq_true rfl)) dX11_cell_60 ⟨Nat.zero_le _, Nat.zero_le _⟩) hS (fun q _ h => hFc q h) hFc (fun r_6 u t H locs ht hvm hw hB hz1 hk1 hS => ?_)
      obtain ⟨hP, hD⟩ := af_join (wr := []) (w1 := [(h, .inr (10, [.ref h_all, .ref h_has, .int f_size, .int f_next, .int f_where, .int f_token, .int f_number, .int f_sign, .int f_word, .int f_wrong, .int f_open, .int f_lines, .int f_acts, .ref h_line, .ref h_act, .ref h_pile, .ref h_comes, .ref h_leaves, .ref h_tried, .ref h_met])), (h_all, .inl (cI, 53700, .inl r_all))]) hB ht hP hD [0, 1] [] rfl rfl (by decide) (by decide) hk1 hFc
      have hP : va_P (dC, dI) vwCl [(h, .inr (10, [.ref h_all, .ref h_has, .int f_size, .int f_next, .int f_where, .int f_token, .int f_number, .int f_sign, .int f_word, .int f_wrong, .int f_open, .int f_lines, .int f_acts, .ref h_line, .ref h_act, .ref h_pile, .ref h_comes, .ref h_leaves, .ref h_tried, .ref h_met])), (h_all, .inl (cI, 53700, .inl r_all))] _ := hP
      have hD : va_D A [(h, .inr (10, [.ref h_all, .ref h_has, .int f_size, .int f_next, .int f_where, .int f_token, .int f_number, .int f_sign, .int f_word, .int f_wrong, .int f_open, .int f_lines, .int f_acts, .ref h_line, .ref h_act, .ref h_pile, .ref h_comes, .ref h_leaves, .ref h_tried, .ref h_met])), (h_all, .inl (cI, 53700, .inl r_all))] := hD
      have hP9 := hP.sub (ws' := (vX11_cell cI cZ h h_all h_has h_line h_act h_pile h_comes h_leaves h_tried h_met f_size f_next f_where f_token f_number f_sign f_word f_wrong f_open f_lines f_acts r_all)) [0, 1] rfl
      have hD9 := hD.sub (ws' := (vX11_cell cI cZ h h_all h_has h_line h_act h_pile h_comes h_leaves h_tried h_met f_size f_next f_where f_token f_number f_sign f_word f_wrong f_open f_lines f_acts r_all)) [0, 1] (by decide) rfl
      exact W.iret (v := r_6) hx hb hr (fun t ht hW => ⟨⟨r_6, (), rfl, hw, by rw [ht]; exact hP9, va_K.moved hW.alike hK, hD9⟩, hS.F ht⟩) hS.2.2 dX11_cell_63
    · have hw := hw.2.2.1 (ey_3.symm.trans (Int32.toInt_inj.mp (c_4.trans (by decide))))
      refine lv_tableIn (tgt := 56) hx hb dX11_cell_12 (by omega) (by omega) (by rw [c_4]; rfl) (by decide) ?_
      refine lv_aload_n hx hb dX11_cell_56 rfl (lv_at hl 0 rfl) ?_
      refine lv_iload_n hx hb dX11_cell_57 rfl (lv_at hl 1 rfl) ?_
      refine lv_iload_n hx hb dX11_cell_58 rfl (lv_at hl 2 rfl) ?_
      refine lv_iload_n hx hb dX11_cell_59 rfl (lv_at hl 3 rfl) ?_
      have hPc := hP.sub (ws' := [(h, .inr (10, [.ref h_all, .ref h_has, .int f_size, .int f_next, .int f_where, .int f_token, .int f_number, .int f_sign, .int f_word, .int f_wrong, .int f_open, .int f_lines, .int f_acts, .ref h_line, .ref h_act, .ref h_pile, .ref h_comes, .ref h_leaves, .ref h_tried, .ref h_met])), (h_all, .inl (cI, 53700, .inl r_all))]) [0, 1] rfl
      have hDc := hD.sub (ws' := [(h, .inr (10, [.ref h_all, .ref h_has, .int f_size, .int f_next, .int f_where, .int f_token, .int f_number, .int f_sign, .int f_word, .int f_wrong, .int f_open, .int f_lines, .int f_acts, .ref h_line, .ref h_act, .ref h_pile, .ref h_comes, .ref h_leaves, .ref h_tried, .ref h_met])), (h_all, .inl (cI, 53700, .inl r_all))]) [0, 1] (by decide) rfl
      have hFc := va_free (wc := [(h, .inr (10, [.ref h_all, .ref h_has, .int f_size, .int f_next, .int f_where, .int f_token, .int f_number, .int f_sign, .int f_word, .int f_wrong, .int f_open, .int f_lines, .int f_acts, .ref h_line, .ref h_act, .ref h_pile, .ref h_comes, .ref h_leaves, .ref h_tried, .ref h_met])), (h_all, .inl (cI, 53700, .inl r_all))]) hD hS hA [0, 1] rfl
      refine va_calli (va_runV (As := [.int x1, .int x2, .int x3]) (rest := []) ⟨hx, hb, hml, hown, hts⟩ (kX11_of l dC dI cI cZ cO cW h h_all h_has h_line h_act h_pile h_comes h_leaves h_tried h_met H.size f_size f_next f_where f_token f_number f_sign f_word f_wrong f_open f_lines f_acts r_all x1 x2 x3 _ hw) (cwV 3 hts (gV gw_634 gw_635 gw_636 gw_622 (gM gw_628)) rfl rfl rfl (by decide +kernel) ⟨Nat.le_of_ble_eq_true rfl, Nat.le_of_ble_eq_true rfl⟩) (pv_of hPc hK hDc (va_recv hK hPc (ci := 10) (q0 := 0) rfl rfl)) rfl rfl hl.1 rfl (lv_room (Nat.le_of_ble_eq_true rfl)) dX11_cell_60 ⟨Nat.zero_le _, Nat.zero_le _⟩) hS (fun q _ h => hFc q h) hFc (fun r_7 u t H locs ht hvm hw hB hz1 hk1 hS => ?_)
      obtain ⟨hP, hD⟩ := af_join (wr := []) (w1 := [(h, .inr (10, [.ref h_all, .ref h_has, .int f_size, .int f_next, .int f_where, .int f_token, .int f_number, .int f_sign, .int f_word, .int f_wrong, .int f_open, .int f_lines, .int f_acts, .ref h_line, .ref h_act, .ref h_pile, .ref h_comes, .ref h_leaves, .ref h_tried, .ref h_met])), (h_all, .inl (cI, 53700, .inl r_all))]) hB ht hP hD [0, 1] [] rfl rfl (by decide) (by decide) hk1 hFc
      have hP : va_P (dC, dI) vwCl [(h, .inr (10, [.ref h_all, .ref h_has, .int f_size, .int f_next, .int f_where, .int f_token, .int f_number, .int f_sign, .int f_word, .int f_wrong, .int f_open, .int f_lines, .int f_acts, .ref h_line, .ref h_act, .ref h_pile, .ref h_comes, .ref h_leaves, .ref h_tried, .ref h_met])), (h_all, .inl (cI, 53700, .inl r_all))] _ := hP
      have hD : va_D A [(h, .inr (10, [.ref h_all, .ref h_has, .int f_size, .int f_next, .int f_where, .int f_token, .int f_number, .int f_sign, .int f_word, .int f_wrong, .int f_open, .int f_lines, .int f_acts, .ref h_line, .ref h_act, .ref h_pile, .ref h_comes, .ref h_leaves, .ref h_tried, .ref h_met])), (h_all, .inl (cI, 53700, .inl r_all))] := hD
      have hP9 := hP.sub (ws' := (vX11_cell cI cZ h h_all h_has h_line h_act h_pile h_comes h_leaves h_tried h_met f_size f_next f_where f_token f_number f_sign f_word f_wrong f_open f_lines f_acts r_all)) [0, 1] rfl
      have hD9 := hD.sub (ws' := (vX11_cell cI cZ h h_all h_has h_line h_act h_pile h_comes h_leaves h_tried h_met f_size f_next f_where f_token f_number f_sign f_word f_wrong f_open f_lines f_acts r_all)) [0, 1] (by decide) rfl
      exact W.iret (v := r_7) hx hb hr (fun t ht hW => ⟨⟨r_7, (), rfl, hw, by rw [ht]; exact hP9, va_K.moved hW.alike hK, hD9⟩, hS.F ht⟩) hS.2.2 dX11_cell_63
    · have hw := hw.2.2.2.1 (ey_3.symm.trans (Int32.toInt_inj.mp (c_4.trans (by decide))))
      refine lv_tableIn (tgt := 56) hx hb dX11_cell_12 (by omega) (by omega) (by rw [c_4]; rfl) (by decide) ?_
      refine lv_aload_n hx hb dX11_cell_56 rfl (lv_at hl 0 rfl) ?_
      refine lv_iload_n hx hb dX11_cell_57 rfl (lv_at hl 1 rfl) ?_
      refine lv_iload_n hx hb dX11_cell_58 rfl (lv_at hl 2 rfl) ?_
      refine lv_iload_n hx hb dX11_cell_59 rfl (lv_at hl 3 rfl) ?_
      have hPc := hP.sub (ws' := [(h, .inr (10, [.ref h_all, .ref h_has, .int f_size, .int f_next, .int f_where, .int f_token, .int f_number, .int f_sign, .int f_word, .int f_wrong, .int f_open, .int f_lines, .int f_acts, .ref h_line, .ref h_act, .ref h_pile, .ref h_comes, .ref h_leaves, .ref h_tried, .ref h_met])), (h_all, .inl (cI, 53700, .inl r_all))]) [0, 1] rfl
      have hDc := hD.sub (ws' := [(h, .inr (10, [.ref h_all, .ref h_has, .int f_size, .int f_next, .int f_where, .int f_token, .int f_number, .int f_sign, .int f_word, .int f_wrong, .int f_open, .int f_lines, .int f_acts, .ref h_line, .ref h_act, .ref h_pile, .ref h_comes, .ref h_leaves, .ref h_tried, .ref h_met])), (h_all, .inl (cI, 53700, .inl r_all))]) [0, 1] (by decide) rfl
      have hFc := va_free (wc := [(h, .inr (10, [.ref h_all, .ref h_has, .int f_size, .int f_next, .int f_where, .int f_token, .int f_number, .int f_sign, .int f_word, .int f_wrong, .int f_open, .int f_lines, .int f_acts, .ref h_line, .ref h_act, .ref h_pile, .ref h_comes, .ref h_leaves, .ref h_tried, .ref h_met])), (h_all, .inl (cI, 53700, .inl r_all))]) hD hS hA [0, 1] rfl
      refine va_calli (va_runV (As := [.int x1, .int x2, .int x3]) (rest := []) ⟨hx, hb, hml, hown, hts⟩ (kX11_of l dC dI cI cZ cO cW h h_all h_has h_line h_act h_pile h_comes h_leaves h_tried h_met H.size f_size f_next f_where f_token f_number f_sign f_word f_wrong f_open f_lines f_acts r_all x1 x2 x3 _ hw) (cwV 3 hts (gV gw_634 gw_635 gw_636 gw_622 (gM gw_628)) rfl rfl rfl (by decide +kernel) ⟨Nat.le_of_ble_eq_true rfl, Nat.le_of_ble_eq_true rfl⟩) (pv_of hPc hK hDc (va_recv hK hPc (ci := 10) (q0 := 0) rfl rfl)) rfl rfl hl.1 rfl (lv_room (Nat.le_of_ble_eq_true rfl)) dX11_cell_60 ⟨Nat.zero_le _, Nat.zero_le _⟩) hS (fun q _ h => hFc q h) hFc (fun r_8 u t H locs ht hvm hw hB hz1 hk1 hS => ?_)
      obtain ⟨hP, hD⟩ := af_join (wr := []) (w1 := [(h, .inr (10, [.ref h_all, .ref h_has, .int f_size, .int f_next, .int f_where, .int f_token, .int f_number, .int f_sign, .int f_word, .int f_wrong, .int f_open, .int f_lines, .int f_acts, .ref h_line, .ref h_act, .ref h_pile, .ref h_comes, .ref h_leaves, .ref h_tried, .ref h_met])), (h_all, .inl (cI, 53700, .inl r_all))]) hB ht hP hD [0, 1] [] rfl rfl (by decide) (by decide) hk1 hFc
      have hP : va_P (dC, dI) vwCl [(h, .inr (10, [.ref h_all, .ref h_has, .int f_size, .int f_next, .int f_where, .int f_token, .int f_number, .int f_sign, .int f_word, .int f_wrong, .int f_open, .int f_lines, .int f_acts, .ref h_line, .ref h_act, .ref h_pile, .ref h_comes, .ref h_leaves, .ref h_tried, .ref h_met])), (h_all, .inl (cI, 53700, .inl r_all))] _ := hP
      have hD : va_D A [(h, .inr (10, [.ref h_all, .ref h_has, .int f_size, .int f_next, .int f_where, .int f_token, .int f_number, .int f_sign, .int f_word, .int f_wrong, .int f_open, .int f_lines, .int f_acts, .ref h_line, .ref h_act, .ref h_pile, .ref h_comes, .ref h_leaves, .ref h_tried, .ref h_met])), (h_all, .inl (cI, 53700, .inl r_all))] := hD
      have hP9 := hP.sub (ws' := (vX11_cell cI cZ h h_all h_has h_line h_act h_pile h_comes h_leaves h_tried h_met f_size f_next f_where f_token f_number f_sign f_word f_wrong f_open f_lines f_acts r_all)) [0, 1] rfl
      have hD9 := hD.sub (ws' := (vX11_cell cI cZ h h_all h_has h_line h_act h_pile h_comes h_leaves h_tried h_met f_size f_next f_where f_token f_number f_sign f_word f_wrong f_open f_lines f_acts r_all)) [0, 1] (by decide) rfl
      exact W.iret (v := r_8) hx hb hr (fun t ht hW => ⟨⟨r_8, (), rfl, hw, by rw [ht]; exact hP9, va_K.moved hW.alike hK, hD9⟩, hS.F ht⟩) hS.2.2 dX11_cell_63
    · have hw := hw.2.2.2.2.1 (ey_3.symm.trans (Int32.toInt_inj.mp (c_4.trans (by decide))))
      refine lv_tableIn (tgt := 56) hx hb dX11_cell_12 (by omega) (by omega) (by rw [c_4]; rfl) (by decide) ?_
      refine lv_aload_n hx hb dX11_cell_56 rfl (lv_at hl 0 rfl) ?_
      refine lv_iload_n hx hb dX11_cell_57 rfl (lv_at hl 1 rfl) ?_
      refine lv_iload_n hx hb dX11_cell_58 rfl (lv_at hl 2 rfl) ?_
      refine lv_iload_n hx hb dX11_cell_59 rfl (lv_at hl 3 rfl) ?_
      have hPc := hP.sub (ws' := [(h, .inr (10, [.ref h_all, .ref h_has, .int f_size, .int f_next, .int f_where, .int f_token, .int f_number, .int f_sign, .int f_word, .int f_wrong, .int f_open, .int f_lines, .int f_acts, .ref h_line, .ref h_act, .ref h_pile, .ref h_comes, .ref h_leaves, .ref h_tried, .ref h_met])), (h_all, .inl (cI, 53700, .inl r_all))]) [0, 1] rfl
      have hDc := hD.sub (ws' := [(h, .inr (10, [.ref h_all, .ref h_has, .int f_size, .int f_next, .int f_where, .int f_token, .int f_number, .int f_sign, .int f_word, .int f_wrong, .int f_open, .int f_lines, .int f_acts, .ref h_line, .ref h_act, .ref h_pile, .ref h_comes, .ref h_leaves, .ref h_tried, .ref h_met])), (h_all, .inl (cI, 53700, .inl r_all))]) [0, 1] (by decide) rfl
      have hFc := va_free (wc := [(h, .inr (10, [.ref h_all, .ref h_has, .int f_size, .int f_next, .int f_where, .int f_token, .int f_number, .int f_sign, .int f_word, .int f_wrong, .int f_open, .int f_lines, .int f_acts, .ref h_line, .ref h_act, .ref h_pile, .ref h_comes, .ref h_leaves, .ref h_tried, .ref h_met])), (h_all, .inl (cI, 53700, .inl r_all))]) hD hS hA [0, 1] rfl
      refine va_calli (va_runV (As := [.int x1, .int x2, .int x3]) (rest := []) ⟨hx, hb, hml, hown, hts⟩ (kX11_of l dC dI cI cZ cO cW h h_all h_has h_line h_act h_pile h_comes h_leaves h_tried h_met H.size f_size f_next f_where f_token f_number f_sign f_word f_wrong f_open f_lines f_acts r_all x1 x2 x3 _ hw) (cwV 3 hts (gV gw_634 gw_635 gw_636 gw_622 (gM gw_628)) rfl rfl rfl (by decide +kernel) ⟨Nat.le_of_ble_eq_true rfl, Nat.le_of_ble_eq_true rfl⟩) (pv_of hPc hK hDc (va_recv hK hPc (ci := 10) (q0 := 0) rfl rfl)) rfl rfl hl.1 rfl (lv_room (Nat.le_of_ble_eq_true rfl)) dX11_cell_60 ⟨Nat.zero_le _, Nat.zero_le _⟩) hS (fun q _ h => hFc q h) hFc (fun r_9 u t H locs ht hvm hw hB hz1 hk1 hS => ?_)
      obtain ⟨hP, hD⟩ := af_join (wr := []) (w1 := [(h, .inr (10, [.ref h_all, .ref h_has, .int f_size, .int f_next, .int f_where, .int f_token, .int f_number, .int f_sign, .int f_word, .int f_wrong, .int f_open, .int f_lines, .int f_acts, .ref h_line, .ref h_act, .ref h_pile, .ref h_comes, .ref h_leaves, .ref h_tried, .ref h_met])), (h_all, .inl (cI, 53700, .inl r_all))]) hB ht hP hD [0, 1] [] rfl rfl (by decide) (by decide) hk1 hFc
      have hP : va_P (dC, dI) vwCl [(h, .inr (10, [.ref h_all, .ref h_has, .int f_size, .int f_next, .int f_where, .int f_token, .int f_number, .int f_sign, .int f_word, .int f_wrong, .int f_open, .int f_lines, .int f_acts, .ref h_line, .ref h_act, .ref h_pile, .ref h_comes, .ref h_leaves, .ref h_tried, .ref h_met])), (h_all, .inl (cI, 53700, .inl r_all))] _ := hP
      have hD : va_D A [(h, .inr (10, [.ref h_all, .ref h_has, .int f_size, .int f_next, .int f_where, .int f_token, .int f_number, .int f_sign, .int f_word, .int f_wrong, .int f_open, .int f_lines, .int f_acts, .ref h_line, .ref h_act, .ref h_pile, .ref h_comes, .ref h_leaves, .ref h_tried, .ref h_met])), (h_all, .inl (cI, 53700, .inl r_all))] := hD
      have hP9 := hP.sub (ws' := (vX11_cell cI cZ h h_all h_has h_line h_act h_pile h_comes h_leaves h_tried h_met f_size f_next f_where f_token f_number f_sign f_word f_wrong f_open f_lines f_acts r_all)) [0, 1] rfl
      have hD9 := hD.sub (ws' := (vX11_cell cI cZ h h_all h_has h_line h_act h_pile h_comes h_leaves h_tried h_met f_size f_next f_where f_token f_number f_sign f_word f_wrong f_open f_lines f_acts r_all)) [0, 1] (by decide) rfl
      exact W.iret (v := r_9) hx hb hr (fun t ht hW => ⟨⟨r_9, (), rfl, hw, by rw [ht]; exact hP9, va_K.moved hW.alike hK, hD9⟩, hS.F ht⟩) hS.2.2 dX11_cell_63
    · have hw := hw.2.2.2.2.2.1 (ey_3.symm.trans (Int32.toInt_inj.mp (c_4.trans (by decide))))
      refine lv_tableIn (tgt := 64) hx hb dX11_cell_12 (by omega) (by omega) (by rw [c_4]; rfl) (by decide) ?_
      refine lv_aload_n hx hb dX11_cell_64 rfl (lv_at hl 0 rfl) ?_
      refine lv_iload_n hx hb dX11_cell_65 rfl (lv_at hl 1 rfl) ?_
      refine lv_iload_n hx hb dX11_cell_66 rfl (lv_at hl 2 rfl) ?_
      have hPc := hP.sub (ws' := [(h, .inr (10, [.ref h_all, .ref h_has, .int f_size, .int f_next, .int f_where, .int f_token, .int f_number, .int f_sign, .int f_word, .int f_wrong, .int f_open, .int f_lines, .int f_acts, .ref h_line, .ref h_act, .ref h_pile, .ref h_comes, .ref h_leaves, .ref h_tried, .ref h_met])), (h_all, .inl (cI, 53700, .inl r_all))]) [0, 1] rfl
      have hDc := hD.sub (ws' := [(h, .inr (10, [.ref h_all, .ref h_has, .int f_size, .int f_next, .int f_where, .int f_token, .int f_number, .int f_sign, .int f_word, .int f_wrong, .int f_open, .int f_lines, .int f_acts, .ref h_line, .ref h_act, .ref h_pile, .ref h_comes, .ref h_leaves, .ref h_tried, .ref h_met])), (h_all, .inl (cI, 53700, .inl r_all))]) [0, 1] (by decide) rfl
      have hFc := va_free (wc := [(h, .inr (10, [.ref h_all, .ref h_has, .int f_size, .int f_next, .int f_where, .int f_token, .int f_number, .int f_sign, .int f_word, .int f_wrong, .int f_open, .int f_lines, .int f_acts, .ref h_line, .ref h_act, .ref h_pile, .ref h_comes, .ref h_leaves, .ref h_tried, .ref h_met])), (h_all, .inl (cI, 53700, .inl r_all))]) hD hS hA [0, 1] rfl
      refine va_calli (va_runV (As := [.int x1, .int x2]) (rest := []) ⟨hx, hb, hml, hown, hts⟩ (kX11_burden l dC dI cI cZ cO cW h h_all h_has h_line h_act h_pile h_comes h_leaves h_tried h_met H.size f_size f_next f_where f_token f_number f_sign f_word f_wrong f_open f_lines f_acts r_all x1 x2 _ hw) (cwV 2 hts (gV gw_770 gw_771 gw_772 gw_622 (gM gw_764)) rfl rfl rfl (by decide +kernel) ⟨Nat.le_of_ble_eq_true rfl, Nat.le_of_ble_eq_true rfl⟩) (pv_of hPc hK hDc (va_recv hK hPc (ci := 10) (q0 := 0) rfl rfl)) rfl rfl hl.1 rfl (lv_room (Nat.le_of_ble_eq_true rfl)) dX11_cell_67 ⟨Nat.zero_le _, Nat.zero_le _⟩) hS (fun q _ h => hFc q h) hFc (fun r_10 u t H locs ht hvm hw hB hz1 hk1 hS => ?_)
      obtain ⟨hP, hD⟩ := af_join (wr := []) (w1 := [(h, .inr (10, [.ref h_all, .ref h_has, .int f_size, .int f_next, .int f_where, .int f_token, .int f_number, .int f_sign, .int f_word, .int f_wrong, .int f_open, .int f_lines, .int f_acts, .ref h_line, .ref h_act, .ref h_pile, .ref h_comes, .ref h_leaves, .ref h_tried, .ref h_met])), (h_all, .inl (cI, 53700, .inl r_all))]) hB ht hP hD [0, 1] [] rfl rfl (by decide) (by decide) hk1 hFc
      have hP : va_P (dC, dI) vwCl [(h, .inr (10, [.ref h_all, .ref h_has, .int f_size, .int f_next, .int f_where, .int f_token, .int f_number, .int f_sign, .int f_word, .int f_wrong, .int f_open, .int f_lines, .int f_acts, .ref h_line, .ref h_act, .ref h_pile, .ref h_comes, .ref h_leaves, .ref h_tried, .ref h_met])), (h_all, .inl (cI, 53700, .inl r_all))] _ := hP
      have hD : va_D A [(h, .inr (10, [.ref h_all, .ref h_has, .int f_size, .int f_next, .int f_where, .int f_token, .int f_number, .int f_sign, .int f_word, .int f_wrong, .int f_open, .int f_lines, .int f_acts, .ref h_line, .ref h_act, .ref h_pile, .ref h_comes, .ref h_leaves, .ref h_tried, .ref h_met])), (h_all, .inl (cI, 53700, .inl r_all))] := hD
      have hP9 := hP.sub (ws' := (vX11_cell cI cZ h h_all h_has h_line h_act h_pile h_comes h_leaves h_tried h_met f_size f_next f_where f_token f_number f_sign f_word f_wrong f_open f_lines f_acts r_all)) [0, 1] rfl
      have hD9 := hD.sub (ws' := (vX11_cell cI cZ h h_all h_has h_line h_act h_pile h_comes h_leaves h_tried h_met f_size f_next f_where f_token f_number f_sign f_word f_wrong f_open f_lines f_acts r_all)) [0, 1] (by decide) rfl
      exact W.iret (v := r_10) hx hb hr (fun t ht hW => ⟨⟨r_10, (), rfl, hw, by rw [ht]; exact hP9, va_K.moved hW.alike hK, hD9⟩, hS.F ht⟩) hS.2.2 dX11_cell_70
    · have hw := hw.2.2.2.2.2.2.1 (ey_3.symm.trans (Int32.toInt_inj.mp (c_4.trans (by decide))))
      refine lv_tableIn (tgt := 71) hx hb dX11_cell_12 (by omega) (by omega) (by rw [c_4]; rfl) (by decide) ?_
      refine lv_aload_n hx hb dX11_cell_71 rfl (lv_at hl 0 rfl) ?_
      refine lv_iload_n hx hb dX11_cell_72 rfl (lv_at hl 1 rfl) ?_
      refine lv_iload_n hx hb dX11_cell_73 rfl (lv_at hl 2 rfl) ?_
      have hPc := hP.sub (ws' := [(h, .inr (10, [.ref h_all, .ref h_has, .int f_size, .int f_next, .int f_where, .int f_token, .int f_number, .int f_sign, .int f_word, .int f_wrong, .int f_open, .int f_lines, .int f_acts, .ref h_line, .ref h_act, .ref h_pile, .ref h_comes, .ref h_leaves, .ref h_tried, .ref h_met])), (h_all, .inl (cI, 53700, .inl r_all))]) [0, 1] rfl
      have hDc := hD.sub (ws' := [(h, .inr (10, [.ref h_all, .ref h_has, .int f_size, .int f_next, .int f_where, .int f_token, .int f_number, .int f_sign, .int f_word, .int f_wrong, .int f_open, .int f_lines, .int f_acts, .ref h_line, .ref h_act, .ref h_pile, .ref h_comes, .ref h_leaves, .ref h_tried, .ref h_met])), (h_all, .inl (cI, 53700, .inl r_all))]) [0, 1] (by decide) rfl
      have hFc := va_free (wc := [(h, .inr (10, [.ref h_all, .ref h_has, .int f_size, .int f_next, .int f_where, .int f_token, .int f_number, .int f_sign, .int f_word, .int f_wrong, .int f_open, .int f_lines, .int f_acts, .ref h_line, .ref h_act, .ref h_pile, .ref h_comes, .ref h_leaves, .ref h_tried, .ref h_met])), (h_all, .inl (cI, 53700, .inl r_all))]) hD hS hA [0, 1] rfl
      refine va_calli (va_runV (As := [.int x1, .int x2]) (rest := []) ⟨hx, hb, hml, hown, hts⟩ (kX11_shipAt l dC dI cI cZ cO cW h h_all h_has h_line h_act h_pile h_comes h_leaves h_tried h_met H.size f_size f_next f_where f_token f_number f_sign f_word f_wrong f_open f_lines f_acts r_all x1 x2 _ hw) (cwV 2 hts (gV gw_643 gw_644 gw_645 gw_622 (gM gw_639)) rfl rfl rfl (by decide +kernel) ⟨Nat.le_of_ble_eq_true rfl, Nat.le_of_ble_eq_true rfl⟩) (pv_of hPc hK hDc (va_recv hK hPc (ci := 10) (q0 := 0) rfl rfl)) rfl rfl hl.1 rfl (lv_room (Nat.le_of_ble_eq_true rfl)) dX11_cell_74 ⟨Nat.zero_le _, Nat.zero_le _⟩) hS (fun q _ h => hFc q h) hFc (fun r_11 u t H locs ht hvm hw hB hz1 hk1 hS => ?_)
      obtain ⟨hP, hD⟩ := af_join (wr := []) (w1 := [(h, .inr (10, [.ref h_all, .ref h_has, .int f_size, .int f_next, .int f_where, .int f_token, .int f_number, .int f_sign, .int f_word, .int f_wrong, .int f_open, .int f_lines, .int f_acts, .ref h_line, .ref h_act, .ref h_pile, .ref h_comes, .ref h_leaves, .ref h_tried, .ref h_met])), (h_all, .inl (cI, 53700, .inl r_all))]) hB ht hP hD [0, 1] [] rfl rfl (by decide) (by decide) hk1 hFc
      have hP : va_P (dC, dI) vwCl [(h, .inr (10, [.ref h_all, .ref h_has, .int f_size, .int f_next, .int f_where, .int f_token, .int f_number, .int f_sign, .int f_word, .int f_wrong, .int f_open, .int f_lines, .int f_acts, .ref h_line, .ref h_act, .ref h_pile, .ref h_comes, .ref h_leaves, .ref h_tried, .ref h_met])), (h_all, .inl (cI, 53700, .inl r_all))] _ := hP
      have hD : va_D A [(h, .inr (10, [.ref h_all, .ref h_has, .int f_size, .int f_next, .int f_where, .int f_token, .int f_number, .int f_sign, .int f_word, .int f_wrong, .int f_open, .int f_lines, .int f_acts, .ref h_line, .ref h_act, .ref h_pile, .ref h_comes, .ref h_leaves, .ref h_tried, .ref h_met])), (h_all, .inl (cI, 53700, .inl r_all))] := hD
      have hP9 := hP.sub (ws' := (vX11_cell cI cZ h h_all h_has h_line h_act h_pile h_comes h_leaves h_tried h_met f_size f_next f_where f_token f_number f_sign f_word f_wrong f_open f_lines f_acts r_all)) [0, 1] rfl
      have hD9 := hD.sub (ws' := (vX11_cell cI cZ h h_all h_has h_line h_act h_pile h_comes h_leaves h_tried h_met f_size f_next f_where f_token f_number f_sign f_word f_wrong f_open f_lines f_acts r_all)) [0, 1] (by decide) rfl
      exact W.iret (v := r_11) hx hb hr (fun t ht hW => ⟨⟨r_11, (), rfl, hw, by rw [ht]; exact hP9, va_K.moved hW.alike hK, hD9⟩, hS.F ht⟩) hS.2.2 dX11_cell_77
  · have hw := hw.2 c_2
    refine lv_iconst (v := (-1 : Int32)) hx hb dX11_cell_9 (by decide) ?_
    have hP9 := hP.sub (ws' := (vX11_cell cI cZ h h_all h_has h_line h_act h_pile h_comes h_leaves h_tried h_met f_size f_next f_where f_token f_number f_sign f_word f_wrong f_open f_lines f_acts r_all)) [0, 1] rfl
    have hD9 := hD.sub (ws' := (vX11_cell cI cZ h h_all h_has h_line h_act h_pile h_comes h_leaves h_tried h_met f_size f_next f_where f_token f_number f_sign f_word f_wrong f_open f_lines f_acts r_all)) [0, 1] (by decide) rfl
    exact W.iret (v := (-1 : Int32)) hx hb hr (fun t ht hW => ⟨⟨(-1 : Int32), (), rfl, hw, by rw [ht]; exact hP9, va_K.moved hW.alike hK, hD9⟩, hS.F ht⟩) hS.2.2 dX11_cell_10
set_option maxHeartbeats 4000000 in
set_option maxRecDepth 100000 in
theorem kX11_cell (l : Launch) (dC : Nat → ClassId) (dI : Nat → Nat → Nat) (cI cZ cO cW : ClassId) (h h_all h_has h_line h_act h_pile h_comes h_leaves h_tried h_met : Nat)  (sz : Nat) (f_size : Int32) (f_next : Int32) (f_where : Int32) (f_token : Int32) (f_number : Int32) (f_sign : Int32) (f_word : Int32) (f_wrong : Int32) (f_open : Int32) (f_lines : Int32) (f_acts : Int32) (r_all : Nat → Int32) (x1 : Int32) (x2 : Int32) (x3 : Int32) (Q : Int32 → Prop) (hw : wX11_cell Q x1 x2 x3 r_all) : Met l yX11_cell zsX11_cell rmX11_cell (va_Pc [.ref h, .int x1, .int x2, .int x3] (fun U => U.heap.size = sz ∧ va_P (dC, dI) vwCl (vX11_cell cI cZ h h_all h_has h_line h_act h_pile h_comes h_leaves h_tried h_met f_size f_next f_where f_token f_number f_sign f_word f_wrong f_open f_lines f_acts r_all) U.heap ∧ va_K (dC, dI) vwCl (tysA cI cZ cO cW) U ∧ va_D (fun _ => True) (vX11_cell cI cZ h h_all h_has h_line h_act h_pile h_comes h_leaves h_tried h_met f_size f_next f_where f_token f_number f_sign f_word f_wrong f_open f_lines f_acts r_all))) (qX11_cell dC dI cI cZ cO cW h h_all h_has h_line h_act h_pile h_comes h_leaves h_tried h_met f_size f_next f_where f_token f_number f_sign f_word f_wrong f_open f_lines f_acts r_all Q (va_A (vX11_cell cI cZ h h_all h_has h_line h_act h_pile h_comes h_leaves h_tried h_met f_size f_next f_where f_token f_number f_sign f_word f_wrong f_open f_lines f_acts r_all) sz)) 0 0 (va_A (vX11_cell cI cZ h h_all h_has h_line h_act h_pile h_comes h_leaves h_tried h_met f_size f_next f_where f_token f_number f_sign f_word f_wrong f_open f_lines f_acts r_all) sz) := by
  refine Met.ofW (cc := cX11_cell) (maxL := 4) (ret := (some .int)) (by decide) rfl ?_
  intro p e s m args below meth c s₁ B hml hv
  obtain ⟨rfl, hsz, hP, hK, hD0⟩ := hv
  subst hsz
  have hC : Cx p s m ([.ref h, .int x1, .int x2, .int x3] : List Value).toArray meth c cX11_cell (some .int) 4 GW RX11 := ⟨B.exec, B.bytes, B.returns, hml, findClass_of_methodNamed B.named, fun w h => atoms_spec (ws := zsX11_cell) B.pre w (List.mem_cons_of_mem _ h), B.notSynchronized⟩
  have hD := hD0.self (sz := s.heap.size)
  generalize hAe : va_A (vX11_cell cI cZ h h_all h_has h_line h_act h_pile h_comes h_leaves h_tried h_met f_size f_next f_where f_token f_number f_sign f_word f_wrong f_open f_lines f_acts r_all) s.heap.size = A at hD ⊢
  have hA : ∀ q : Nat, s.heap.size ≤ q → A q := fun q h => by rw [← hAe]; exact Or.inr h
  have hl := lv_entry ([.ref h, .int x1, .int x2, .int x3]) (n := 4) (Nat.le_of_ble_eq_true rfl)
  rw [lg_entry_eq]
  generalize (lg_sl ([.ref h, .int x1, .int x2, .int x3]) ++ List.replicate (4 - (lg_sl ([.ref h, .int x1, .int x2, .int x3])).length) Slot.unset).toArray = ls at hl ⊢
  exact tX11_cell_e hC hK hA x1 x2 x3 r_all _ _ ls hw hP hD va_S.rf hl

/-! X11_tell -/
def wX11_tell (Q : Int32 → Prop) (x1 : Int32) (x2 : Int32) (r_all : Nat → Int32) : Prop :=
  (wX11_isShip (fun r_1 => ((¬ r_1 = 0 → ((x2 = (0 : Int32) → (wX11_its (fun r_5 => (Q r_5)) x1 (0 : Int32) r_all)) ∧ (x2 = (1 : Int32) → (wX11_its (fun r_6 => (Q r_6)) x1 (1 : Int32) r_all)) ∧ (x2 = (2 : Int32) → (wX11_its (fun r_7 => (Q r_7)) x1 (2 : Int32) r_all)) ∧ (x2 = (3 : Int32) → (wX11_its (fun r_8 => (Q r_8)) x1 (3 : Int32) r_all)) ∧ (x2 = (4 : Int32) → (wX11_isHeld (fun r_9 => ((r_9 = 0 → (Q (0 : Int32))) ∧ (¬ r_9 = 0 → (Q (1 : Int32))))) x1 r_all)) ∧ (x2 = (5 : Int32) → (wX11_its (fun r_11 => (Q r_11)) x1 (4 : Int32) r_all)) ∧ (x2 = (6 : Int32) → (wX11_its (fun r_12 => (Q r_12)) x1 (5 : Int32) r_all)) ∧ (x2 = (7 : Int32) → (wX11_its (fun r_13 => (Q r_13)) x1 (6 : Int32) r_all)) ∧ (x2 = (8 : Int32) → (wX11_its (fun r_14 => (Q r_14)) x1 (7 : Int32) r_all)) ∧ (x2 = (9 : Int32) → (wX11_its (fun r_15 => (Q r_15)) x1 (8 : Int32) r_all)) ∧ ((x2.toInt < (0 : Int) ∨ (9 : Int) < x2.toInt) → (Q (-1 : Int32))))) ∧ (r_1 = 0 → (Q (-1 : Int32))))) x1 r_all)
abbrev vX11_tell (cI cZ : ClassId) (h h_all h_has h_line h_act h_pile h_comes h_leaves h_tried h_met : Nat) (f_size : Int32) (f_next : Int32) (f_where : Int32) (f_token : Int32) (f_number : Int32) (f_sign : Int32) (f_word : Int32) (f_wrong : Int32) (f_open : Int32) (f_lines : Int32) (f_acts : Int32) (r_all : Nat → Int32) : va_W := [(h, .inr (10, [.ref h_all, .ref h_has, .int f_size, .int f_next, .int f_where, .int f_token, .int f_number, .int f_sign, .int f_word, .int f_wrong, .int f_open, .int f_lines, .int f_acts, .ref h_line, .ref h_act, .ref h_pile, .ref h_comes, .ref h_leaves, .ref h_tried, .ref h_met])), (h_all, .inl (cI, 53700, .inl r_all))]
abbrev rmX11_tell : Room := { frames := 4, cells := 0, slots := 0, locals := 91 }
abbrev qX11_tell (dC : Nat → ClassId) (dI : Nat → Nat → Nat) (cI cZ cO cW : ClassId) (h h_all h_has h_line h_act h_pile h_comes h_leaves h_tried h_met : Nat) (f_size : Int32) (f_next : Int32) (f_where : Int32) (f_token : Int32) (f_number : Int32) (f_sign : Int32) (f_word : Int32) (f_wrong : Int32) (f_open : Int32) (f_lines : Int32) (f_acts : Int32) (r_all : Nat → Int32) (Q : Int32 → Prop) (A : Nat → Prop) : Array Value → State → Outcome → State → Prop := va_Qi (fun (r : Int32) (u : Unit) => Q r) (fun (u : Unit) (t : State) => va_P (dC, dI) vwCl (vX11_tell cI cZ h h_all h_has h_line h_act h_pile h_comes h_leaves h_tried h_met f_size f_next f_where f_token f_number f_sign f_word f_wrong f_open f_lines f_acts r_all) t.heap ∧ va_K (dC, dI) vwCl (tysA cI cZ cO cW) t ∧ va_D A (vX11_tell cI cZ h h_all h_has h_line h_act h_pile h_comes h_leaves h_tried h_met f_size f_next f_where f_token f_number f_sign f_word f_wrong f_open f_lines f_acts r_all)) A
def zsX11_tell : List Cond := Cond.code yX11_tell cX11_tell 3 (some .int) :: GW
set_option maxHeartbeats 4000000 in
set_option maxRecDepth 100000 in
theorem tX11_tell_e {p : Program} {l : Launch} {e : Env} {s : State} {m : MethodId} {args : Array Value} {below : List Frame} {meth : Method} {c : Code} {dC : Nat → ClassId} {dI : Nat → Nat → Nat} {cI cZ cO cW : ClassId} {A : Nat → Prop} {h h_all h_has h_line h_act h_pile h_comes h_leaves h_tried h_met : Nat} {f_size f_next f_where f_token f_number f_sign f_word f_wrong f_open f_lines f_acts : Int32} {Q : Int32 → Prop} (hC : Cx p s m args meth c cX11_tell (some .int) 3 GW RX11) (hK : va_K (dC, dI) vwCl (tysA cI cZ cO cW) s) (hA : ∀ q : Nat, s.heap.size ≤ q → A q) :
    ∀ (x1 : Int32) (x2 : Int32) (r_all : Nat → Int32) (H : Heap) (locs : List Loc) (ls : Array Slot), wX11_tell Q x1 x2 r_all → va_P (dC, dI) vwCl (vX11_tell cI cZ h h_all h_has h_line h_act h_pile h_comes h_leaves h_tried h_met f_size f_next f_where f_token f_number f_sign f_word f_wrong f_open f_lines f_acts r_all) H → va_D A (vX11_tell cI cZ h h_all h_has h_line h_act h_pile h_comes h_leaves h_tried h_met f_size f_next f_where f_token f_number f_sign f_word f_wrong f_open f_lines f_acts r_all) → va_S A s.heap H locs → lv_has ls 3 [(0, .ref h), (1, .int x1), (2, .int x2)] → W p l e rmX11_tell s m args below meth c H locs 0 0 (MQ below (qX11_tell dC dI cI cZ cO cW h h_all h_has h_line h_act h_pile h_comes h_leaves h_tried h_met f_size f_next f_where f_token f_number f_sign f_word f_wrong f_open f_lines f_acts r_all Q A) args s 0 0 A) (F0 m 0 ls []) := by
  obtain ⟨hx, hb, hr, hml, hown, hts, hlocks⟩ := id hC
  intro x1 x2 r_all H locs ls hw hP hD hS hl
  refine lv_aload_n hx hb dX11_tell_0 rfl (lv_at hl 0 rfl) ?_
  refine lv_iload_n hx hb dX11_tell_1 rfl (lv_at hl 1 rfl) ?_
  have hPc := hP.sub (ws' := [(h, .inr (10, [.ref h_all, .ref h_has, .int f_size, .int f_next, .int f_where, .int f_token, .int f_number, .int f_sign, .int f_word, .int f_wrong, .int f_open, .int f_lines, .int f_acts, .ref h_line, .ref h_act, .ref h_pile, .ref h_comes, .ref h_leaves, .ref h_tried, .ref h_met])), (h_all, .inl (cI, 53700, .inl r_all))]) [0, 1] rfl
  have hDc := hD.sub (ws' := [(h, .inr (10, [.ref h_all, .ref h_has, .int f_size, .int f_next, .int f_where, .int f_token, .int f_number, .int f_sign, .int f_word, .int f_wrong, .int f_open, .int f_lines, .int f_acts, .ref h_line, .ref h_act, .ref h_pile, .ref h_comes, .ref h_leaves, .ref h_tried, .ref h_met])), (h_all, .inl (cI, 53700, .inl r_all))]) [0, 1] (by decide) rfl
  have hFc := va_free (wc := [(h, .inr (10, [.ref h_all, .ref h_has, .int f_size, .int f_next, .int f_where, .int f_token, .int f_number, .int f_sign, .int f_word, .int f_wrong, .int f_open, .int f_lines, .int f_acts, .ref h_line, .ref h_act, .ref h_pile, .ref h_comes, .ref h_leaves, .ref h_tried, .ref h_met])), (h_all, .inl (cI, 53700, .inl r_all))]) hD hS hA [0, 1] rfl
  refine va_calli (va_runV (As := [.int x1]) (rest := []) ⟨hx, hb, hml, hown, hts⟩ (kX11_isShip l dC dI cI cZ cO cW h h_all h_has h_line h_act h_pile h_comes h_leaves h_tried h_met H.size f_size f_next f_where f_token f_number f_sign f_word f_wrong f_open f_lines f_acts r_all x1 _ hw) (cwV 1 hts (gV gw_753 gw_754 gw_755 gw_622 (gM gw_659)) rfl rfl rfl (by decide +kernel) ⟨Nat.le_of_ble_eq_true rfl, Nat.le_of_ble_eq_true rfl⟩) (pv_of hPc hK hDc (va_recv hK hPc (ci := 10) (q0 := 0) rfl rfl)) rfl rfl hl.1 rfl (lv_room (Nat.le_of_ble_eq_true rfl)) dX11_tell_2 ⟨Nat.zero_le _, Nat.zero_le _⟩) hS (fun q _ h => hFc q h) hFc (fun r_1 u t H locs ht hvm hw hB hz1 hk1 hS => ?_)
  obtain ⟨hP, hD⟩ := af_join (wr := []) (w1 := [(h, .inr (10, [.ref h_all, .ref h_has, .int f_size, .int f_next, .int f_where, .int f_token, .int f_number, .int f_sign, .int f_word, .int f_wrong, .int f_open, .int f_lines, .int f_acts, .ref h_line, .ref h_act, .ref h_pile, .ref h_comes, .ref h_leaves, .ref h_tried, .ref h_met])), (h_all, .inl (cI, 53700, .inl r_all))]) hB ht hP hD [0, 1] [] rfl rfl (by decide) (by decide) hk1 hFc
  have hP : va_P (dC, dI) vwCl [(h, .inr (10, [.ref h_all, .ref h_has, .int f_size, .int f_next, .int f_where, .int f_token, .int f_number, .int f_sign, .int f_word, .int f_wrong, .int f_open, .int f_lines, .int f_acts, .ref h_line, .ref h_act, .ref h_pile, .ref h_comes, .ref h_leaves, .ref h_tried, .ref h_met])), (h_all, .inl (cI, 53700, .inl r_all))] _ := hP
  have hD : va_D A [(h, .inr (10, [.ref h_all, .ref h_has, .int f_size, .int f_next, .int f_where, .int f_token, .int f_number, .int f_sign, .int f_word, .int f_wrong, .int f_open, .int f_lines, .int f_acts, .ref h_line, .ref h_act, .ref h_pile, .ref h_comes, .ref h_leaves, .ref h_tried, .ref h_met])), (h_all, .inl (cI, 53700, .inl r_all))] := hD
  refine lv_if_ne (tgt := 10) hx hb dX11_tell_5 (by decide) (fun c_2 => ?_) (fun c_2 => ?_)
  · have hw := hw.1 c_2
    refine lv_iload_n hx hb dX11_tell_10 rfl (lv_at hl 2 rfl) ?_
    refine lv_topi (fun y_3 ey_3 => ?_)
    rcases (show (y_3.toInt < (0 : Int) ∨ (9 : Int) < y_3.toInt) ∨ y_3.toInt = 0 ∨ y_3.toInt = 1 ∨ y_3.toInt = 2 ∨ y_3.toInt = 3 ∨ y_3.toInt = 4 ∨ y_3.toInt = 5 ∨ y_3.toInt = 6 ∨ y_3.toInt = 7 ∨ y_3.toInt = 8 ∨ y_3.toInt = 9 by omega) with c_4 | c_4 | c_4 | c_4 | c_4 | c_4 | c_4 | c_4 | c_4 | c_4 | c_4
    · have hw := hw.2.2.2.2.2.2.2.2.2.2 (by rw [← ey_3]; exact c_4)
      refine lv_tableOut (tgt := 144) hx hb dX11_tell_11 c_4 (by decide) ?_
      refine lv_iconst (v := (-1 : Int32)) hx hb dX11_tell_144 (by decide) ?_
      have hP9 := hP.sub (ws' := (vX11_tell cI cZ h h_all h_has h_line h_act h_pile h_comes h_leaves h_tried h_met f_size f_next f_where f_token f_number f_sign f_word f_wrong f_open f_lines f_acts r_all)) [0, 1] rfl
      have hD9 := hD.sub (ws' := (vX11_tell cI cZ h h_all h_has h_line h_act h_pile h_comes h_leaves h_tried h_met f_size f_next f_where f_token f_number f_sign f_word f_wrong f_open f_lines f_acts r_all)) [0, 1] (by decide) rfl
      exact W.iret (v := (-1 : Int32)) hx hb hr (fun t ht hW => ⟨⟨(-1 : Int32), (), rfl, hw, by rw [ht]; exact hP9, va_K.moved hW.alike hK, hD9⟩, hS.F ht⟩) hS.2.2 dX11_tell_145
    · have hw := hw.1 (ey_3.symm.trans (Int32.toInt_inj.mp (c_4.trans (by decide))))
      refine lv_tableIn (tgt := 64) hx hb dX11_tell_11 (by omega) (by omega) (by rw [c_4]; rfl) (by decide) ?_
      refine lv_aload_n hx hb dX11_tell_64 rfl (lv_at hl 0 rfl) ?_
      refine lv_iload_n hx hb dX11_tell_65 rfl (lv_at hl 1 rfl) ?_
      refine lv_iconst (v := (0 : Int32)) hx hb dX11_tell_66 (by decide) ?_
      have hPc := hP.sub (ws' := [(h, .inr (10, [.ref h_all, .ref h_has, .int f_size, .int f_next, .int f_where, .int f_token, .int f_number, .int f_sign, .int f_word, .int f_wrong, .int f_open, .int f_lines, .int f_acts, .ref h_line, .ref h_act, .ref h_pile, .ref h_comes, .ref h_leaves, .ref h_tried, .ref h_met])), (h_all, .inl (cI, 53700, .inl r_all))]) [0, 1] rfl
      have hDc := hD.sub (ws' := [(h, .inr (10, [.ref h_all, .ref h_has, .int f_size, .int f_next, .int f_where, .int f_token, .int f_number, .int f_sign, .int f_word, .int f_wrong, .int f_open, .int f_lines, .int f_acts, .ref h_line, .ref h_act, .ref h_pile, .ref h_comes, .ref h_leaves, .ref h_tried, .ref h_met])), (h_all, .inl (cI, 53700, .inl r_all))]) [0, 1] (by decide) rfl
      have hFc := va_free (wc := [(h, .inr (10, [.ref h_all, .ref h_has, .int f_size, .int f_next, .int f_where, .int f_token, .int f_number, .int f_sign, .int f_word, .int f_wrong, .int f_open, .int f_lines, .int f_acts, .ref h_line, .ref h_act, .ref h_pile, .ref h_comes, .ref h_leaves, .ref h_tried, .ref h_met])), (h_all, .inl (cI, 53700, .inl r_all))]) hD hS hA [0, 1] rfl
      refine va_calli (va_runV (As := [.int x1, .int (0 : Int32)]) (rest := []) ⟨hx, hb, hml, hown, hts⟩ (kX11_its l dC dI cI cZ cO cW h h_all h_has h_line h_act h_pile h_comes h_leaves h_tried h_met H.size f_size f_next f_where f_token f_number f_sign f_word f_wrong f_open f_lines f_acts r_all x1 (0 : Int32) _ hw) (cwV 2 hts (gV gw_640 gw_641 gw_642 gw_622 (gM gw_637)) rfl rfl rfl (by decide +kernel) ⟨Nat.le_of_ble_eq_true rfl, Nat.le_of_ble_eq_true rfl⟩) (pv_of hPc hK hDc (va_recv hK hPc (ci := 10) (q0 := 0) rfl rfl)) rfl rfl hl.1 rfl (lv_room (Nat.le_of_ble_eq_true rfl)) dX11_tell_67 ⟨Nat.zero_le _, Nat.zero_le _⟩) hS (fun q _ h => hFc q h) hFc (fun r_5 u t H locs ht hvm hw hB hz1 hk1 hS => ?_)
      obtain ⟨hP, hD⟩ := af_join (wr := []) (w1 := [(h, .inr (10, [.ref h_all, .ref h_has, .int f_size, .int f_next, .int f_where, .int f_token, .int f_number, .int f_sign, .int f_word, .int f_wrong, .int f_open, .int f_lines, .int f_acts, .ref h_line, .ref h_act, .ref h_pile, .ref h_comes, .ref h_leaves, .ref h_tried, .ref h_met])), (h_all, .inl (cI, 53700, .inl r_all))]) hB ht hP hD [0, 1] [] rfl rfl (by decide) (by decide) hk1 hFc
      have hP : va_P (dC, dI) vwCl [(h, .inr (10, [.ref h_all, .ref h_has, .int f_size, .int f_next, .int f_where, .int f_token, .int f_number, .int f_sign, .int f_word, .int f_wrong, .int f_open, .int f_lines, .int f_acts, .ref h_line, .ref h_act, .ref h_pile, .ref h_comes, .ref h_leaves, .ref h_tried, .ref h_met])), (h_all, .inl (cI, 53700, .inl r_all))] _ := hP
      have hD : va_D A [(h, .inr (10, [.ref h_all, .ref h_has, .int f_size, .int f_next, .int f_where, .int f_token, .int f_number, .int f_sign, .int f_word, .int f_wrong, .int f_open, .int f_lines, .int f_acts, .ref h_line, .ref h_act, .ref h_pile, .ref h_comes, .ref h_leaves, .ref h_tried, .ref h_met])), (h_all, .inl (cI, 53700, .inl r_all))] := hD
      have hP9 := hP.sub (ws' := (vX11_tell cI cZ h h_all h_has h_line h_act h_pile h_comes h_leaves h_tried h_met f_size f_next f_where f_token f_number f_sign f_word f_wrong f_open f_lines f_acts r_all)) [0, 1] rfl
      have hD9 := hD.sub (ws' := (vX11_tell cI cZ h h_all h_has h_line h_act h_pile h_comes h_leaves h_tried h_met f_size f_next f_where f_token f_number f_sign f_word f_wrong f_open f_lines f_acts r_all)) [0, 1] (by decide) rfl
      exact W.iret (v := r_5) hx hb hr (fun t ht hW => ⟨⟨r_5, (), rfl, hw, by rw [ht]; exact hP9, va_K.moved hW.alike hK, hD9⟩, hS.F ht⟩) hS.2.2 dX11_tell_70
    · have hw := hw.2.1 (ey_3.symm.trans (Int32.toInt_inj.mp (c_4.trans (by decide))))
      refine lv_tableIn (tgt := 71) hx hb dX11_tell_11 (by omega) (by omega) (by rw [c_4]; rfl) (by decide) ?_
      refine lv_aload_n hx hb dX11_tell_71 rfl (lv_at hl 0 rfl) ?_
      refine lv_iload_n hx hb dX11_tell_72 rfl (lv_at hl 1 rfl) ?_
      refine lv_iconst (v := (1 : Int32)) hx hb dX11_tell_73 (by decide) ?_
      have hPc := hP.sub (ws' := [(h, .inr (10, [.ref h_all, .ref h_has, .int f_size, .int f_next, .int f_where, .int f_token, .int f_number, .int f_sign, .int f_word, .int f_wrong, .int f_open, .int f_lines, .int f_acts, .ref h_line, .ref h_act, .ref h_pile, .ref h_comes, .ref h_leaves, .ref h_tried, .ref h_met])), (h_all, .inl (cI, 53700, .inl r_all))]) [0, 1] rfl
      have hDc := hD.sub (ws' := [(h, .inr (10, [.ref h_all, .ref h_has, .int f_size, .int f_next, .int f_where, .int f_token, .int f_number, .int f_sign, .int f_word, .int f_wrong, .int f_open, .int f_lines, .int f_acts, .ref h_line, .ref h_act, .ref h_pile, .ref h_comes, .ref h_leaves, .ref h_tried, .ref h_met])), (h_all, .inl (cI, 53700, .inl r_all))]) [0, 1] (by decide) rfl
      have hFc := va_free (wc := [(h, .inr (10, [.ref h_all, .ref h_has, .int f_size, .int f_next, .int f_where, .int f_token, .int f_number, .int f_sign, .int f_word, .int f_wrong, .int f_open, .int f_lines, .int f_acts, .ref h_line, .ref h_act, .ref h_pile, .ref h_comes, .ref h_leaves, .ref h_tried, .ref h_met])), (h_all, .inl (cI, 53700, .inl r_all))]) hD hS hA [0, 1] rfl
      refine va_calli (va_runV (As := [.int x1, .int (1 : Int32)]) (rest := []) ⟨hx, hb, hml, hown, hts⟩ (kX11_its l dC dI cI cZ cO cW h h_all h_has h_line h_act h_pile h_comes h_leaves h_tried h_met H.size f_size f_next f_where f_token f_number f_sign f_word f_wrong f_open f_lines f_acts r_all x1 (1 : Int32) _ hw) (cwV 2 hts (gV gw_640 gw_641 gw_642 gw_622 (gM gw_637)) rfl rfl rfl (by decide +kernel) ⟨Nat.le_of_ble_eq_true rfl, Nat.le_of_ble_eq_true rfl⟩) (pv_of hPc hK hDc (va_recv hK hPc (ci := 10) (q0 := 0) rfl rfl)) rfl rfl hl.1 rfl (lv_room (Nat.le_of_ble_eq_true rfl)) dX11_tell_74 ⟨Nat.zero_le _, Nat.zero_le _⟩) hS (fun q _ h => hFc q h) hFc (fun r_6 u t H locs ht hvm hw hB hz1 hk1 hS => ?_)
      obtain ⟨hP, hD⟩ := af_join (wr := []) (w1 := [(h, .inr (10, [.ref h_all, .ref h_has, .int f_size, .int f_next, .int f_where, .int f_token, .int f_number, .int f_sign, .int f_word, .int f_wrong, .int f_open, .int f_lines, .int f_acts, .ref h_line, .ref h_act, .ref h_pile, .ref h_comes, .ref h_leaves, .ref h_tried, .ref h_met])), (h_all, .inl (cI, 53700, .inl r_all))]) hB ht hP hD [0, 1] [] rfl rfl (by decide) (by decide) hk1 hFc
      have hP : va_P (dC, dI) vwCl [(h, .inr (10, [.ref h_all, .ref h_has, .int f_size, .int f_next, .int f_where, .int f_token, .int f_number, .int f_sign, .int f_word, .int f_wrong, .int f_open, .int f_lines, .int f_acts, .ref h_line, .ref h_act, .ref h_pile, .ref h_comes, .ref h_leaves, .ref h_tried, .ref h_met])), (h_all, .inl (cI, 53700, .inl r_all))] _ := hP
      have hD : va_D A [(h, .inr (10, [.ref h_all, .ref h_has, .int f_size, .int f_next, .int f_where, .int f_token, .int f_number, .int f_sign, .int f_word, .int f_wrong, .int f_open, .int f_lines, .int f_acts, .ref h_line, .ref h_act, .ref h_pile, .ref h_comes, .ref h_leaves, .ref h_tried, .ref h_met])), (h_all, .inl (cI, 53700, .inl r_all))] := hD
      have hP9 := hP.sub (ws' := (vX11_tell cI cZ h h_all h_has h_line h_act h_pile h_comes h_leaves h_tried h_met f_size f_next f_where f_token f_number f_sign f_word f_wrong f_open f_lines f_acts r_all)) [0, 1] rfl
      have hD9 := hD.sub (ws' := (vX11_tell cI cZ h h_all h_has h_line h_act h_pile h_comes h_leaves h_tried h_met f_size f_next f_where f_token f_number f_sign f_word f_wrong f_open f_lines f_acts r_all)) [0, 1] (by decide) rfl
      exact W.iret (v := r_6) hx hb hr (fun t ht hW => ⟨⟨r_6, (), rfl, hw, by rw [ht]; exact hP9, va_K.moved hW.alike hK, hD9⟩, hS.F ht⟩) hS.2.2 dX11_tell_77
    · have hw := hw.2.2.1 (ey_3.symm.trans (Int32.toInt_inj.mp (c_4.trans (by decide))))
      refine lv_tableIn (tgt := 78) hx hb dX11_tell_11 (by omega) (by omega) (by rw [c_4]; rfl) (by decide) ?_
      refine lv_aload_n hx hb dX11_tell_78 rfl (lv_at hl 0 rfl) ?_
      refine lv_iload_n hx hb dX11_tell_79 rfl (lv_at hl 1 rfl) ?_
      refine lv_iconst (v := (2 : Int32)) hx hb dX11_tell_80 (by decide) ?_
      have hPc := hP.sub (ws' := [(h, .inr (10, [.ref h_all, .ref h_has, .int f_size, .int f_next, .int f_where, .int f_token, .int f_number, .int f_sign, .int f_word, .int f_wrong, .int f_open, .int f_lines, .int f_acts, .ref h_line, .ref h_act, .ref h_pile, .ref h_comes, .ref h_leaves, .ref h_tried, .ref h_met])), (h_all, .inl (cI, 53700, .inl r_all))]) [0, 1] rfl
      have hDc := hD.sub (ws' := [(h, .inr (10, [.ref h_all, .ref h_has, .int f_size, .int f_next, .int f_where, .int f_token, .int f_number, .int f_sign, .int f_word, .int f_wrong, .int f_open, .int f_lines, .int f_acts, .ref h_line, .ref h_act, .ref h_pile, .ref h_comes, .ref h_leaves, .ref h_tried, .ref h_met])), (h_all, .inl (cI, 53700, .inl r_all))]) [0, 1] (by decide) rfl
      have hFc := va_free (wc := [(h, .inr (10, [.ref h_all, .ref h_has, .int f_size, .int f_next, .int f_where, .int f_token, .int f_number, .int f_sign, .int f_word, .int f_wrong, .int f_open, .int f_lines, .int f_acts, .ref h_line, .ref h_act, .ref h_pile, .ref h_comes, .ref h_leaves, .ref h_tried, .ref h_met])), (h_all, .inl (cI, 53700, .inl r_all))]) hD hS hA [0, 1] rfl
      refine va_calli (va_runV (As := [.int x1, .int (2 : Int32)]) (rest := []) ⟨hx, hb, hml, hown, hts⟩ (kX11_its l dC dI cI cZ cO cW h h_all h_has h_line h_act h_pile h_comes h_leaves h_tried h_met H.size f_size f_next f_where f_token f_number f_sign f_word f_wrong f_open f_lines f_acts r_all x1 (2 : Int32) _ hw) (cwV 2 hts (gV gw_640 gw_641 gw_642 gw_622 (gM gw_637)) rfl rfl rfl (by decide +kernel) ⟨Nat.le_of_ble_eq_true rfl, Nat.le_of_ble_eq_true rfl⟩) (pv_of hPc hK hDc (va_recv hK hPc (ci := 10) (q0 := 0) rfl rfl)) rfl rfl hl.1 rfl (lv_room (Nat.le_of_ble_eq_true rfl)) dX11_tell_81 ⟨Nat.zero_le _, Nat.zero_le _⟩) hS (fun q _ h => hFc q h) hFc (fun r_7 u t H locs ht hvm hw hB hz1 hk1 hS => ?_)
      obtain ⟨hP, hD⟩ := af_join (wr := []) (w1 := [(h, .inr (10, [.ref h_all, .ref h_has, .int f_size, .int f_next, .int f_where, .int f_token, .int f_number, .int f_sign, .int f_word, .int f_wrong, .int f_open, .int f_lines, .int f_acts, .ref h_line, .ref h_act, .ref h_pile, .ref h_comes, .ref h_leaves, .ref h_tried, .ref h_met])), (h_all, .inl (cI, 53700, .inl r_all))]) hB ht hP hD [0, 1] [] rfl rfl (by decide) (by decide) hk1 hFc
      have hP : va_P (dC, dI) vwCl [(h, .inr (10, [.ref h_all, .ref h_has, .int f_size, .int f_next, .int f_where, .int f_token, .int f_number, .int f_sign, .int f_word, .int f_wrong, .int f_open, .int f_lines, .int f_acts, .ref h_line, .ref h_act, .ref h_pile, .ref h_comes, .ref h_leaves, .ref h_tried, .ref h_met])), (h_all, .inl (cI, 53700, .inl r_all))] _ := hP
      have hD : va_D A [(h, .inr (10, [.ref h_all, .ref h_has, .int f_size, .int f_next, .int f_where, .int f_token, .int f_number, .int f_sign, .int f_word, .int f_wrong, .int f_open, .int f_lines, .int f_acts, .ref h_line, .ref h_act, .ref h_pile, .ref h_comes, .ref h_leaves, .ref h_tried, .ref h_met])), (h_all, .inl (cI, 53700, .inl r_all))] := hD
      have hP9 := hP.sub (ws' := (vX11_tell cI cZ h h_all h_has h_line h_act h_pile h_comes h_leaves h_tried h_met f_size f_next f_where f_token f_number f_sign f_word f_wrong f_open f_lines f_acts r_all)) [0, 1] rfl
      have hD9 := hD.sub (ws' := (vX11_tell cI cZ h h_all h_has h_line h_act h_pile h_comes h_leaves h_tried h_met f_size f_next f_where f_token f_number f_sign f_word f_wrong f_open f_lines f_acts r_all)) [0, 1] (by decide) rfl
      exact W.iret (v := r_7) hx hb hr (fun t ht hW => ⟨⟨r_7, (), rfl, hw, by rw [ht]; exact hP9, va_K.moved hW.alike hK, hD9⟩, hS.F ht⟩) hS.2.2 dX11_tell_84
    · have hw := hw.2.2.2.1 (ey_3.symm.trans (Int32.toInt_inj.mp (c_4.trans (by decide))))
      refine lv_tableIn (tgt := 85) hx hb dX11_tell_11 (by omega) (by omega) (by rw [c_4]; rfl) (by decide) ?_
      refine lv_aload_n hx hb dX11_tell_85 rfl (lv_at hl 0 rfl) ?_
      refine lv_iload_n hx hb dX11_tell_86 rfl (lv_at hl 1 rfl) ?_
      refine lv_iconst (v := (3 : Int32)) hx hb dX11_tell_87 (by decide) ?_
      have hPc := hP.sub (ws' := [(h, .inr (10, [.ref h_all, .ref h_has, .int f_size, .int f_next, .int f_where, .int f_token, .int f_number, .int f_sign, .int f_word, .int f_wrong, .int f_open, .int f_lines, .int f_acts, .ref h_line, .ref h_act, .ref h_pile, .ref h_comes, .ref h_leaves, .ref h_tried, .ref h_met])), (h_all, .inl (cI, 53700, .inl r_all))]) [0, 1] rfl
      have hDc := hD.sub (ws' := [(h, .inr (10, [.ref h_all, .ref h_has, .int f_size, .int f_next, .int f_where, .int f_token, .int f_number, .int f_sign, .int f_word, .int f_wrong, .int f_open, .int f_lines, .int f_acts, .ref h_line, .ref h_act, .ref h_pile, .ref h_comes, .ref h_leaves, .ref h_tried, .ref h_met])), (h_all, .inl (cI, 53700, .inl r_all))]) [0, 1] (by decide) rfl
      have hFc := va_free (wc := [(h, .inr (10, [.ref h_all, .ref h_has, .int f_size, .int f_next, .int f_where, .int f_token, .int f_number, .int f_sign, .int f_word, .int f_wrong, .int f_open, .int f_lines, .int f_acts, .ref h_line, .ref h_act, .ref h_pile, .ref h_comes, .ref h_leaves, .ref h_tried, .ref h_met])), (h_all, .inl (cI, 53700, .inl r_all))]) hD hS hA [0, 1] rfl
      refine va_calli (va_runV (As := [.int x1, .int (3 : Int32)]) (rest := []) ⟨hx, hb, hml, hown, hts⟩ (kX11_its l dC dI cI cZ cO cW h h_all h_has h_line h_act h_pile h_comes h_leaves h_tried h_met H.size f_size f_next f_where f_token f_number f_sign f_word f_wrong f_open f_lines f_acts r_all x1 (3 : Int32) _ hw) (cwV 2 hts (gV gw_640 gw_641 gw_642 gw_622 (gM gw_637)) rfl rfl rfl (by decide +kernel) ⟨Nat.le_of_ble_eq_true rfl, Nat.le_of_ble_eq_true rfl⟩) (pv_of hPc hK hDc (va_recv hK hPc (ci := 10) (q0 := 0) rfl rfl)) rfl rfl hl.1 rfl (lv_room (Nat.le_of_ble_eq_true rfl)) dX11_tell_88 ⟨Nat.zero_le _, Nat.zero_le _⟩) hS (fun q _ h => hFc q h) hFc (fun r_8 u t H locs ht hvm hw hB hz1 hk1 hS => ?_)
      obtain ⟨hP, hD⟩ := af_join (wr := []) (w1 := [(h, .inr (10, [.ref h_all, .ref h_has, .int f_size, .int f_next, .int f_where, .int f_token, .int f_number, .int f_sign, .int f_word, .int f_wrong, .int f_open, .int f_lines, .int f_acts, .ref h_line, .ref h_act, .ref h_pile, .ref h_comes, .ref h_leaves, .ref h_tried, .ref h_met])), (h_all, .inl (cI, 53700, .inl r_all))]) hB ht hP hD [0, 1] [] rfl rfl (by decide) (by decide) hk1 hFc
      have hP : va_P (dC, dI) vwCl [(h, .inr (10, [.ref h_all, .ref h_has, .int f_size, .int f_next, .int f_where, .int f_token, .int f_number, .int f_sign, .int f_word, .int f_wrong, .int f_open, .int f_lines, .int f_acts, .ref h_line, .ref h_act, .ref h_pile, .ref h_comes, .ref h_leaves, .ref h_tried, .ref h_met])), (h_all, .inl (cI, 53700, .inl r_all))] _ := hP
      have hD : va_D A [(h, .inr (10, [.ref h_all, .ref h_has, .int f_size, .int f_next, .int f_where, .int f_token, .int f_number, .int f_sign, .int f_word, .int f_wrong, .int f_open, .int f_lines, .int f_acts, .ref h_line, .ref h_act, .ref h_pile, .ref h_comes, .ref h_leaves, .ref h_tried, .ref h_met])), (h_all, .inl (cI, 53700, .inl r_all))] := hD
      have hP9 := hP.sub (ws' := (vX11_tell cI cZ h h_all h_has h_line h_act h_pile h_comes h_leaves h_tried h_met f_size f_next f_where f_token f_number f_sign f_word f_wrong f_open f_lines f_acts r_all)) [0, 1] rfl
      have hD9 := hD.sub (ws' := (vX11_tell cI cZ h h_all h_has h_line h_act h_pile h_comes h_leaves h_tried h_met f_size f_next f_where f_token f_number f_sign f_word f_wrong f_open f_lines f_acts r_all)) [0, 1] (by decide) rfl
      exact W.iret (v := r_8) hx hb hr (fun t ht hW => ⟨⟨r_8, (), rfl, hw, by rw [ht]; exact hP9, va_K.moved hW.alike hK, hD9⟩, hS.F ht⟩) hS.2.2 dX11_tell_91
    · have hw := hw.2.2.2.2.1 (ey_3.symm.trans (Int32.toInt_inj.mp (c_4.trans (by decide))))
      refine lv_tableIn (tgt := 92) hx hb dX11_tell_11 (by omega) (by omega) (by rw [c_4]; rfl) (by decide) ?_
      refine lv_aload_n hx hb dX11_tell_92 rfl (lv_at hl 0 rfl) ?_
      refine lv_iload_n hx hb dX11_tell_93 rfl (lv_at hl 1 rfl) ?_
      have hPc := hP.sub (ws' := [(h, .inr (10, [.ref h_all, .ref h_has, .int f_size, .int f_next, .int f_where, .int f_token, .int f_number, .int f_sign, .int f_word, .int f_wrong, .int f_open, .int f_lines, .int f_acts, .ref h_line, .ref h_act, .ref h_pile, .ref h_comes, .ref h_leaves, .ref h_tried, .ref h_met])), (h_all, .inl (cI, 53700, .inl r_all))]) [0, 1] rfl
      have hDc := hD.sub (ws' := [(h, .inr (10, [.ref h_all, .ref h_has, .int f_size, .int f_next, .int f_where, .int f_token, .int f_number, .int f_sign, .int f_word, .int f_wrong, .int f_open, .int f_lines, .int f_acts, .ref h_line, .ref h_act, .ref h_pile, .ref h_comes, .ref h_leaves, .ref h_tried, .ref h_met])), (h_all, .inl (cI, 53700, .inl r_all))]) [0, 1] (by decide) rfl
      have hFc := va_free (wc := [(h, .inr (10, [.ref h_all, .ref h_has, .int f_size, .int f_next, .int f_where, .int f_token, .int f_number, .int f_sign, .int f_word, .int f_wrong, .int f_open, .int f_lines, .int f_acts, .ref h_line, .ref h_act, .ref h_pile, .ref h_comes, .ref h_leaves, .ref h_tried, .ref h_met])), (h_all, .inl (cI, 53700, .inl r_all))]) hD hS hA [0, 1] rfl
      refine va_calli (va_runV (As := [.int x1]) (rest := []) ⟨hx, hb, hml, hown, hts⟩ (kX11_isHeld l dC dI cI cZ cO cW h h_all h_has h_line h_act h_pile h_comes h_leaves h_tried h_met H.size f_size f_next f_where f_token f_number f_sign f_word f_wrong f_open f_lines f_acts r_all x1 _ hw) (cwV 1 hts (gV gw_778 gw_779 gw_780 gw_622 (gM gw_776)) rfl rfl rfl (by decide +kernel) ⟨Nat.le_of_ble_eq_true rfl, Nat.le_of_ble_eq_true rfl⟩) (pv_of hPc hK hDc (va_recv hK hPc (ci := 10) (q0 := 0) rfl rfl)) rfl rfl hl.1 rfl (lv_room (Nat.le_of_ble_eq_true rfl)) dX11_tell_94 ⟨Nat.zero_le _, Nat.zero_le _⟩) hS (fun q _ h => hFc q h) hFc (fun r_9 u t H locs ht hvm hw hB hz1 hk1 hS => ?_)
      obtain ⟨hP, hD⟩ := af_join (wr := []) (w1 := [(h, .inr (10, [.ref h_all, .ref h_has, .int f_size, .int f_next, .int f_where, .int f_token, .int f_number, .int f_sign, .int f_word, .int f_wrong, .int f_open, .int f_lines, .int f_acts, .ref h_line, .ref h_act, .ref h_pile, .ref h_comes, .ref h_leaves, .ref h_tried, .ref h_met])), (h_all, .inl (cI, 53700, .inl r_all))]) hB ht hP hD [0, 1] [] rfl rfl (by decide) (by decide) hk1 hFc
      have hP : va_P (dC, dI) vwCl [(h, .inr (10, [.ref h_all, .ref h_has, .int f_size, .int f_next, .int f_where, .int f_token, .int f_number, .int f_sign, .int f_word, .int f_wrong, .int f_open, .int f_lines, .int f_acts, .ref h_line, .ref h_act, .ref h_pile, .ref h_comes, .ref h_leaves, .ref h_tried, .ref h_met])), (h_all, .inl (cI, 53700, .inl r_all))] _ := hP
      have hD : va_D A [(h, .inr (10, [.ref h_all, .ref h_has, .int f_size, .int f_next, .int f_where, .int f_token, .int f_number, .int f_sign, .int f_word, .int f_wrong, .int f_open, .int f_lines, .int f_acts, .ref h_line, .ref h_act, .ref h_pile, .ref h_comes, .ref h_leaves, .ref h_tried, .ref h_met])), (h_all, .inl (cI, 53700, .inl r_all))] := hD
      refine lv_if_eq (tgt := 104) hx hb dX11_tell_97 (by decide) (fun c_10 => ?_) (fun c_10 => ?_)
      · have hw := hw.1 c_10
        refine lv_iconst (v := (0 : Int32)) hx hb dX11_tell_104 (by decide) ?_
        have hP9 := hP.sub (ws' := (vX11_tell cI cZ h h_all h_has h_line h_act h_pile h_comes h_leaves h_tried h_met f_size f_next f_where f_token f_number f_sign f_word f_wrong f_open f_lines f_acts r_all)) [0, 1] rfl
        have hD9 := hD.sub (ws' := (vX11_tell cI cZ h h_all h_has h_line h_act h_pile h_comes h_leaves h_tried h_met f_size f_next f_where f_token f_number f_sign f_word f_wrong f_open f_lines f_acts r_all)) [0, 1] (by decide) rfl
        exact W.iret (v := (0 : Int32)) hx hb hr (fun t ht hW => ⟨⟨(0 : Int32), (), rfl, hw, by rw [ht]; exact hP9, va_K.moved hW.alike hK, hD9⟩, hS.F ht⟩) hS.2.2 dX11_tell_105
      · have hw := hw.2 c_10
        refine lv_iconst (v := (1 : Int32)) hx hb dX11_tell_100 (by decide) ?_
        refine lv_goto (tgt := 105) hx hb dX11_tell_101 (by decide) ?_
        have hP9 := hP.sub (ws' := (vX11_tell cI cZ h h_all h_has h_line h_act h_pile h_comes h_leaves h_tried h_met f_size f_next f_where f_token f_number f_sign f_word f_wrong f_open f_lines f_acts r_all)) [0, 1] rfl
        have hD9 := hD.sub (ws' := (vX11_tell cI cZ h h_all h_has h_line h_act h_pile h_comes h_leaves h_tried h_met f_size f_next f_where f_token f_number f_sign f_word f_wrong f_open f_lines f_acts r_all)) [0, 1] (by decide) rfl
        exact W.iret (v := (1 : Int32)) hx hb hr (fun t ht hW => ⟨⟨(1 : Int32), (), rfl, hw, by rw [ht]; exact hP9, va_K.moved hW.alike hK, hD9⟩, hS.F ht⟩) hS.2.2 dX11_tell_105
    · have hw := hw.2.2.2.2.2.1 (ey_3.symm.trans (Int32.toInt_inj.mp (c_4.trans (by decide))))
      refine lv_tableIn (tgt := 106) hx hb dX11_tell_11 (by omega) (by omega) (by rw [c_4]; rfl) (by decide) ?_
      refine lv_aload_n hx hb dX11_tell_106 rfl (lv_at hl 0 rfl) ?_
      refine lv_iload_n hx hb dX11_tell_107 rfl (lv_at hl 1 rfl) ?_
      refine lv_iconst (v := (4 : Int32)) hx hb dX11_tell_108 (by decide) ?_
      have hPc := hP.sub (ws' := [(h, .inr (10, [.ref h_all, .ref h_has, .int f_size, .int f_next, .int f_where, .int f_token, .int f_number, .int f_sign, .int f_word, .int f_wrong, .int f_open, .int f_lines, .int f_acts, .ref h_line, .ref h_act, .ref h_pile, .ref h_comes, .ref h_leaves, .ref h_tried, .ref h_met])), (h_all, .inl (cI, 53700, .inl r_all))]) [0, 1] rfl
      have hDc := hD.sub (ws' := [(h, .inr (10, [.ref h_all, .ref h_has, .int f_size, .int f_next, .int f_where, .int f_token, .int f_number, .int f_sign, .int f_word, .int f_wrong, .int f_open, .int f_lines, .int f_acts, .ref h_line, .ref h_act, .ref h_pile, .ref h_comes, .ref h_leaves, .ref h_tried, .ref h_met])), (h_all, .inl (cI, 53700, .inl r_all))]) [0, 1] (by decide) rfl
      have hFc := va_free (wc := [(h, .inr (10, [.ref h_all, .ref h_has, .int f_size, .int f_next, .int f_where, .int f_token, .int f_number, .int f_sign, .int f_word, .int f_wrong, .int f_open, .int f_lines, .int f_acts, .ref h_line, .ref h_act, .ref h_pile, .ref h_comes, .ref h_leaves, .ref h_tried, .ref h_met])), (h_all, .inl (cI, 53700, .inl r_all))]) hD hS hA [0, 1] rfl
      refine va_calli (va_runV (As := [.int x1, .int (4 : Int32)]) (rest := []) ⟨hx, hb, hml, hown, hts⟩ (kX11_its l dC dI cI cZ cO cW h h_all h_has h_line h_act h_pile h_comes h_leaves h_tried h_met H.size f_size f_next f_where f_token f_number f_sign f_word f_wrong f_open f_lines f_acts r_all x1 (4 : Int32) _ hw) (cwV 2 hts (gV gw_640 gw_641 gw_642 gw_622 (gM gw_637)) rfl rfl rfl (by decide +kernel) ⟨Nat.le_of_ble_eq_true rfl, Nat.le_of_ble_eq_true rfl⟩) (pv_of hPc hK hDc (va_recv hK hPc (ci := 10) (q0 := 0) rfl rfl)) rfl rfl hl.1 rfl (lv_room (Nat.le_of_ble_eq_true rfl)) dX11_tell_109 ⟨Nat.zero_le _, Nat.zero_le _⟩) hS (fun q _ h => hFc q h) hFc (fun r_11 u t H locs ht hvm hw hB hz1 hk1 hS => ?_)
      obtain ⟨hP, hD⟩ := af_join (wr := []) (w1 := [(h, .inr (10, [.ref h_all, .ref h_has, .int f_size, .int f_next, .int f_where, .int f_token, .int f_number, .int f_sign, .int f_word, .int f_wrong, .int f_open, .int f_lines, .int f_acts, .ref h_line, .ref h_act, .ref h_pile, .ref h_comes, .ref h_leaves, .ref h_tried, .ref h_met])), (h_all, .inl (cI, 53700, .inl r_all))]) hB ht hP hD [0, 1] [] rfl rfl (by decide) (by decide) hk1 hFc
      have hP : va_P (dC, dI) vwCl [(h, .inr (10, [.ref h_all, .ref h_has, .int f_size, .int f_next, .int f_where, .int f_token, .int f_number, .int f_sign, .int f_word, .int f_wrong, .int f_open, .int f_lines, .int f_acts, .ref h_line, .ref h_act, .ref h_pile, .ref h_comes, .ref h_leaves, .ref h_tried, .ref h_met])), (h_all, .inl (cI, 53700, .inl r_all))] _ := hP
      have hD : va_D A [(h, .inr (10, [.ref h_all, .ref h_has, .int f_size, .int f_next, .int f_where, .int f_token, .int f_number, .int f_sign, .int f_word, .int f_wrong, .int f_open, .int f_lines, .int f_acts, .ref h_line, .ref h_act, .ref h_pile, .ref h_comes, .ref h_leaves, .ref h_tried, .ref h_met])), (h_all, .inl (cI, 53700, .inl r_all))] := hD
      have hP9 := hP.sub (ws' := (vX11_tell cI cZ h h_all h_has h_line h_act h_pile h_comes h_leaves h_tried h_met f_size f_next f_where f_token f_number f_sign f_word f_wrong f_open f_lines f_acts r_all)) [0, 1] rfl
      have hD9 := hD.sub (ws' := (vX11_tell cI cZ h h_all h_has h_line h_act h_pile h_comes h_leaves h_tried h_met f_size f_next f_where f_token f_number f_sign f_word f_wrong f_open f_lines f_acts r_all)) [0, 1] (by decide) rfl
      exact W.iret (v := r_11) hx hb hr (fun t ht hW => ⟨⟨r_11, (), rfl, hw, by rw [ht]; exact hP9, va_K.moved hW.alike hK, hD9⟩, hS.F ht⟩) hS.2.2 dX11_tell_112
    · have hw := hw.2.2.2.2.2.2.1 (ey_3.symm.trans (Int32.toInt_inj.mp (c_4.trans (by decide))))
      refine lv_tableIn (tgt := 113) hx hb dX11_tell_11 (by omega) (by omega) (by rw [c_4]; rfl) (by decide) ?_
      refine lv_aload_n hx hb dX11_tell_113 rfl (lv_at hl 0 rfl) ?_
      refine lv_iload_n hx hb dX11_tell_114 rfl (lv_at hl 1 rfl) ?_
      refine lv_iconst (v := (5 : Int32)) hx hb dX11_tell_115 (by decide) ?_
      have hPc := hP.sub (ws' := [(h, .inr (10, [.ref h_all, .ref h_has, .int f_size, .int f_next, .int f_where, .int f_token, .int f_number, .int f_sign, .int f_word, .int f_wrong, .int f_open, .int f_lines, .int f_acts, .ref h_line, .ref h_act, .ref h_pile, .ref h_comes, .ref h_leaves, .ref h_tried, .ref h_met])), (h_all, .inl (cI, 53700, .inl r_all))]) [0, 1] rfl
      have hDc := hD.sub (ws' := [(h, .inr (10, [.ref h_all, .ref h_has, .int f_size, .int f_next, .int f_where, .int f_token, .int f_number, .int f_sign, .int f_word, .int f_wrong, .int f_open, .int f_lines, .int f_acts, .ref h_line, .ref h_act, .ref h_pile, .ref h_comes, .ref h_leaves, .ref h_tried, .ref h_met])), (h_all, .inl (cI, 53700, .inl r_all))]) [0, 1] (by decide) rfl
      have hFc := va_free (wc := [(h, .inr (10, [.ref h_all, .ref h_has, .int f_size, .int f_next, .int f_where, .int f_token, .int f_number, .int f_sign, .int f_word, .int f_wrong, .int f_open, .int f_lines, .int f_acts, .ref h_line, .ref h_act, .ref h_pile, .ref h_comes, .ref h_leaves, .ref h_tried, .ref h_met])), (h_all, .inl (cI, 53700, .inl r_all))]) hD hS hA [0, 1] rfl
      refine va_calli (va_runV (As := [.int x1, .int (5 : Int32)]) (rest := []) ⟨hx, hb, hml, hown, hts⟩ (kX11_its l dC dI cI cZ cO cW h h_all h_has h_line h_act h_pile h_comes h_leaves h_tried h_met H.size f_size f_next f_where f_token f_number f_sign f_word f_wrong f_open f_lines f_acts r_all x1 (5 : Int32) _ hw) (cwV 2 hts (gV gw_640 gw_641 gw_642 gw_622 (gM gw_637)) rfl rfl rfl (by decide +kernel) ⟨Nat.le_of_ble_eq_true rfl, Nat.le_of_ble_eq_true rfl⟩) (pv_of hPc hK hDc (va_recv hK hPc (ci := 10) (q0 := 0) rfl rfl)) rfl rfl hl.1 rfl (lv_room (Nat.le_of_ble_eq_true rfl)) dX11_tell_116 ⟨Nat.zero_le _, Nat.zero_le _⟩) hS (fun q _ h => hFc q h) hFc (fun r_12 u t H locs ht hvm hw hB hz1 hk1 hS => ?_)
      obtain ⟨hP, hD⟩ := af_join (wr := []) (w1 := [(h, .inr (10, [.ref h_all, .ref h_has, .int f_size, .int f_next, .int f_where, .int f_token, .int f_number, .int f_sign, .int f_word, .int f_wrong, .int f_open, .int f_lines, .int f_acts, .ref h_line, .ref h_act, .ref h_pile, .ref h_comes, .ref h_leaves, .ref h_tried, .ref h_met])), (h_all, .inl (cI, 53700, .inl r_all))]) hB ht hP hD [0, 1] [] rfl rfl (by decide) (by decide) hk1 hFc
      have hP : va_P (dC, dI) vwCl [(h, .inr (10, [.ref h_all, .ref h_has, .int f_size, .int f_next, .int f_where, .int f_token, .int f_number, .int f_sign, .int f_word, .int f_wrong, .int f_open, .int f_lines, .int f_acts, .ref h_line, .ref h_act, .ref h_pile, .ref h_comes, .ref h_leaves, .ref h_tried, .ref h_met])), (h_all, .inl (cI, 53700, .inl r_all))] _ := hP
      have hD : va_D A [(h, .inr (10, [.ref h_all, .ref h_has, .int f_size, .int f_next, .int f_where, .int f_token, .int f_number, .int f_sign, .int f_word, .int f_wrong, .int f_open, .int f_lines, .int f_acts, .ref h_line, .ref h_act, .ref h_pile, .ref h_comes, .ref h_leaves, .ref h_tried, .ref h_met])), (h_all, .inl (cI, 53700, .inl r_all))] := hD
      have hP9 := hP.sub (ws' := (vX11_tell cI cZ h h_all h_has h_line h_act h_pile h_comes h_leaves h_tried h_met f_size f_next f_where f_token f_number f_sign f_word f_wrong f_open f_lines f_acts r_all)) [0, 1] rfl
      have hD9 := hD.sub (ws' := (vX11_tell cI cZ h h_all h_has h_line h_act h_pile h_comes h_leaves h_tried h_met f_size f_next f_where f_token f_number f_sign f_word f_wrong f_open f_lines f_acts r_all)) [0, 1] (by decide) rfl
      exact W.iret (v := r_12) hx hb hr (fun t ht hW => ⟨⟨r_12, (), rfl, hw, by rw [ht]; exact hP9, va_K.moved hW.alike hK, hD9⟩, hS.F ht⟩) hS.2.2 dX11_tell_119
    · have hw := hw.2.2.2.2.2.2.2.1 (ey_3.symm.trans (Int32.toInt_inj.mp (c_4.trans (by decide))))
      refine lv_tableIn (tgt := 120) hx hb dX11_tell_11 (by omega) (by omega) (by rw [c_4]; rfl) (by decide) ?_
      refine lv_aload_n hx hb dX11_tell_120 rfl (lv_at hl 0 rfl) ?_
      refine lv_iload_n hx hb dX11_tell_121 rfl (lv_at hl 1 rfl) ?_
      refine lv_bipush (v := (6 : Int32)) hx hb dX11_tell_122 (by decide) ?_
      have hPc := hP.sub (ws' := [(h, .inr (10, [.ref h_all, .ref h_has, .int f_size, .int f_next, .int f_where, .int f_token, .int f_number, .int f_sign, .int f_word, .int f_wrong, .int f_open, .int f_lines, .int f_acts, .ref h_line, .ref h_act, .ref h_pile, .ref h_comes, .ref h_leaves, .ref h_tried, .ref h_met])), (h_all, .inl (cI, 53700, .inl r_all))]) [0, 1] rfl
      have hDc := hD.sub (ws' := [(h, .inr (10, [.ref h_all, .ref h_has, .int f_size, .int f_next, .int f_where, .int f_token, .int f_number, .int f_sign, .int f_word, .int f_wrong, .int f_open, .int f_lines, .int f_acts, .ref h_line, .ref h_act, .ref h_pile, .ref h_comes, .ref h_leaves, .ref h_tried, .ref h_met])), (h_all, .inl (cI, 53700, .inl r_all))]) [0, 1] (by decide) rfl
      have hFc := va_free (wc := [(h, .inr (10, [.ref h_all, .ref h_has, .int f_size, .int f_next, .int f_where, .int f_token, .int f_number, .int f_sign, .int f_word, .int f_wrong, .int f_open, .int f_lines, .int f_acts, .ref h_line, .ref h_act, .ref h_pile, .ref h_comes, .ref h_leaves, .ref h_tried, .ref h_met])), (h_all, .inl (cI, 53700, .inl r_all))]) hD hS hA [0, 1] rfl
      refine va_calli (va_runV (As := [.int x1, .int (6 : Int32)]) (rest := []) ⟨hx, hb, hml, hown, hts⟩ (kX11_its l dC dI cI cZ cO cW h h_all h_has h_line h_act h_pile h_comes h_leaves h_tried h_met H.size f_size f_next f_where f_token f_number f_sign f_word f_wrong f_open f_lines f_acts r_all x1 (6 : Int32) _ hw) (cwV 2 hts (gV gw_640 gw_641 gw_642 gw_622 (gM gw_637)) rfl rfl rfl (by decide +kernel) ⟨Nat.le_of_ble_eq_true rfl, Nat.le_of_ble_eq_true rfl⟩) (pv_of hPc hK hDc (va_recv hK hPc (ci := 10) (q0 := 0) rfl rfl)) rfl rfl hl.1 rfl (lv_room (Nat.le_of_ble_eq_true rfl)) dX11_tell_124 ⟨Nat.zero_le _, Nat.zero_le _⟩) hS (fun q _ h => hFc q h) hFc (fun r_13 u t H locs ht hvm hw hB hz1 hk1 hS => ?_)
      obtain ⟨hP, hD⟩ := af_join (wr := []) (w1 := [(h, .inr (10, [.ref h_all, .ref h_has, .int f_size, .int f_next, .int f_where, .int f_token, .int f_number, .int f_sign, .int f_word, .int f_wrong, .int f_open, .int f_lines, .int f_acts, .ref h_line, .ref h_act, .ref h_pile, .ref h_comes, .ref h_leaves, .ref h_tried, .ref h_met])), (h_all, .inl (cI, 53700, .inl r_all))]) hB ht hP hD [0, 1] [] rfl rfl (by decide) (by decide) hk1 hFc
      have hP : va_P (dC, dI) vwCl [(h, .inr (10, [.ref h_all, .ref h_has, .int f_size, .int f_next, .int f_where, .int f_token, .int f_number, .int f_sign, .int f_word, .int f_wrong, .int f_open, .int f_lines, .int f_acts, .ref h_line, .ref h_act, .ref h_pile, .ref h_comes, .ref h_leaves, .ref h_tried, .ref h_met])), (h_all, .inl (cI, 53700, .inl r_all))] _ := hP
      have hD : va_D A [(h, .inr (10, [.ref h_all, .ref h_has, .int f_size, .int f_next, .int f_where, .int f_token, .int f_number, .int f_sign, .int f_word, .int f_wrong, .int f_open, .int f_lines, .int f_acts, .ref h_line, .ref h_act, .ref h_pile, .ref h_comes, .ref h_leaves, .ref h_tried, .ref h_met])), (h_all, .inl (cI, 53700, .inl r_all))] := hD
      have hP9 := hP.sub (ws' := (vX11_tell cI cZ h h_all h_has h_line h_act h_pile h_comes h_leaves h_tried h_met f_size f_next f_where f_token f_number f_sign f_word f_wrong f_open f_lines f_acts r_all)) [0, 1] rfl
      have hD9 := hD.sub (ws' := (vX11_tell cI cZ h h_all h_has h_line h_act h_pile h_comes h_leaves h_tried h_met f_size f_next f_where f_token f_number f_sign f_word f_wrong f_open f_lines f_acts r_all)) [0, 1] (by decide) rfl
      exact W.iret (v := r_13) hx hb hr (fun t ht hW => ⟨⟨r_13, (), rfl, hw, by rw [ht]; exact hP9, va_K.moved hW.alike hK, hD9⟩, hS.F ht⟩) hS.2.2 dX11_tell_127
    · have hw := hw.2.2.2.2.2.2.2.2.1 (ey_3.symm.trans (Int32.toInt_inj.mp (c_4.trans (by decide))))
      refine lv_tableIn (tgt := 128) hx hb dX11_tell_11 (by omega) (by omega) (by rw [c_4]; rfl) (by decide) ?_
      refine lv_aload_n hx hb dX11_tell_128 rfl (lv_at hl 0 rfl) ?_
      refine lv_iload_n hx hb dX11_tell_129 rfl (lv_at hl 1 rfl) ?_
      refine lv_bipush (v := (7 : Int32)) hx hb dX11_tell_130 (by decide) ?_
      have hPc := hP.sub (ws' := [(h, .inr (10, [.ref h_all, .ref h_has, .int f_size, .int f_next, .int f_where, .int f_token, .int f_number, .int f_sign, .int f_word, .int f_wrong, .int f_open, .int f_lines, .int f_acts, .ref h_line, .ref h_act, .ref h_pile, .ref h_comes, .ref h_leaves, .ref h_tried, .ref h_met])), (h_all, .inl (cI, 53700, .inl r_all))]) [0, 1] rfl
      have hDc := hD.sub (ws' := [(h, .inr (10, [.ref h_all, .ref h_has, .int f_size, .int f_next, .int f_where, .int f_token, .int f_number, .int f_sign, .int f_word, .int f_wrong, .int f_open, .int f_lines, .int f_acts, .ref h_line, .ref h_act, .ref h_pile, .ref h_comes, .ref h_leaves, .ref h_tried, .ref h_met])), (h_all, .inl (cI, 53700, .inl r_all))]) [0, 1] (by decide) rfl
      have hFc := va_free (wc := [(h, .inr (10, [.ref h_all, .ref h_has, .int f_size, .int f_next, .int f_where, .int f_token, .int f_number, .int f_sign, .int f_word, .int f_wrong, .int f_open, .int f_lines, .int f_acts, .ref h_line, .ref h_act, .ref h_pile, .ref h_comes, .ref h_leaves, .ref h_tried, .ref h_met])), (h_all, .inl (cI, 53700, .inl r_all))]) hD hS hA [0, 1] rfl
      refine va_calli (va_runV (As := [.int x1, .int (7 : Int32)]) (rest := []) ⟨hx, hb, hml, hown, hts⟩ (kX11_its l dC dI cI cZ cO cW h h_all h_has h_line h_act h_pile h_comes h_leaves h_tried h_met H.size f_size f_next f_where f_token f_number f_sign f_word f_wrong f_open f_lines f_acts r_all x1 (7 : Int32) _ hw) (cwV 2 hts (gV gw_640 gw_641 gw_642 gw_622 (gM gw_637)) rfl rfl rfl (by decide +kernel) ⟨Nat.le_of_ble_eq_true rfl, Nat.le_of_ble_eq_true rfl⟩) (pv_of hPc hK hDc (va_recv hK hPc (ci := 10) (q0 := 0) rfl rfl)) rfl rfl hl.1 rfl (lv_room (Nat.le_of_ble_eq_true rfl)) dX11_tell_132 ⟨Nat.zero_le _, Nat.zero_le _⟩) hS (fun q _ h => hFc q h) hFc (fun r_14 u t H locs ht hvm hw hB hz1 hk1 hS => ?_)
      obtain ⟨hP, hD⟩ := af_join (wr := []) (w1 := [(h, .inr (10, [.ref h_all, .ref h_has, .int f_size, .int f_next, .int f_where, .int f_token, .int f_number, .int f_sign, .int f_word, .int f_wrong, .int f_open, .int f_lines, .int f_acts, .ref h_line, .ref h_act, .ref h_pile, .ref h_comes, .ref h_leaves, .ref h_tried, .ref h_met])), (h_all, .inl (cI, 53700, .inl r_all))]) hB ht hP hD [0, 1] [] rfl rfl (by decide) (by decide) hk1 hFc
      have hP : va_P (dC, dI) vwCl [(h, .inr (10, [.ref h_all, .ref h_has, .int f_size, .int f_next, .int f_where, .int f_token, .int f_number, .int f_sign, .int f_word, .int f_wrong, .int f_open, .int f_lines, .int f_acts, .ref h_line, .ref h_act, .ref h_pile, .ref h_comes, .ref h_leaves, .ref h_tried, .ref h_met])), (h_all, .inl (cI, 53700, .inl r_all))] _ := hP
      have hD : va_D A [(h, .inr (10, [.ref h_all, .ref h_has, .int f_size, .int f_next, .int f_where, .int f_token, .int f_number, .int f_sign, .int f_word, .int f_wrong, .int f_open, .int f_lines, .int f_acts, .ref h_line, .ref h_act, .ref h_pile, .ref h_comes, .ref h_leaves, .ref h_tried, .ref h_met])), (h_all, .inl (cI, 53700, .inl r_all))] := hD
      have hP9 := hP.sub (ws' := (vX11_tell cI cZ h h_all h_has h_line h_act h_pile h_comes h_leaves h_tried h_met f_size f_next f_where f_token f_number f_sign f_word f_wrong f_open f_lines f_acts r_all)) [0, 1] rfl
      have hD9 := hD.sub (ws' := (vX11_tell cI cZ h h_all h_has h_line h_act h_pile h_comes h_leaves h_tried h_met f_size f_next f_where f_token f_number f_sign f_word f_wrong f_open f_lines f_acts r_all)) [0, 1] (by decide) rfl
      exact W.iret (v := r_14) hx hb hr (fun t ht hW => ⟨⟨r_14, (), rfl, hw, by rw [ht]; exact hP9, va_K.moved hW.alike hK, hD9⟩, hS.F ht⟩) hS.2.2 dX11_tell_135
    · have hw := hw.2.2.2.2.2.2.2.2.2.1 (ey_3.symm.trans (Int32.toInt_inj.mp (c_4.trans (by decide))))
      refine lv_tableIn (tgt := 136) hx hb dX11_tell_11 (by omega) (by omega) (by rw [c_4]; rfl) (by decide) ?_
      refine lv_aload_n hx hb dX11_tell_136 rfl (lv_at hl 0 rfl) ?_
      refine lv_iload_n hx hb dX11_tell_137 rfl (lv_at hl 1 rfl) ?_
      refine lv_bipush (v := (8 : Int32)) hx hb dX11_tell_138 (by decide) ?_
      have hPc := hP.sub (ws' := [(h, .inr (10, [.ref h_all, .ref h_has, .int f_size, .int f_next, .int f_where, .int f_token, .int f_number, .int f_sign, .int f_word, .int f_wrong, .int f_open, .int f_lines, .int f_acts, .ref h_line, .ref h_act, .ref h_pile, .ref h_comes, .ref h_leaves, .ref h_tried, .ref h_met])), (h_all, .inl (cI, 53700, .inl r_all))]) [0, 1] rfl
      have hDc := hD.sub (ws' := [(h, .inr (10, [.ref h_all, .ref h_has, .int f_size, .int f_next, .int f_where, .int f_token, .int f_number, .int f_sign, .int f_word, .int f_wrong, .int f_open, .int f_lines, .int f_acts, .ref h_line, .ref h_act, .ref h_pile, .ref h_comes, .ref h_leaves, .ref h_tried, .ref h_met])), (h_all, .inl (cI, 53700, .inl r_all))]) [0, 1] (by decide) rfl
      have hFc := va_free (wc := [(h, .inr (10, [.ref h_all, .ref h_has, .int f_size, .int f_next, .int f_where, .int f_token, .int f_number, .int f_sign, .int f_word, .int f_wrong, .int f_open, .int f_lines, .int f_acts, .ref h_line, .ref h_act, .ref h_pile, .ref h_comes, .ref h_leaves, .ref h_tried, .ref h_met])), (h_all, .inl (cI, 53700, .inl r_all))]) hD hS hA [0, 1] rfl
      refine va_calli (va_runV (As := [.int x1, .int (8 : Int32)]) (rest := []) ⟨hx, hb, hml, hown, hts⟩ (kX11_its l dC dI cI cZ cO cW h h_all h_has h_line h_act h_pile h_comes h_leaves h_tried h_met H.size f_size f_next f_where f_token f_number f_sign f_word f_wrong f_open f_lines f_acts r_all x1 (8 : Int32) _ hw) (cwV 2 hts (gV gw_640 gw_641 gw_642 gw_622 (gM gw_637)) rfl rfl rfl (by decide +kernel) ⟨Nat.le_of_ble_eq_true rfl, Nat.le_of_ble_eq_true rfl⟩) (pv_of hPc hK hDc (va_recv hK hPc (ci := 10) (q0 := 0) rfl rfl)) rfl rfl hl.1 rfl (lv_room (Nat.le_of_ble_eq_true rfl)) dX11_tell_140 ⟨Nat.zero_le _, Nat.zero_le _⟩) hS (fun q _ h => hFc q h) hFc (fun r_15 u t H locs ht hvm hw hB hz1 hk1 hS => ?_)
      obtain ⟨hP, hD⟩ := af_join (wr := []) (w1 := [(h, .inr (10, [.ref h_all, .ref h_has, .int f_size, .int f_next, .int f_where, .int f_token, .int f_number, .int f_sign, .int f_word, .int f_wrong, .int f_open, .int f_lines, .int f_acts, .ref h_line, .ref h_act, .ref h_pile, .ref h_comes, .ref h_leaves, .ref h_tried, .ref h_met])), (h_all, .inl (cI, 53700, .inl r_all))]) hB ht hP hD [0, 1] [] rfl rfl (by decide) (by decide) hk1 hFc
      have hP : va_P (dC, dI) vwCl [(h, .inr (10, [.ref h_all, .ref h_has, .int f_size, .int f_next, .int f_where, .int f_token, .int f_number, .int f_sign, .int f_word, .int f_wrong, .int f_open, .int f_lines, .int f_acts, .ref h_line, .ref h_act, .ref h_pile, .ref h_comes, .ref h_leaves, .ref h_tried, .ref h_met])), (h_all, .inl (cI, 53700, .inl r_all))] _ := hP
      have hD : va_D A [(h, .inr (10, [.ref h_all, .ref h_has, .int f_size, .int f_next, .int f_where, .int f_token, .int f_number, .int f_sign, .int f_word, .int f_wrong, .int f_open, .int f_lines, .int f_acts, .ref h_line, .ref h_act, .ref h_pile, .ref h_comes, .ref h_leaves, .ref h_tried, .ref h_met])), (h_all, .inl (cI, 53700, .inl r_all))] := hD
      have hP9 := hP.sub (ws' := (vX11_tell cI cZ h h_all h_has h_line h_act h_pile h_comes h_leaves h_tried h_met f_size f_next f_where f_token f_number f_sign f_word f_wrong f_open f_lines f_acts r_all)) [0, 1] rfl
      have hD9 := hD.sub (ws' := (vX11_tell cI cZ h h_all h_has h_line h_act h_pile h_comes h_leaves h_tried h_met f_size f_next f_where f_token f_number f_sign f_word f_wrong f_open f_lines f_acts r_all)) [0, 1] (by decide) rfl
      exact W.iret (v := r_15) hx hb hr (fun t ht hW => ⟨⟨r_15, (), rfl, hw, by rw [ht]; exact hP9, va_K.moved hW.alike hK, hD9⟩, hS.F ht⟩) hS.2.2 dX11_tell_143
  · have hw := hw.2 c_2
    refine lv_iconst (v := (-1 : Int32)) hx hb dX11_tell_8 (by decide) ?_
    have hP9 := hP.sub (ws' := (vX11_tell cI cZ h h_all h_has h_line h_act h_pile h_comes h_leaves h_tried h_met f_size f_next f_where f_token f_number f_sign f_word f_wrong f_open f_lines f_acts r_all)) [0, 1] rfl
    have hD9 := hD.sub (ws' := (vX11_tell cI cZ h h_all h_has h_line h_act h_pile h_comes h_leaves h_tried h_met f_size f_next f_where f_token f_number f_sign f_word f_wrong f_open f_lines f_acts r_all)) [0, 1] (by decide) rfl
    exact W.iret (v := (-1 : Int32)) hx hb hr (fun t ht hW => ⟨⟨(-1 : Int32), (), rfl, hw, by rw [ht]; exact hP9, va_K.moved hW.alike hK, hD9⟩, hS.F ht⟩) hS.2.2 dX11_tell_9
set_option maxHeartbeats 4000000 in
set_option maxRecDepth 100000 in
theorem kX11_tell (l : Launch) (dC : Nat → ClassId) (dI : Nat → Nat → Nat) (cI cZ cO cW : ClassId) (h h_all h_has h_line h_act h_pile h_comes h_leaves h_tried h_met : Nat)  (sz : Nat) (f_size : Int32) (f_next : Int32) (f_where : Int32) (f_token : Int32) (f_number : Int32) (f_sign : Int32) (f_word : Int32) (f_wrong : Int32) (f_open : Int32) (f_lines : Int32) (f_acts : Int32) (r_all : Nat → Int32) (x1 : Int32) (x2 : Int32) (Q : Int32 → Prop) (hw : wX11_tell Q x1 x2 r_all) : Met l yX11_tell zsX11_tell rmX11_tell (va_Pc [.ref h, .int x1, .int x2] (fun U => U.heap.size = sz ∧ va_P (dC, dI) vwCl (vX11_tell cI cZ h h_all h_has h_line h_act h_pile h_comes h_leaves h_tried h_met f_size f_next f_where f_token f_number f_sign f_word f_wrong f_open f_lines f_acts r_all) U.heap ∧ va_K (dC, dI) vwCl (tysA cI cZ cO cW) U ∧ va_D (fun _ => True) (vX11_tell cI cZ h h_all h_has h_line h_act h_pile h_comes h_leaves h_tried h_met f_size f_next f_where f_token f_number f_sign f_word f_wrong f_open f_lines f_acts r_all))) (qX11_tell dC dI cI cZ cO cW h h_all h_has h_line h_act h_pile h_comes h_leaves h_tried h_met f_size f_next f_where f_token f_number f_sign f_word f_wrong f_open f_lines f_acts r_all Q (va_A (vX11_tell cI cZ h h_all h_has h_line h_act h_pile h_comes h_leaves h_tried h_met f_size f_next f_where f_token f_number f_sign f_word f_wrong f_open f_lines f_acts r_all) sz)) 0 0 (va_A (vX11_tell cI cZ h h_all h_has h_line h_act h_pile h_comes h_leaves h_tried h_met f_size f_next f_where f_token f_number f_sign f_word f_wrong f_open f_lines f_acts r_all) sz) := by
  refine Met.ofW (cc := cX11_tell) (maxL := 3) (ret := (some .int)) (by decide) rfl ?_
  intro p e s m args below meth c s₁ B hml hv
  obtain ⟨rfl, hsz, hP, hK, hD0⟩ := hv
  subst hsz
  have hC : Cx p s m ([.ref h, .int x1, .int x2] : List Value).toArray meth c cX11_tell (some .int) 3 GW RX11 := ⟨B.exec, B.bytes, B.returns, hml, findClass_of_methodNamed B.named, fun w h => atoms_spec (ws := zsX11_tell) B.pre w (List.mem_cons_of_mem _ h), B.notSynchronized⟩
  have hD := hD0.self (sz := s.heap.size)
  generalize hAe : va_A (vX11_tell cI cZ h h_all h_has h_line h_act h_pile h_comes h_leaves h_tried h_met f_size f_next f_where f_token f_number f_sign f_word f_wrong f_open f_lines f_acts r_all) s.heap.size = A at hD ⊢
  have hA : ∀ q : Nat, s.heap.size ≤ q → A q := fun q h => by rw [← hAe]; exact Or.inr h
  have hl := lv_entry ([.ref h, .int x1, .int x2]) (n := 3) (Nat.le_of_ble_eq_true rfl)
  rw [lg_entry_eq]
  generalize (lg_sl ([.ref h, .int x1, .int x2]) ++ List.replicate (3 - (lg_sl ([.ref h, .int x1, .int x2])).length) Slot.unset).toArray = ls at hl ⊢
  exact tX11_tell_e hC hK hA x1 x2 r_all _ _ ls hw hP hD va_S.rf hl
