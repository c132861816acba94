theorem dX11_rowTo_0 : decode cX11_rowTo 0 = .ok (.iload_n 0, 1) := by decide +kernel
theorem dX11_rowTo_1 : decode cX11_rowTo 1 = .ok (.ifCond .ne 7, 3) := by decide +kernel
theorem dX11_rowTo_4 : decode cX11_rowTo 4 = .ok (.iconst (-1), 1) := by decide +kernel
theorem dX11_rowTo_5 : decode cX11_rowTo 5 = .ok (.goto 13, 3) := by decide +kernel
theorem dX11_rowTo_8 : decode cX11_rowTo 8 = .ok (.iload_n 0, 1) := by decide +kernel
theorem dX11_rowTo_9 : decode cX11_rowTo 9 = .ok (.iconst 2, 1) := by decide +kernel
theorem dX11_rowTo_10 : decode cX11_rowTo 10 = .ok (.if_icmp .ne 7, 3) := by decide +kernel
theorem dX11_rowTo_13 : decode cX11_rowTo 13 = .ok (.iconst 1, 1) := by decide +kernel
theorem dX11_rowTo_14 : decode cX11_rowTo 14 = .ok (.goto 4, 3) := by decide +kernel
theorem dX11_rowTo_17 : decode cX11_rowTo 17 = .ok (.iconst 0, 1) := by decide +kernel
theorem dX11_rowTo_18 : decode cX11_rowTo 18 = .ok (.ireturn, 1) := by decide +kernel

theorem dX11_columnTo_0 : decode cX11_columnTo 0 = .ok (.iload_n 0, 1) := by decide +kernel
theorem dX11_columnTo_1 : decode cX11_columnTo 1 = .ok (.iconst 1, 1) := by decide +kernel
theorem dX11_columnTo_2 : decode cX11_columnTo 2 = .ok (.if_icmp .ne 7, 3) := by decide +kernel
theorem dX11_columnTo_5 : decode cX11_columnTo 5 = .ok (.iconst 1, 1) := by decide +kernel
theorem dX11_columnTo_6 : decode cX11_columnTo 6 = .ok (.goto 13, 3) := by decide +kernel
theorem dX11_columnTo_9 : decode cX11_columnTo 9 = .ok (.iload_n 0, 1) := by decide +kernel
theorem dX11_columnTo_10 : decode cX11_columnTo 10 = .ok (.iconst 3, 1) := by decide +kernel
theorem dX11_columnTo_11 : decode cX11_columnTo 11 = .ok (.if_icmp .ne 7, 3) := by decide +kernel
theorem dX11_columnTo_14 : decode cX11_columnTo 14 = .ok (.iconst (-1), 1) := by decide +kernel
theorem dX11_columnTo_15 : decode cX11_columnTo 15 = .ok (.goto 4, 3) := by decide +kernel
theorem dX11_columnTo_18 : decode cX11_columnTo 18 = .ok (.iconst 0, 1) := by decide +kernel
theorem dX11_columnTo_19 : decode cX11_columnTo 19 = .ok (.ireturn, 1) := by decide +kernel

theorem dX11_burden_0 : decode cX11_burden 0 = .ok (.aload_n 0, 1) := by decide +kernel
theorem dX11_burden_1 : decode cX11_burden 1 = .ok (.iload_n 1, 1) := by decide +kernel
theorem dX11_burden_2 : decode cX11_burden 2 = .ok (.iload_n 2, 1) := by decide +kernel
theorem dX11_burden_3 : decode cX11_burden 3 = .ok (.iconst 3, 1) := by decide +kernel
theorem dX11_burden_4 : decode cX11_burden 4 = .ok (.invokevirtual 51, 3) := by decide +kernel
theorem dX11_burden_7 : decode cX11_burden 7 = .ok (.ifCond .lt 7, 3) := by decide +kernel
theorem dX11_burden_10 : decode cX11_burden 10 = .ok (.iconst 0, 1) := by decide +kernel
theorem dX11_burden_11 : decode cX11_burden 11 = .ok (.goto 20, 3) := by decide +kernel
theorem dX11_burden_14 : decode cX11_burden 14 = .ok (.aload_n 0, 1) := by decide +kernel
theorem dX11_burden_15 : decode cX11_burden 15 = .ok (.iload_n 1, 1) := by decide +kernel
theorem dX11_burden_16 : decode cX11_burden 16 = .ok (.iload_n 2, 1) := by decide +kernel
theorem dX11_burden_17 : decode cX11_burden 17 = .ok (.iconst 1, 1) := by decide +kernel
theorem dX11_burden_18 : decode cX11_burden 18 = .ok (.invokevirtual 51, 3) := by decide +kernel
theorem dX11_burden_21 : decode cX11_burden 21 = .ok (.iconst 2, 1) := by decide +kernel
theorem dX11_burden_22 : decode cX11_burden 22 = .ok (.idiv, 1) := by decide +kernel
theorem dX11_burden_23 : decode cX11_burden 23 = .ok (.aload_n 0, 1) := by decide +kernel
theorem dX11_burden_24 : decode cX11_burden 24 = .ok (.iload_n 1, 1) := by decide +kernel
theorem dX11_burden_25 : decode cX11_burden 25 = .ok (.iload_n 2, 1) := by decide +kernel
theorem dX11_burden_26 : decode cX11_burden 26 = .ok (.iconst 2, 1) := by decide +kernel
theorem dX11_burden_27 : decode cX11_burden 27 = .ok (.invokevirtual 51, 3) := by decide +kernel
theorem dX11_burden_30 : decode cX11_burden 30 = .ok (.iadd, 1) := by decide +kernel
theorem dX11_burden_31 : decode cX11_burden 31 = .ok (.ireturn, 1) := by decide +kernel

theorem dX11_beside_0 : decode cX11_beside 0 = .ok (.aload_n 0, 1) := by decide +kernel
theorem dX11_beside_1 : decode cX11_beside 1 = .ok (.aload_n 0, 1) := by decide +kernel
theorem dX11_beside_2 : decode cX11_beside 2 = .ok (.iload_n 1, 1) := by decide +kernel
theorem dX11_beside_3 : decode cX11_beside 3 = .ok (.iconst 2, 1) := by decide +kernel
theorem dX11_beside_4 : decode cX11_beside 4 = .ok (.invokevirtual 55, 3) := by decide +kernel
theorem dX11_beside_7 : decode cX11_beside 7 = .ok (.iload_n 2, 1) := by decide +kernel
theorem dX11_beside_8 : decode cX11_beside 8 = .ok (.invokestatic 196, 3) := by decide +kernel
theorem dX11_beside_11 : decode cX11_beside 11 = .ok (.iadd, 1) := by decide +kernel
theorem dX11_beside_12 : decode cX11_beside 12 = .ok (.aload_n 0, 1) := by decide +kernel
theorem dX11_beside_13 : decode cX11_beside 13 = .ok (.iload_n 1, 1) := by decide +kernel
theorem dX11_beside_14 : decode cX11_beside 14 = .ok (.iconst 3, 1) := by decide +kernel
theorem dX11_beside_15 : decode cX11_beside 15 = .ok (.invokevirtual 55, 3) := by decide +kernel
theorem dX11_beside_18 : decode cX11_beside 18 = .ok (.iload_n 2, 1) := by decide +kernel
theorem dX11_beside_19 : decode cX11_beside 19 = .ok (.invokestatic 199, 3) := by decide +kernel
theorem dX11_beside_22 : decode cX11_beside 22 = .ok (.iadd, 1) := by decide +kernel
theorem dX11_beside_23 : decode cX11_beside 23 = .ok (.invokevirtual 59, 3) := by decide +kernel
theorem dX11_beside_26 : decode cX11_beside 26 = .ok (.ireturn, 1) := by decide +kernel

theorem dX11_isHeld_0 : decode cX11_isHeld 0 = .ok (.aload_n 0, 1) := by decide +kernel
theorem dX11_isHeld_1 : decode cX11_isHeld 1 = .ok (.aload_n 0, 1) := by decide +kernel
theorem dX11_isHeld_2 : decode cX11_isHeld 2 = .ok (.iload_n 1, 1) := by decide +kernel
theorem dX11_isHeld_3 : decode cX11_isHeld 3 = .ok (.iconst 2, 1) := by decide +kernel
theorem dX11_isHeld_4 : decode cX11_isHeld 4 = .ok (.invokevirtual 55, 3) := by decide +kernel
theorem dX11_isHeld_7 : decode cX11_isHeld 7 = .ok (.aload_n 0, 1) := by decide +kernel
theorem dX11_isHeld_8 : decode cX11_isHeld 8 = .ok (.iload_n 1, 1) := by decide +kernel
theorem dX11_isHeld_9 : decode cX11_isHeld 9 = .ok (.iconst 3, 1) := by decide +kernel
theorem dX11_isHeld_10 : decode cX11_isHeld 10 = .ok (.invokevirtual 55, 3) := by decide +kernel
theorem dX11_isHeld_13 : decode cX11_isHeld 13 = .ok (.invokevirtual 202, 3) := by decide +kernel
theorem dX11_isHeld_16 : decode cX11_isHeld 16 = .ok (.aload_n 0, 1) := by decide +kernel
theorem dX11_isHeld_17 : decode cX11_isHeld 17 = .ok (.iload_n 1, 1) := by decide +kernel
theorem dX11_isHeld_18 : decode cX11_isHeld 18 = .ok (.iconst 0, 1) := by decide +kernel
theorem dX11_isHeld_19 : decode cX11_isHeld 19 = .ok (.invokevirtual 55, 3) := by decide +kernel
theorem dX11_isHeld_22 : decode cX11_isHeld 22 = .ok (.if_icmp .le 7, 3) := by decide +kernel
theorem dX11_isHeld_25 : decode cX11_isHeld 25 = .ok (.iconst 1, 1) := by decide +kernel
theorem dX11_isHeld_26 : decode cX11_isHeld 26 = .ok (.goto 4, 3) := by decide +kernel
theorem dX11_isHeld_29 : decode cX11_isHeld 29 = .ok (.iconst 0, 1) := by decide +kernel
theorem dX11_isHeld_30 : decode cX11_isHeld 30 = .ok (.istore_n 2, 1) := by decide +kernel
theorem dX11_isHeld_31 : decode cX11_isHeld 31 = .ok (.iconst 0, 1) := by decide +kernel
theorem dX11_isHeld_32 : decode cX11_isHeld 32 = .ok (.istore_n 3, 1) := by decide +kernel
theorem dX11_isHeld_33 : decode cX11_isHeld 33 = .ok (.iload_n 3, 1) := by decide +kernel
theorem dX11_isHeld_34 : decode cX11_isHeld 34 = .ok (.iconst 4, 1) := by decide +kernel
theorem dX11_isHeld_35 : decode cX11_isHeld 35 = .ok (.if_icmp .ge 35, 3) := by decide +kernel
theorem dX11_isHeld_38 : decode cX11_isHeld 38 = .ok (.aload_n 0, 1) := by decide +kernel
theorem dX11_isHeld_39 : decode cX11_isHeld 39 = .ok (.iload_n 1, 1) := by decide +kernel
theorem dX11_isHeld_40 : decode cX11_isHeld 40 = .ok (.iload_n 3, 1) := by decide +kernel
theorem dX11_isHeld_41 : decode cX11_isHeld 41 = .ok (.invokevirtual 205, 3) := by decide +kernel
theorem dX11_isHeld_44 : decode cX11_isHeld 44 = .ok (.istore 4, 2) := by decide +kernel
theorem dX11_isHeld_46 : decode cX11_isHeld 46 = .ok (.iload 4, 2) := by decide +kernel
theorem dX11_isHeld_48 : decode cX11_isHeld 48 = .ok (.ifCond .lt 16, 3) := by decide +kernel
theorem dX11_isHeld_51 : decode cX11_isHeld 51 = .ok (.aload_n 0, 1) := by decide +kernel
theorem dX11_isHeld_52 : decode cX11_isHeld 52 = .ok (.iload 4, 2) := by decide +kernel
theorem dX11_isHeld_54 : decode cX11_isHeld 54 = .ok (.iconst 1, 1) := by decide +kernel
theorem dX11_isHeld_55 : decode cX11_isHeld 55 = .ok (.invokevirtual 55, 3) := by decide +kernel
theorem dX11_isHeld_58 : decode cX11_isHeld 58 = .ok (.iconst (-1), 1) := by decide +kernel
theorem dX11_isHeld_59 : decode cX11_isHeld 59 = .ok (.if_icmp .eq 5, 3) := by decide +kernel
theorem dX11_isHeld_62 : decode cX11_isHeld 62 = .ok (.iconst 0, 1) := by decide +kernel
theorem dX11_isHeld_63 : decode cX11_isHeld 63 = .ok (.istore_n 2, 1) := by decide +kernel
theorem dX11_isHeld_64 : decode cX11_isHeld 64 = .ok (.iinc 3 1, 3) := by decide +kernel
theorem dX11_isHeld_67 : decode cX11_isHeld 67 = .ok (.goto (-34), 3) := by decide +kernel
theorem dX11_isHeld_70 : decode cX11_isHeld 70 = .ok (.iload_n 2, 1) := by decide +kernel
theorem dX11_isHeld_71 : decode cX11_isHeld 71 = .ok (.ireturn, 1) := by decide +kernel

theorem dX11_there_0 : decode cX11_there 0 = .ok (.aload_n 0, 1) := by decide +kernel
theorem dX11_there_1 : decode cX11_there 1 = .ok (.iload_n 1, 1) := by decide +kernel
theorem dX11_there_2 : decode cX11_there 2 = .ok (.iconst 2, 1) := by decide +kernel
theorem dX11_there_3 : decode cX11_there 3 = .ok (.invokevirtual 55, 3) := by decide +kernel
theorem dX11_there_6 : decode cX11_there 6 = .ok (.iload_n 2, 1) := by decide +kernel
theorem dX11_there_7 : decode cX11_there 7 = .ok (.invokestatic 196, 3) := by decide +kernel
theorem dX11_there_10 : decode cX11_there 10 = .ok (.iadd, 1) := by decide +kernel
theorem dX11_there_11 : decode cX11_there 11 = .ok (.istore_n 3, 1) := by decide +kernel
theorem dX11_there_12 : decode cX11_there 12 = .ok (.aload_n 0, 1) := by decide +kernel
theorem dX11_there_13 : decode cX11_there 13 = .ok (.iload_n 1, 1) := by decide +kernel
theorem dX11_there_14 : decode cX11_there 14 = .ok (.iconst 3, 1) := by decide +kernel
theorem dX11_there_15 : decode cX11_there 15 = .ok (.invokevirtual 55, 3) := by decide +kernel
theorem dX11_there_18 : decode cX11_there 18 = .ok (.iload_n 2, 1) := by decide +kernel
theorem dX11_there_19 : decode cX11_there 19 = .ok (.invokestatic 199, 3) := by decide +kernel
theorem dX11_there_22 : decode cX11_there 22 = .ok (.iadd, 1) := by decide +kernel
theorem dX11_there_23 : decode cX11_there 23 = .ok (.istore 4, 2) := by decide +kernel
theorem dX11_there_25 : decode cX11_there 25 = .ok (.aload_n 0, 1) := by decide +kernel
theorem dX11_there_26 : decode cX11_there 26 = .ok (.iload_n 3, 1) := by decide +kernel
theorem dX11_there_27 : decode cX11_there 27 = .ok (.iload 4, 2) := by decide +kernel
theorem dX11_there_29 : decode cX11_there 29 = .ok (.invokevirtual 66, 3) := by decide +kernel
theorem dX11_there_32 : decode cX11_there 32 = .ok (.ifCond .eq 13, 3) := by decide +kernel
theorem dX11_there_35 : decode cX11_there 35 = .ok (.aload_n 0, 1) := by decide +kernel
theorem dX11_there_36 : decode cX11_there 36 = .ok (.iload_n 3, 1) := by decide +kernel
theorem dX11_there_37 : decode cX11_there 37 = .ok (.iload 4, 2) := by decide +kernel
theorem dX11_there_39 : decode cX11_there 39 = .ok (.invokevirtual 59, 3) := by decide +kernel
theorem dX11_there_42 : decode cX11_there 42 = .ok (.ifCond .lt 9, 3) := by decide +kernel
theorem dX11_there_45 : decode cX11_there 45 = .ok (.sipush 999, 3) := by decide +kernel
theorem dX11_there_48 : decode cX11_there 48 = .ok (.goto 10, 3) := by decide +kernel
theorem dX11_there_51 : decode cX11_there 51 = .ok (.aload_n 0, 1) := by decide +kernel
theorem dX11_there_52 : decode cX11_there 52 = .ok (.iload_n 3, 1) := by decide +kernel
theorem dX11_there_53 : decode cX11_there 53 = .ok (.iload 4, 2) := by decide +kernel
theorem dX11_there_55 : decode cX11_there 55 = .ok (.invokevirtual 202, 3) := by decide +kernel
theorem dX11_there_58 : decode cX11_there 58 = .ok (.ireturn, 1) := by decide +kernel

theorem dX11_asked_0 : decode cX11_asked 0 = .ok (.iconst 0, 1) := by decide +kernel
theorem dX11_asked_1 : decode cX11_asked 1 = .ok (.istore_n 3, 1) := by decide +kernel
theorem dX11_asked_2 : decode cX11_asked 2 = .ok (.iload_n 2, 1) := by decide +kernel
theorem dX11_asked_3 : decode cX11_asked 3 = .ok (.tableswitch 185 0 12 #[65, 72, 90, 108, 115, 129, 164, 171, 185, 185, 185, 185, 178], 65) := by decide +kernel
theorem dX11_asked_68 : decode cX11_asked 68 = .ok (.aload_n 0, 1) := by decide +kernel
theorem dX11_asked_69 : decode cX11_asked 69 = .ok (.getfield 8, 3) := by decide +kernel
theorem dX11_asked_72 : decode cX11_asked 72 = .ok (.iconst 3, 1) := by decide +kernel
theorem dX11_asked_73 : decode cX11_asked 73 = .ok (.iaload, 1) := by decide +kernel
theorem dX11_asked_74 : decode cX11_asked 74 = .ok (.ireturn, 1) := by decide +kernel
theorem dX11_asked_75 : decode cX11_asked 75 = .ok (.aload_n 0, 1) := by decide +kernel
theorem dX11_asked_76 : decode cX11_asked 76 = .ok (.aload_n 0, 1) := by decide +kernel
theorem dX11_asked_77 : decode cX11_asked 77 = .ok (.iload_n 1, 1) := by decide +kernel
theorem dX11_asked_78 : decode cX11_asked 78 = .ok (.iconst 2, 1) := by decide +kernel
theorem dX11_asked_79 : decode cX11_asked 79 = .ok (.invokevirtual 55, 3) := by decide +kernel
theorem dX11_asked_82 : decode cX11_asked 82 = .ok (.aload_n 0, 1) := by decide +kernel
theorem dX11_asked_83 : decode cX11_asked 83 = .ok (.iload_n 1, 1) := by decide +kernel
theorem dX11_asked_84 : decode cX11_asked 84 = .ok (.iconst 3, 1) := by decide +kernel
theorem dX11_asked_85 : decode cX11_asked 85 = .ok (.invokevirtual 55, 3) := by decide +kernel
theorem dX11_asked_88 : decode cX11_asked 88 = .ok (.iconst 1, 1) := by decide +kernel
theorem dX11_asked_89 : decode cX11_asked 89 = .ok (.invokevirtual 51, 3) := by decide +kernel
theorem dX11_asked_92 : decode cX11_asked 92 = .ok (.ireturn, 1) := by decide +kernel
theorem dX11_asked_93 : decode cX11_asked 93 = .ok (.aload_n 0, 1) := by decide +kernel
theorem dX11_asked_94 : decode cX11_asked 94 = .ok (.aload_n 0, 1) := by decide +kernel
theorem dX11_asked_95 : decode cX11_asked 95 = .ok (.iload_n 1, 1) := by decide +kernel
theorem dX11_asked_96 : decode cX11_asked 96 = .ok (.iconst 2, 1) := by decide +kernel
theorem dX11_asked_97 : decode cX11_asked 97 = .ok (.invokevirtual 55, 3) := by decide +kernel
theorem dX11_asked_100 : decode cX11_asked 100 = .ok (.aload_n 0, 1) := by decide +kernel
theorem dX11_asked_101 : decode cX11_asked 101 = .ok (.iload_n 1, 1) := by decide +kernel
theorem dX11_asked_102 : decode cX11_asked 102 = .ok (.iconst 3, 1) := by decide +kernel
theorem dX11_asked_103 : decode cX11_asked 103 = .ok (.invokevirtual 55, 3) := by decide +kernel
theorem dX11_asked_106 : decode cX11_asked 106 = .ok (.iconst 2, 1) := by decide +kernel
theorem dX11_asked_107 : decode cX11_asked 107 = .ok (.invokevirtual 51, 3) := by decide +kernel
theorem dX11_asked_110 : decode cX11_asked 110 = .ok (.ireturn, 1) := by decide +kernel
theorem dX11_asked_111 : decode cX11_asked 111 = .ok (.aload_n 0, 1) := by decide +kernel
theorem dX11_asked_112 : decode cX11_asked 112 = .ok (.iload_n 1, 1) := by decide +kernel
theorem dX11_asked_113 : decode cX11_asked 113 = .ok (.iconst 1, 1) := by decide +kernel
theorem dX11_asked_114 : decode cX11_asked 114 = .ok (.invokevirtual 55, 3) := by decide +kernel
theorem dX11_asked_117 : decode cX11_asked 117 = .ok (.ireturn, 1) := by decide +kernel
theorem dX11_asked_118 : decode cX11_asked 118 = .ok (.aload_n 0, 1) := by decide +kernel
theorem dX11_asked_119 : decode cX11_asked 119 = .ok (.iload_n 1, 1) := by decide +kernel
theorem dX11_asked_120 : decode cX11_asked 120 = .ok (.invokevirtual 208, 3) := by decide +kernel
theorem dX11_asked_123 : decode cX11_asked 123 = .ok (.ifCond .eq 7, 3) := by decide +kernel
theorem dX11_asked_126 : decode cX11_asked 126 = .ok (.iconst 1, 1) := by decide +kernel
theorem dX11_asked_127 : decode cX11_asked 127 = .ok (.goto 4, 3) := by decide +kernel
theorem dX11_asked_130 : decode cX11_asked 130 = .ok (.iconst 0, 1) := by decide +kernel
theorem dX11_asked_131 : decode cX11_asked 131 = .ok (.ireturn, 1) := by decide +kernel
theorem dX11_asked_132 : decode cX11_asked 132 = .ok (.iconst 0, 1) := by decide +kernel
theorem dX11_asked_133 : decode cX11_asked 133 = .ok (.istore 4, 2) := by decide +kernel
theorem dX11_asked_135 : decode cX11_asked 135 = .ok (.iload 4, 2) := by decide +kernel
theorem dX11_asked_137 : decode cX11_asked 137 = .ok (.iconst 4, 1) := by decide +kernel
theorem dX11_asked_138 : decode cX11_asked 138 = .ok (.if_icmp .ge 27, 3) := by decide +kernel
theorem dX11_asked_141 : decode cX11_asked 141 = .ok (.iload_n 3, 1) := by decide +kernel
theorem dX11_asked_142 : decode cX11_asked 142 = .ok (.aload_n 0, 1) := by decide +kernel
theorem dX11_asked_143 : decode cX11_asked 143 = .ok (.iload_n 1, 1) := by decide +kernel
theorem dX11_asked_144 : decode cX11_asked 144 = .ok (.iload 4, 2) := by decide +kernel
theorem dX11_asked_146 : decode cX11_asked 146 = .ok (.invokevirtual 205, 3) := by decide +kernel
theorem dX11_asked_149 : decode cX11_asked 149 = .ok (.ifCond .lt 7, 3) := by decide +kernel
theorem dX11_asked_152 : decode cX11_asked 152 = .ok (.iconst 1, 1) := by decide +kernel
theorem dX11_asked_153 : decode cX11_asked 153 = .ok (.goto 4, 3) := by decide +kernel
theorem dX11_asked_156 : decode cX11_asked 156 = .ok (.iconst 0, 1) := by decide +kernel
theorem dX11_asked_157 : decode cX11_asked 157 = .ok (.iadd, 1) := by decide +kernel
theorem dX11_asked_158 : decode cX11_asked 158 = .ok (.istore_n 3, 1) := by decide +kernel
theorem dX11_asked_159 : decode cX11_asked 159 = .ok (.iinc 4 1, 3) := by decide +kernel
theorem dX11_asked_162 : decode cX11_asked 162 = .ok (.goto (-27), 3) := by decide +kernel
theorem dX11_asked_165 : decode cX11_asked 165 = .ok (.iload_n 3, 1) := by decide +kernel
theorem dX11_asked_166 : decode cX11_asked 166 = .ok (.ireturn, 1) := by decide +kernel
theorem dX11_asked_167 : decode cX11_asked 167 = .ok (.aload_n 0, 1) := by decide +kernel
theorem dX11_asked_168 : decode cX11_asked 168 = .ok (.iload_n 1, 1) := by decide +kernel
theorem dX11_asked_169 : decode cX11_asked 169 = .ok (.iconst 2, 1) := by decide +kernel
theorem dX11_asked_170 : decode cX11_asked 170 = .ok (.invokevirtual 55, 3) := by decide +kernel
theorem dX11_asked_173 : decode cX11_asked 173 = .ok (.ireturn, 1) := by decide +kernel
theorem dX11_asked_174 : decode cX11_asked 174 = .ok (.aload_n 0, 1) := by decide +kernel
theorem dX11_asked_175 : decode cX11_asked 175 = .ok (.iload_n 1, 1) := by decide +kernel
theorem dX11_asked_176 : decode cX11_asked 176 = .ok (.iconst 3, 1) := by decide +kernel
theorem dX11_asked_177 : decode cX11_asked 177 = .ok (.invokevirtual 55, 3) := by decide +kernel
theorem dX11_asked_180 : decode cX11_asked 180 = .ok (.ireturn, 1) := by decide +kernel
theorem dX11_asked_181 : decode cX11_asked 181 = .ok (.aload_n 0, 1) := by decide +kernel
theorem dX11_asked_182 : decode cX11_asked 182 = .ok (.iload_n 1, 1) := by decide +kernel
theorem dX11_asked_183 : decode cX11_asked 183 = .ok (.iconst 4, 1) := by decide +kernel
theorem dX11_asked_184 : decode cX11_asked 184 = .ok (.invokevirtual 55, 3) := by decide +kernel
theorem dX11_asked_187 : decode cX11_asked 187 = .ok (.ireturn, 1) := by decide +kernel
theorem dX11_asked_188 : decode cX11_asked 188 = .ok (.aload_n 0, 1) := by decide +kernel
theorem dX11_asked_189 : decode cX11_asked 189 = .ok (.iload_n 1, 1) := by decide +kernel
theorem dX11_asked_190 : decode cX11_asked 190 = .ok (.iload_n 2, 1) := by decide +kernel
theorem dX11_asked_191 : decode cX11_asked 191 = .ok (.bipush 8, 2) := by decide +kernel
theorem dX11_asked_193 : decode cX11_asked 193 = .ok (.isub, 1) := by decide +kernel
theorem dX11_asked_194 : decode cX11_asked 194 = .ok (.invokevirtual 211, 3) := by decide +kernel
theorem dX11_asked_197 : decode cX11_asked 197 = .ok (.ireturn, 1) := by decide +kernel

/-! X11_rowTo -/
def wX11_rowTo (Q : Int32 → Prop) (x0 : Int32)  : Prop :=
  ((¬ x0 = 0 → ((¬ x0 = (2 : Int32) → (Q (0 : Int32))) ∧ (x0 = (2 : Int32) → (Q (1 : Int32))))) ∧ (x0 = 0 → (Q (-1 : Int32))))
abbrev rmX11_rowTo : Room := { frames := 0, cells := 0, slots := 0, locals := 0 }
abbrev qX11_rowTo (dC : Nat → ClassId) (dI : Nat → Nat → Nat) (cI cZ cO cW : ClassId)  (Q : Int32 → Prop) (A : Nat → Prop) : Array Value → State → Outcome → State → Prop := va_Qi (fun (r : Int32) (u : Unit) => Q r) (fun (u : Unit) (t : State) => va_P (dC, dI) vwCl ([] : va_W) t.heap ∧ va_K (dC, dI) vwCl (tysA cI cZ cO cW) t ∧ va_D A ([] : va_W)) A
def zsX11_rowTo : List Cond := Cond.code yX11_rowTo cX11_rowTo 1 (some .int) :: GW
set_option maxHeartbeats 4000000 in
set_option maxRecDepth 100000 in
theorem tX11_rowTo_e {p : Program} {l : Launch} {e : Env} {s : State} {m : MethodId} {args : Array Value} {below : List Frame} {meth : Method} {c : Code} {dC : Nat → ClassId} {dI : Nat → Nat → Nat} {cI cZ cO cW : ClassId} {A : Nat → Prop} {Q : Int32 → Prop} (hC : Cx p s m args meth c cX11_rowTo (some .int) 1 GW RX11) (hK : va_K (dC, dI) vwCl (tysA cI cZ cO cW) s) (hA : ∀ q : Nat, s.heap.size ≤ q → A q) :
    ∀ (x0 : Int32) (H : Heap) (locs : List Loc) (ls : Array Slot), wX11_rowTo Q x0  → va_P (dC, dI) vwCl ([] : va_W) H → va_D A ([] : va_W) → va_S A s.heap H locs → lv_has ls 1 [(0, .int x0)] → W p l e rmX11_rowTo s m args below meth c H locs 0 0 (MQ below (qX11_rowTo dC dI cI cZ cO cW Q A) args s 0 0 A) (F0 m 0 ls []) := by
  obtain ⟨hx, hb, hr, hml, hown, hts, hlocks⟩ := id hC
  intro x0 H locs ls hw hP hD hS hl
  refine lv_iload_n hx hb dX11_rowTo_0 rfl (lv_at hl 0 rfl) ?_
  refine lv_if_ne (tgt := 8) hx hb dX11_rowTo_1 (by decide) (fun c_1 => ?_) (fun c_1 => ?_)
  · have hw := hw.1 c_1
    refine lv_iload_n hx hb dX11_rowTo_8 rfl (lv_at hl 0 rfl) ?_
    refine lv_iconst (v := (2 : Int32)) hx hb dX11_rowTo_9 (by decide) ?_
    refine lv_icmp_ne (tgt := 17) hx hb dX11_rowTo_10 (by decide) (fun c_2 => ?_) (fun c_2 => ?_)
    · have hw := hw.1 c_2
      refine lv_iconst (v := (0 : Int32)) hx hb dX11_rowTo_17 (by decide) ?_
      have hP9 := hP.sub (ws' := ([] : va_W)) [] rfl
      have hD9 := hD.sub (ws' := ([] : va_W)) [] (by decide) rfl
      exact W.iret (v := (0 : Int32)) hx hb hr (fun t ht hW => ⟨⟨(0 : Int32), (), rfl, hw, by rw [ht]; exact hP9, va_K.moved hW.alike hK, hD9⟩, hS.F ht⟩) hS.2.2 dX11_rowTo_18
    · have hw := hw.2 c_2
      refine lv_iconst (v := (1 : Int32)) hx hb dX11_rowTo_13 (by decide) ?_
      refine lv_goto (tgt := 18) hx hb dX11_rowTo_14 (by decide) ?_
      have hP9 := hP.sub (ws' := ([] : va_W)) [] rfl
      have hD9 := hD.sub (ws' := ([] : va_W)) [] (by decide) rfl
      exact W.iret (v := (1 : Int32)) hx hb hr (fun t ht hW => ⟨⟨(1 : Int32), (), rfl, hw, by rw [ht]; exact hP9, va_K.moved hW.alike hK, hD9⟩, hS.F ht⟩) hS.2.2 dX11_rowTo_18
  · have hw := hw.2 c_1
    refine lv_iconst (v := (-1 : Int32)) hx hb dX11_rowTo_4 (by decide) ?_
    refine lv_goto (tgt := 18) hx hb dX11_rowTo_5 (by decide) ?_
    have hP9 := hP.sub (ws' := ([] : va_W)) [] rfl
    have hD9 := hD.sub (ws' := ([] : va_W)) [] (by decide) rfl
    exact W.iret (v := (-1 : Int32)) hx hb hr (fun t ht hW => ⟨⟨(-1 : Int32), (), rfl, hw, by rw [ht]; exact hP9, va_K.moved hW.alike hK, hD9⟩, hS.F ht⟩) hS.2.2 dX11_rowTo_18
set_option maxHeartbeats 4000000 in
set_option maxRecDepth 100000 in
theorem kX11_rowTo (l : Launch) (dC : Nat → ClassId) (dI : Nat → Nat → Nat) (cI cZ cO cW : ClassId)  (sz : Nat)  (x0 : Int32) (Q : Int32 → Prop) (hw : wX11_rowTo Q x0 ) : Met l yX11_rowTo zsX11_rowTo rmX11_rowTo (va_Pc [.int x0] (fun U => U.heap.size = sz ∧ va_P (dC, dI) vwCl ([] : va_W) U.heap ∧ va_K (dC, dI) vwCl (tysA cI cZ cO cW) U ∧ va_D (fun _ => True) ([] : va_W))) (qX11_rowTo dC dI cI cZ cO cW Q (va_A ([] : va_W) sz)) 0 0 (va_A ([] : va_W) sz) := by
  refine Met.ofW (cc := cX11_rowTo) (maxL := 1) (ret := (some .int)) (by decide) rfl ?_
  intro p e s m args below meth c s₁ B hml hv
  obtain ⟨rfl, hsz, hP, hK, hD0⟩ := hv
  subst hsz
  have hC : Cx p s m ([.int x0] : List Value).toArray meth c cX11_rowTo (some .int) 1 GW RX11 := ⟨B.exec, B.bytes, B.returns, hml, findClass_of_methodNamed B.named, fun w h => atoms_spec (ws := zsX11_rowTo) B.pre w (List.mem_cons_of_mem _ h), B.notSynchronized⟩
  have hD := hD0.self (sz := s.heap.size)
  generalize hAe : va_A ([] : va_W) s.heap.size = A at hD ⊢
  have hA : ∀ q : Nat, s.heap.size ≤ q → A q := fun q h => by rw [← hAe]; exact Or.inr h
  have hl := lv_entry ([.int x0]) (n := 1) (Nat.le_of_ble_eq_true rfl)
  rw [lg_entry_eq]
  generalize (lg_sl ([.int x0]) ++ List.replicate (1 - (lg_sl ([.int x0])).length) Slot.unset).toArray = ls at hl ⊢
  exact tX11_rowTo_e hC hK hA x0 _ _ ls hw hP hD va_S.rf hl

/-! X11_columnTo -/
def wX11_columnTo (Q : Int32 → Prop) (x0 : Int32)  : Prop :=
  ((¬ x0 = (1 : Int32) → ((¬ x0 = (3 : Int32) → (Q (0 : Int32))) ∧ (x0 = (3 : Int32) → (Q (-1 : Int32))))) ∧ (x0 = (1 : Int32) → (Q (1 : Int32))))
abbrev rmX11_columnTo : Room := { frames := 0, cells := 0, slots := 0, locals := 0 }
abbrev qX11_columnTo (dC : Nat → ClassId) (dI : Nat → Nat → Nat) (cI cZ cO cW : ClassId)  (Q : Int32 → Prop) (A : Nat → Prop) : Array Value → State → Outcome → State → Prop := va_Qi (fun (r : Int32) (u : Unit) => Q r) (fun (u : Unit) (t : State) => va_P (dC, dI) vwCl ([] : va_W) t.heap ∧ va_K (dC, dI) vwCl (tysA cI cZ cO cW) t ∧ va_D A ([] : va_W)) A
def zsX11_columnTo : List Cond := Cond.code yX11_columnTo cX11_columnTo 1 (some .int) :: GW
set_option maxHeartbeats 4000000 in
set_option maxRecDepth 100000 in
theorem tX11_columnTo_e {p : Program} {l : Launch} {e : Env} {s : State} {m : MethodId} {args : Array Value} {below : List Frame} {meth : Method} {c : Code} {dC : Nat → ClassId} {dI : Nat → Nat → Nat} {cI cZ cO cW : ClassId} {A : Nat → Prop} {Q : Int32 → Prop} (hC : Cx p s m args meth c cX11_columnTo (some .int) 1 GW RX11) (hK : va_K (dC, dI) vwCl (tysA cI cZ cO cW) s) (hA : ∀ q : Nat, s.heap.size ≤ q → A q) :
    ∀ (x0 : Int32) (H : Heap) (locs : List Loc) (ls : Array Slot), wX11_columnTo Q x0  → va_P (dC, dI) vwCl ([] : va_W) H → va_D A ([] : va_W) → va_S A s.heap H locs → lv_has ls 1 [(0, .int x0)] → W p l e rmX11_columnTo s m args below meth c H locs 0 0 (MQ below (qX11_columnTo dC dI cI cZ cO cW Q A) args s 0 0 A) (F0 m 0 ls []) := by
  obtain ⟨hx, hb, hr, hml, hown, hts, hlocks⟩ := id hC
  intro x0 H locs ls hw hP hD hS hl
  refine lv_iload_n hx hb dX11_columnTo_0 rfl (lv_at hl 0 rfl) ?_
  refine lv_iconst (v := (1 : Int32)) hx hb dX11_columnTo_1 (by decide) ?_
  refine lv_icmp_ne (tgt := 9) hx hb dX11_columnTo_2 (by decide) (fun c_1 => ?_) (fun c_1 => ?_)
  · have hw := hw.1 c_1
    refine lv_iload_n hx hb dX11_columnTo_9 rfl (lv_at hl 0 rfl) ?_
    refine lv_iconst (v := (3 : Int32)) hx hb dX11_columnTo_10 (by decide) ?_
    refine lv_icmp_ne (tgt := 18) hx hb dX11_columnTo_11 (by decide) (fun c_2 => ?_) (fun c_2 => ?_)
    · have hw := hw.1 c_2
      refine lv_iconst (v := (0 : Int32)) hx hb dX11_columnTo_18 (by decide) ?_
      have hP9 := hP.sub (ws' := ([] : va_W)) [] rfl
      have hD9 := hD.sub (ws' := ([] : va_W)) [] (by decide) rfl
      exact W.iret (v := (0 : Int32)) hx hb hr (fun t ht hW => ⟨⟨(0 : Int32), (), rfl, hw, by rw [ht]; exact hP9, va_K.moved hW.alike hK, hD9⟩, hS.F ht⟩) hS.2.2 dX11_columnTo_19
    · have hw := hw.2 c_2
      refine lv_iconst (v := (-1 : Int32)) hx hb dX11_columnTo_14 (by decide) ?_
      refine lv_goto (tgt := 19) hx hb dX11_columnTo_15 (by decide) ?_
      have hP9 := hP.sub (ws' := ([] : va_W)) [] rfl
      have hD9 := hD.sub (ws' := ([] : va_W)) [] (by decide) rfl
      exact W.iret (v := (-1 : Int32)) hx hb hr (fun t ht hW => ⟨⟨(-1 : Int32), (), rfl, hw, by rw [ht]; exact hP9, va_K.moved hW.alike hK, hD9⟩, hS.F ht⟩) hS.2.2 dX11_columnTo_19
  · have hw := hw.2 c_1
    refine lv_iconst (v := (1 : Int32)) hx hb dX11_columnTo_5 (by decide) ?_
    refine lv_goto (tgt := 19) hx hb dX11_columnTo_6 (by decide) ?_
    have hP9 := hP.sub (ws' := ([] : va_W)) [] rfl
    have hD9 := hD.sub (ws' := ([] : va_W)) [] (by decide) rfl
    exact W.iret (v := (1 : Int32)) hx hb hr (fun t ht hW => ⟨⟨(1 : Int32), (), rfl, hw, by rw [ht]; exact hP9, va_K.moved hW.alike hK, hD9⟩, hS.F ht⟩) hS.2.2 dX11_columnTo_19
set_option maxHeartbeats 4000000 in
set_option maxRecDepth 100000 in
theorem kX11_columnTo (l : Launch) (dC : Nat → ClassId) (dI : Nat → Nat → Nat) (cI cZ cO cW : ClassId)  (sz : Nat)  (x0 : Int32) (Q : Int32 → Prop) (hw : wX11_columnTo Q x0 ) : Met l yX11_columnTo zsX11_columnTo rmX11_columnTo (va_Pc [.int x0] (fun U => U.heap.size = sz ∧ va_P (dC, dI) vwCl ([] : va_W) U.heap ∧ va_K (dC, dI) vwCl (tysA cI cZ cO cW) U ∧ va_D (fun _ => True) ([] : va_W))) (qX11_columnTo dC dI cI cZ cO cW Q (va_A ([] : va_W) sz)) 0 0 (va_A ([] : va_W) sz) := by
  refine Met.ofW (cc := cX11_columnTo) (maxL := 1) (ret := (some .int)) (by decide) rfl ?_
  intro p e s m args below meth c s₁ B hml hv
  obtain ⟨rfl, hsz, hP, hK, hD0⟩ := hv
  subst hsz
  have hC : Cx p s m ([.int x0] : List Value).toArray meth c cX11_columnTo (some .int) 1 GW RX11 := ⟨B.exec, B.bytes, B.returns, hml, findClass_of_methodNamed B.named, fun w h => atoms_spec (ws := zsX11_columnTo) B.pre w (List.mem_cons_of_mem _ h), B.notSynchronized⟩
  have hD := hD0.self (sz := s.heap.size)
  generalize hAe : va_A ([] : va_W) s.heap.size = A at hD ⊢
  have hA : ∀ q : Nat, s.heap.size ≤ q → A q := fun q h => by rw [← hAe]; exact Or.inr h
  have hl := lv_entry ([.int x0]) (n := 1) (Nat.le_of_ble_eq_true rfl)
  rw [lg_entry_eq]
  generalize (lg_sl ([.int x0]) ++ List.replicate (1 - (lg_sl ([.int x0])).length) Slot.unset).toArray = ls at hl ⊢
  exact tX11_columnTo_e hC hK hA x0 _ _ ls hw hP hD va_S.rf hl

/-! X11_burden -/
def wX11_burden (Q : Int32 → Prop) (x1 : Int32) (x2 : Int32) (r_all : Nat → Int32) : Prop :=
  (wX11_of (fun r_1 => ((r_1 < 0 → (wX11_of (fun r_3 => (wX11_of (fun r_4 => (Q ((r_3 / (2 : Int32)) + r_4))) x1 x2 (2 : Int32) r_all)) x1 x2 (1 : Int32) r_all)) ∧ (¬ r_1 < 0 → (Q (0 : Int32))))) x1 x2 (3 : Int32) r_all)
abbrev vX11_burden (cI cZ : ClassId) (h h_all h_has h_line h_act h_pile h_comes h_leaves h_tried h_met : Nat) (f_size : Int32) (f_next : Int32) (f_where : Int32) (f_token : Int32) (f_number : Int32) (f_sign : Int32) (f_word : Int32) (f_wrong : Int32) (f_open : Int32) (f_lines : Int32) (f_acts : Int32) (r_all : Nat → Int32) : va_W := [(h, .inr (10, [.ref h_all, .ref h_has, .int f_size, .int f_next, .int f_where, .int f_token, .int f_number, .int f_sign, .int f_word, .int f_wrong, .int f_open, .int f_lines, .int f_acts, .ref h_line, .ref h_act, .ref h_pile, .ref h_comes, .ref h_leaves, .ref h_tried, .ref h_met])), (h_all, .inl (cI, 53700, .inl r_all))]
abbrev rmX11_burden : Room := { frames := 1, cells := 0, slots := 0, locals := 23 }
abbrev qX11_burden (dC : Nat → ClassId) (dI : Nat → Nat → Nat) (cI cZ cO cW : ClassId) (h h_all h_has h_line h_act h_pile h_comes h_leaves h_tried h_met : Nat) (f_size : Int32) (f_next : Int32) (f_where : Int32) (f_token : Int32) (f_number : Int32) (f_sign : Int32) (f_word : Int32) (f_wrong : Int32) (f_open : Int32) (f_lines : Int32) (f_acts : Int32) (r_all : Nat → Int32) (Q : Int32 → Prop) (A : Nat → Prop) : Array Value → State → Outcome → State → Prop := va_Qi (fun (r : Int32) (u : Unit) => Q r) (fun (u : Unit) (t : State) => va_P (dC, dI) vwCl (vX11_burden cI cZ h h_all h_has h_line h_act h_pile h_comes h_leaves h_tried h_met f_size f_next f_where f_token f_number f_sign f_word f_wrong f_open f_lines f_acts r_all) t.heap ∧ va_K (dC, dI) vwCl (tysA cI cZ cO cW) t ∧ va_D A (vX11_burden cI cZ h h_all h_has h_line h_act h_pile h_comes h_leaves h_tried h_met f_size f_next f_where f_token f_number f_sign f_word f_wrong f_open f_lines f_acts r_all)) A
def zsX11_burden : List Cond := Cond.code yX11_burden cX11_burden 3 (some .int) :: GW
set_option maxHeartbeats 4000000 in
set_option maxRecDepth 100000 in
theorem tX11_burden_e {p : Program} {l : Launch} {e : Env} {s : State} {m : MethodId} {args : Array Value} {below : List Frame} {meth : Method} {c : Code} {dC : Nat → ClassId} {dI : Nat → Nat → Nat} {cI cZ cO cW : ClassId} {A : Nat → Prop} {h h_all h_has h_line h_act h_pile h_comes h_leaves h_tried h_met : Nat} {f_size f_next f_where f_token f_number f_sign f_word f_wrong f_open f_lines f_acts : Int32} {Q : Int32 → Prop} (hC : Cx p s m args meth c cX11_burden (some .int) 3 GW RX11) (hK : va_K (dC, dI) vwCl (tysA cI cZ cO cW) s) (hA : ∀ q : Nat, s.heap.size ≤ q → A q) :
    ∀ (x1 : Int32) (x2 : Int32) (r_all : Nat → Int32) (H : Heap) (locs : List Loc) (ls : Array Slot), wX11_burden Q x1 x2 r_all → va_P (dC, dI) vwCl (vX11_burden cI cZ h h_all h_has h_line h_act h_pile h_comes h_leaves h_tried h_met f_size f_next f_where f_token f_number f_sign f_word f_wrong f_open f_lines f_acts r_all) H → va_D A (vX11_burden cI cZ h h_all h_has h_line h_act h_pile h_comes h_leaves h_tried h_met f_size f_next f_where f_token f_number f_sign f_word f_wrong f_open f_lines f_acts r_all) → va_S A s.heap H locs → lv_has ls 3 [(0, .ref h), (1, .int x1), (2, .int x2)] → W p l e rmX11_burden s m args below meth c H locs 0 0 (MQ below (qX11_burden dC dI cI cZ cO cW h h_all h_has h_line h_act h_pile h_comes h_leaves h_tried h_met f_size f_next f_where f_token f_number f_sign f_word f_wrong f_open f_lines f_acts r_all Q A) args s 0 0 A) (F0 m 0 ls []) := by
  obtain ⟨hx, hb, hr, hml, hown, hts, hlocks⟩ := id hC
  intro x1 x2 r_all H locs ls hw hP hD hS hl
  refine lv_aload_n hx hb dX11_burden_0 rfl (lv_at hl 0 rfl) ?_
  refine lv_iload_n hx hb dX11_burden_1 rfl (lv_at hl 1 rfl) ?_
  refine lv_iload_n hx hb dX11_burden_2 rfl (lv_at hl 2 rfl) ?_
  refine lv_iconst (v := (3 : Int32)) hx hb dX11_burden_3 (by decide) ?_
  have hPc := hP.sub (ws' := [(h, .inr (10, [.ref h_all, .ref h_has, .int f_size, .int f_next, .int f_where, .int f_token, .int f_number, .int f_sign, .int f_word, .int f_wrong, .int f_open, .int f_lines, .int f_acts, .ref h_line, .ref h_act, .ref h_pile, .ref h_comes, .ref h_leaves, .ref h_tried, .ref h_met])), (h_all, .inl (cI, 53700, .inl r_all))]) [0, 1] rfl
  have hDc := hD.sub (ws' := [(h, .inr (10, [.ref h_all, .ref h_has, .int f_size, .int f_next, .int f_where, .int f_token, .int f_number, .int f_sign, .int f_word, .int f_wrong, .int f_open, .int f_lines, .int f_acts, .ref h_line, .ref h_act, .ref h_pile, .ref h_comes, .ref h_leaves, .ref h_tried, .ref h_met])), (h_all, .inl (cI, 53700, .inl r_all))]) [0, 1] (by decide) rfl
  have hFc := va_free (wc := [(h, .inr (10, [.ref h_all, .ref h_has, .int f_size, .int f_next, .int f_where, .int f_token, .int f_number, .int f_sign, .int f_word, .int f_wrong, .int f_open, .int f_lines, .int f_acts, .ref h_line, .ref h_act, .ref h_pile, .ref h_comes, .ref h_leaves, .ref h_tried, .ref h_met])), (h_all, .inl (cI, 53700, .inl r_all))]) hD hS hA [0, 1] rfl
  refine va_calli (va_runV (As := [.int x1, .int x2, .int (3 : Int32)]) (rest := []) ⟨hx, hb, hml, hown, hts⟩ (kX11_of l dC dI cI cZ cO cW h h_all h_has h_line h_act h_pile h_comes h_leaves h_tried h_met H.size f_size f_next f_where f_token f_number f_sign f_word f_wrong f_open f_lines f_acts r_all x1 x2 (3 : Int32) _ hw) (cwV 3 hts (gV gw_634 gw_635 gw_636 gw_622 (gM gw_628)) rfl rfl rfl (by decide +kernel) ⟨Nat.le_of_ble_eq_true rfl, Nat.le_of_ble_eq_true rfl⟩) (pv_of hPc hK hDc (va_recv hK hPc (ci := 10) (q0 := 0) rfl rfl)) rfl rfl hl.1 rfl (lv_room (Nat.le_of_ble_eq_true rfl)) dX11_burden_4 ⟨Nat.zero_le _, Nat.zero_le _⟩) hS (fun q _ h => hFc q h) hFc (fun r_1 u t H locs ht hvm hw hB hz1 hk1 hS => ?_)
  obtain ⟨hP, hD⟩ := af_join (wr := []) (w1 := [(h, .inr (10, [.ref h_all, .ref h_has, .int f_size, .int f_next, .int f_where, .int f_token, .int f_number, .int f_sign, .int f_word, .int f_wrong, .int f_open, .int f_lines, .int f_acts, .ref h_line, .ref h_act, .ref h_pile, .ref h_comes, .ref h_leaves, .ref h_tried, .ref h_met])), (h_all, .inl (cI, 53700, .inl r_all))]) hB ht hP hD [0, 1] [] rfl rfl (by decide) (by decide) hk1 hFc
  have hP : va_P (dC, dI) vwCl [(h, .inr (10, [.ref h_all, .ref h_has, .int f_size, .int f_next, .int f_where, .int f_token, .int f_number, .int f_sign, .int f_word, .int f_wrong, .int f_open, .int f_lines, .int f_acts, .ref h_line, .ref h_act, .ref h_pile, .ref h_comes, .ref h_leaves, .ref h_tried, .ref h_met])), (h_all, .inl (cI, 53700, .inl r_all))] _ := hP
  have hD : va_D A [(h, .inr (10, [.ref h_all, .ref h_has, .int f_size, .int f_next, .int f_where, .int f_token, .int f_number, .int f_sign, .int f_word, .int f_wrong, .int f_open, .int f_lines, .int f_acts, .ref h_line, .ref h_act, .ref h_pile, .ref h_comes, .ref h_leaves, .ref h_tried, .ref h_met])), (h_all, .inl (cI, 53700, .inl r_all))] := hD
  refine lv_if_lt (tgt := 14) hx hb dX11_burden_7 (by decide) (fun c_2 => ?_) (fun c_2 => ?_)
  · have hw := hw.1 c_2
    refine lv_aload_n hx hb dX11_burden_14 rfl (lv_at hl 0 rfl) ?_
    refine lv_iload_n hx hb dX11_burden_15 rfl (lv_at hl 1 rfl) ?_
    refine lv_iload_n hx hb dX11_burden_16 rfl (lv_at hl 2 rfl) ?_
    refine lv_iconst (v := (1 : Int32)) hx hb dX11_burden_17 (by decide) ?_
    have hPc := hP.sub (ws' := [(h, .inr (10, [.ref h_all, .ref h_has, .int f_size, .int f_next, .int f_where, .int f_token, .int f_number, .int f_sign, .int f_word, .int f_wrong, .int f_open, .int f_lines, .int f_acts, .ref h_line, .ref h_act, .ref h_pile, .ref h_comes, .ref h_leaves, .ref h_tried, .ref h_met])), (h_all, .inl (cI, 53700, .inl r_all))]) [0, 1] rfl
    have hDc := hD.sub (ws' := [(h, .inr (10, [.ref h_all, .ref h_has, .int f_size, .int f_next, .int f_where, .int f_token, .int f_number, .int f_sign, .int f_word, .int f_wrong, .int f_open, .int f_lines, .int f_acts, .ref h_line, .ref h_act, .ref h_pile, .ref h_comes, .ref h_leaves, .ref h_tried, .ref h_met])), (h_all, .inl (cI, 53700, .inl r_all))]) [0, 1] (by decide) rfl
    have hFc := va_free (wc := [(h, .inr (10, [.ref h_all, .ref h_has, .int f_size, .int f_next, .int f_where, .int f_token, .int f_number, .int f_sign, .int f_word, .int f_wrong, .int f_open, .int f_lines, .int f_acts, .ref h_line, .ref h_act, .ref h_pile, .ref h_comes, .ref h_leaves, .ref h_tried, .ref h_met])), (h_all, .inl (cI, 53700, .inl r_all))]) hD hS hA [0, 1] rfl
    refine va_calli (va_runV (As := [.int x1, .int x2, .int (1 : Int32)]) (rest := []) ⟨hx, hb, hml, hown, hts⟩ (kX11_of l dC dI cI cZ cO cW h h_all h_has h_line h_act h_pile h_comes h_leaves h_tried h_met H.size f_size f_next f_where f_token f_number f_sign f_word f_wrong f_open f_lines f_acts r_all x1 x2 (1 : Int32) _ hw) (cwV 3 hts (gV gw_634 gw_635 gw_636 gw_622 (gM gw_628)) rfl rfl rfl (by decide +kernel) ⟨Nat.le_of_ble_eq_true rfl, Nat.le_of_ble_eq_true rfl⟩) (pv_of hPc hK hDc (va_recv hK hPc (ci := 10) (q0 := 0) rfl rfl)) rfl rfl hl.1 rfl (lv_room (Nat.le_of_ble_eq_true rfl)) dX11_burden_18 ⟨Nat.zero_le _, Nat.zero_le _⟩) hS (fun q _ h => hFc q h) hFc (fun r_3 u t H locs ht hvm hw hB hz1 hk1 hS => ?_)
    obtain ⟨hP, hD⟩ := af_join (wr := []) (w1 := [(h, .inr (10, [.ref h_all, .ref h_has, .int f_size, .int f_next, .int f_where, .int f_token, .int f_number, .int f_sign, .int f_word, .int f_wrong, .int f_open, .int f_lines, .int f_acts, .ref h_line, .ref h_act, .ref h_pile, .ref h_comes, .ref h_leaves, .ref h_tried, .ref h_met])), (h_all, .inl (cI, 53700, .inl r_all))]) hB ht hP hD [0, 1] [] rfl rfl (by decide) (by decide) hk1 hFc
    have hP : va_P (dC, dI) vwCl [(h, .inr (10, [.ref h_all, .ref h_has, .int f_size, .int f_next, .int f_where, .int f_token, .int f_number, .int f_sign, .int f_word, .int f_wrong, .int f_open, .int f_lines, .int f_acts, .ref h_line, .ref h_act, .ref h_pile, .ref h_comes, .ref h_leaves, .ref h_tried, .ref h_met])), (h_all, .inl (cI, 53700, .inl r_all))] _ := hP
    have hD : va_D A [(h, .inr (10, [.ref h_all, .ref h_has, .int f_size, .int f_next, .int f_where, .int f_token, .int f_number, .int f_sign, .int f_word, .int f_wrong, .int f_open, .int f_lines, .int f_acts, .ref h_line, .ref h_act, .ref h_pile, .ref h_comes, .ref h_leaves, .ref h_tried, .ref h_met])), (h_all, .inl (cI, 53700, .inl r_all))] := hD
    refine lv_iconst (v := (2 : Int32)) hx hb dX11_burden_21 (by decide) ?_
    refine lv_idiv hx hb dX11_burden_22 (by decide) ?_
    refine lv_aload_n hx hb dX11_burden_23 rfl (lv_at hl 0 rfl) ?_
    refine lv_iload_n hx hb dX11_burden_24 rfl (lv_at hl 1 rfl) ?_
    refine lv_iload_n hx hb dX11_burden_25 rfl (lv_at hl 2 rfl) ?_
    refine lv_iconst (v := (2 : Int32)) hx hb dX11_burden_26 (by decide) ?_
    have hPc := hP.sub (ws' := [(h, .inr (10, [.ref h_all, .ref h_has, .int f_size, .int f_next, .int f_where, .int f_token, .int f_number, .int f_sign, .int f_word, .int f_wrong, .int f_open, .int f_lines, .int f_acts, .ref h_line, .ref h_act, .ref h_pile, .ref h_comes, .ref h_leaves, .ref h_tried, .ref h_met])), (h_all, .inl (cI, 53700, .inl r_all))]) [0, 1] rfl
    have hDc := hD.sub (ws' := [(h, .inr (10, [.ref h_all, .ref h_has, .int f_size, .int f_next, .int f_where, .int f_token, .int f_number, .int f_sign, .int f_word, .int f_wrong, .int f_open, .int f_lines, .int f_acts, .ref h_line, .ref h_act, .ref h_pile, .ref h_comes, .ref h_leaves, .ref h_tried, .ref h_met])), (h_all, .inl (cI, 53700, .inl r_all))]) [0, 1] (by decide) rfl
    have hFc := va_free (wc := [(h, .inr (10, [.ref h_all, .ref h_has, .int f_size, .int f_next, .int f_where, .int f_token, .int f_number, .int f_sign, .int f_word, .int f_wrong, .int f_open, .int f_lines, .int f_acts, .ref h_line, .ref h_act, .ref h_pile, .ref h_comes, .ref h_leaves, .ref h_tried, .ref h_met])), (h_all, .inl (cI, 53700, .inl r_all))]) hD hS hA [0, 1] rfl
    refine va_calli (va_runV (As := [.int x1, .int x2, .int (2 : Int32)]) (rest := [.int (r_3 / (2 : Int32))]) ⟨hx, hb, hml, hown, hts⟩ (kX11_of l dC dI cI cZ cO cW h h_all h_has h_line h_act h_pile h_comes h_leaves h_tried h_met H.size f_size f_next f_where f_token f_number f_sign f_word f_wrong f_open f_lines f_acts r_all x1 x2 (2 : Int32) _ hw) (cwV 3 hts (gV gw_634 gw_635 gw_636 gw_622 (gM gw_628)) rfl rfl rfl (by decide +kernel) ⟨Nat.le_of_ble_eq_true rfl, Nat.le_of_ble_eq_true rfl⟩) (pv_of hPc hK hDc (va_recv hK hPc (ci := 10) (q0 := 0) rfl rfl)) rfl rfl hl.1 rfl (lv_room (Nat.le_of_ble_eq_true rfl)) dX11_burden_27 ⟨Nat.zero_le _, Nat.zero_le _⟩) hS (fun q _ h => hFc q h) hFc (fun r_4 u t H locs ht hvm hw hB hz1 hk1 hS => ?_)
    obtain ⟨hP, hD⟩ := af_join (wr := []) (w1 := [(h, .inr (10, [.ref h_all, .ref h_has, .int f_size, .int f_next, .int f_where, .int f_token, .int f_number, .int f_sign, .int f_word, .int f_wrong, .int f_open, .int f_lines, .int f_acts, .ref h_line, .ref h_act, .ref h_pile, .ref h_comes, .ref h_leaves, .ref h_tried, .ref h_met])), (h_all, .inl (cI, 53700, .inl r_all))]) hB ht hP hD [0, 1] [] rfl rfl (by decide) (by decide) hk1 hFc
    have hP : va_P (dC, dI) vwCl [(h, .inr (10, [.ref h_all, .ref h_has, .int f_size, .int f_next, .int f_where, .int f_token, .int f_number, .int f_sign, .int f_word, .int f_wrong, .int f_open, .int f_lines, .int f_acts, .ref h_line, .ref h_act, .ref h_pile, .ref h_comes, .ref h_leaves, .ref h_tried, .ref h_met])), (h_all, .inl (cI, 53700, .inl r_all))] _ := hP
    have hD : va_D A [(h, .inr (10, [.ref h_all, .ref h_has, .int f_size, .int f_next, .int f_where, .int f_token, .int f_number, .int f_sign, .int f_word, .int f_wrong, .int f_open, .int f_lines, .int f_acts, .ref h_line, .ref h_act, .ref h_pile, .ref h_comes, .ref h_leaves, .ref h_tried, .ref h_met])), (h_all, .inl (cI, 53700, .inl r_all))] := hD
    refine lv_iadd hx hb dX11_burden_30 ?_
    have hP9 := hP.sub (ws' := (vX11_burden cI cZ h h_all h_has h_line h_act h_pile h_comes h_leaves h_tried h_met f_size f_next f_where f_token f_number f_sign f_word f_wrong f_open f_lines f_acts r_all)) [0, 1] rfl
    have hD9 := hD.sub (ws' := (vX11_burden cI cZ h h_all h_has h_line h_act h_pile h_comes h_leaves h_tried h_met f_size f_next f_where f_token f_number f_sign f_word f_wrong f_open f_lines f_acts r_all)) [0, 1] (by decide) rfl
    exact W.iret (v := ((r_3 / (2 : Int32)) + r_4)) hx hb hr (fun t ht hW => ⟨⟨((r_3 / (2 : Int32)) + r_4), (), rfl, hw, by rw [ht]; exact hP9, va_K.moved hW.alike hK, hD9⟩, hS.F ht⟩) hS.2.2 dX11_burden_31
  · have hw := hw.2 c_2
    refine lv_iconst (v := (0 : Int32)) hx hb dX11_burden_10 (by decide) ?_
    refine lv_goto (tgt := 31) hx hb dX11_burden_11 (by decide) ?_
    have hP9 := hP.sub (ws' := (vX11_burden cI cZ h h_all h_has h_line h_act h_pile h_comes h_leaves h_tried h_met f_size f_next f_where f_token f_number f_sign f_word f_wrong f_open f_lines f_acts r_all)) [0, 1] rfl
    have hD9 := hD.sub (ws' := (vX11_burden cI cZ h h_all h_has h_line h_act h_pile h_comes h_leaves h_tried h_met f_size f_next f_where f_token f_number f_sign f_word f_wrong f_open f_lines f_acts r_all)) [0, 1] (by decide) rfl
    exact W.iret (v := (0 : Int32)) hx hb hr (fun t ht hW => ⟨⟨(0 : Int32), (), rfl, hw, by rw [ht]; exact hP9, va_K.moved hW.alike hK, hD9⟩, hS.F ht⟩) hS.2.2 dX11_burden_31
set_option maxHeartbeats 4000000 in
set_option maxRecDepth 100000 in
theorem kX11_burden (l : Launch) (dC : Nat → ClassId) (dI : Nat → Nat → Nat) (cI cZ cO cW : ClassId) (h h_all h_has h_line h_act h_pile h_comes h_leaves h_tried h_met : Nat)  (sz : Nat) (f_size : Int32) (f_next : Int32) (f_where : Int32) (f_token : Int32) (f_number : Int32) (f_sign : Int32) (f_word : Int32) (f_wrong : Int32) (f_open : Int32) (f_lines : Int32) (f_acts : Int32) (r_all : Nat → Int32) (x1 : Int32) (x2 : Int32) (Q : Int32 → Prop) (hw : wX11_burden Q x1 x2 r_all) : Met l yX11_burden zsX11_burden rmX11_burden (va_Pc [.ref h, .int x1, .int x2] (fun U => U.heap.size = sz ∧ va_P (dC, dI) vwCl (vX11_burden cI cZ h h_all h_has h_line h_act h_pile h_comes h_leaves h_tried h_met f_size f_next f_where f_token f_number f_sign f_word f_wrong f_open f_lines f_acts r_all) U.heap ∧ va_K (dC, dI) vwCl (tysA cI cZ cO cW) U ∧ va_D (fun _ => True) (vX11_burden cI cZ h h_all h_has h_line h_act h_pile h_comes h_leaves h_tried h_met f_size f_next f_where f_token f_number f_sign f_word f_wrong f_open f_lines f_acts r_all))) (qX11_burden dC dI cI cZ cO cW h h_all h_has h_line h_act h_pile h_comes h_leaves h_tried h_met f_size f_next f_where f_token f_number f_sign f_word f_wrong f_open f_lines f_acts r_all Q (va_A (vX11_burden cI cZ h h_all h_has h_line h_act h_pile h_comes h_leaves h_tried h_met f_size f_next f_where f_token f_number f_sign f_word f_wrong f_open f_lines f_acts r_all) sz)) 0 0 (va_A (vX11_burden cI cZ h h_all h_has h_line h_act h_pile h_comes h_leaves h_tried h_met f_size f_next f_where f_token f_number f_sign f_word f_wrong f_open f_lines f_acts r_all) sz) := by
  refine Met.ofW (cc := cX11_burden) (maxL := 3) (ret := (some .int)) (by decide) rfl ?_
  intro p e s m args below meth c s₁ B hml hv
  obtain ⟨rfl, hsz, hP, hK, hD0⟩ := hv
  subst hsz
  have hC : Cx p s m ([.ref h, .int x1, .int x2] : List Value).toArray meth c cX11_burden (some .int) 3 GW RX11 := ⟨B.exec, B.bytes, B.returns, hml, findClass_of_methodNamed B.named, fun w h => atoms_spec (ws := zsX11_burden) B.pre w (List.mem_cons_of_mem _ h), B.notSynchronized⟩
  have hD := hD0.self (sz := s.heap.size)
  generalize hAe : va_A (vX11_burden cI cZ h h_all h_has h_line h_act h_pile h_comes h_leaves h_tried h_met f_size f_next f_where f_token f_number f_sign f_word f_wrong f_open f_lines f_acts r_all) s.heap.size = A at hD ⊢
  have hA : ∀ q : Nat, s.heap.size ≤ q → A q := fun q h => by rw [← hAe]; exact Or.inr h
  have hl := lv_entry ([.ref h, .int x1, .int x2]) (n := 3) (Nat.le_of_ble_eq_true rfl)
  rw [lg_entry_eq]
  generalize (lg_sl ([.ref h, .int x1, .int x2]) ++ List.replicate (3 - (lg_sl ([.ref h, .int x1, .int x2])).length) Slot.unset).toArray = ls at hl ⊢
  exact tX11_burden_e hC hK hA x1 x2 r_all _ _ ls hw hP hD va_S.rf hl

/-! X11_beside -/
def wX11_beside (Q : Int32 → Prop) (x1 : Int32) (x2 : Int32) (r_all : Nat → Int32) : Prop :=
  (wX11_its (fun r_1 => (wX11_rowTo (fun r_2 => (wX11_its (fun r_3 => (wX11_columnTo (fun r_4 => (wX11_shipAt (fun r_5 => (Q r_5)) (r_1 + r_2) (r_3 + r_4) r_all)) x2)) x1 (3 : Int32) r_all)) x2)) x1 (2 : Int32) r_all)
abbrev vX11_beside (cI cZ : ClassId) (h h_all h_has h_line h_act h_pile h_comes h_leaves h_tried h_met : Nat) (f_size : Int32) (f_next : Int32) (f_where : Int32) (f_token : Int32) (f_number : Int32) (f_sign : Int32) (f_word : Int32) (f_wrong : Int32) (f_open : Int32) (f_lines : Int32) (f_acts : Int32) (r_all : Nat → Int32) : va_W := [(h, .inr (10, [.ref h_all, .ref h_has, .int f_size, .int f_next, .int f_where, .int f_token, .int f_number, .int f_sign, .int f_word, .int f_wrong, .int f_open, .int f_lines, .int f_acts, .ref h_line, .ref h_act, .ref h_pile, .ref h_comes, .ref h_leaves, .ref h_tried, .ref h_met])), (h_all, .inl (cI, 53700, .inl r_all))]
abbrev rmX11_beside : Room := { frames := 2, cells := 0, slots := 0, locals := 45 }
abbrev qX11_beside (dC : Nat → ClassId) (dI : Nat → Nat → Nat) (cI cZ cO cW : ClassId) (h h_all h_has h_line h_act h_pile h_comes h_leaves h_tried h_met : Nat) (f_size : Int32) (f_next : Int32) (f_where : Int32) (f_token : Int32) (f_number : Int32) (f_sign : Int32) (f_word : Int32) (f_wrong : Int32) (f_open : Int32) (f_lines : Int32) (f_acts : Int32) (r_all : Nat → Int32) (Q : Int32 → Prop) (A : Nat → Prop) : Array Value → State → Outcome → State → Prop := va_Qi (fun (r : Int32) (u : Unit) => Q r) (fun (u : Unit) (t : State) => va_P (dC, dI) vwCl (vX11_beside cI cZ h h_all h_has h_line h_act h_pile h_comes h_leaves h_tried h_met f_size f_next f_where f_token f_number f_sign f_word f_wrong f_open f_lines f_acts r_all) t.heap ∧ va_K (dC, dI) vwCl (tysA cI cZ cO cW) t ∧ va_D A (vX11_beside cI cZ h h_all h_has h_line h_act h_pile h_comes h_leaves h_tried h_met f_size f_next f_where f_token f_number f_sign f_word f_wrong f_open f_lines f_acts r_all)) A
def zsX11_beside : List Cond := Cond.code yX11_beside cX11_beside 3 (some .int) :: GW
set_option maxHeartbeats 4000000 in
set_option maxRecDepth 100000 in
theorem tX11_beside_e {p : Program} {l : Launch} {e : Env} {s : State} {m : MethodId} {args : Array Value} {below : List Frame} {meth : Method} {c : Code} {dC : Nat → ClassId} {dI : Nat → Nat → Nat} {cI cZ cO cW : ClassId} {A : Nat → Prop} {h h_all h_has h_line h_act h_pile h_comes h_leaves h_tried h_met : Nat} {f_size f_next f_where f_token f_number f_sign f_word f_wrong f_open f_lines f_acts : Int32} {Q : Int32 → Prop} (hC : Cx p s m args meth c cX11_beside (some .int) 3 GW RX11) (hK : va_K (dC, dI) vwCl (tysA cI cZ cO cW) s) (hA : ∀ q : Nat, s.heap.size ≤ q → A q) :
    ∀ (x1 : Int32) (x2 : Int32) (r_all : Nat → Int32) (H : Heap) (locs : List Loc) (ls : Array Slot), wX11_beside Q x1 x2 r_all → va_P (dC, dI) vwCl (vX11_beside cI cZ h h_all h_has h_line h_act h_pile h_comes h_leaves h_tried h_met f_size f_next f_where f_token f_number f_sign f_word f_wrong f_open f_lines f_acts r_all) H → va_D A (vX11_beside cI cZ h h_all h_has h_line h_act h_pile h_comes h_leaves h_tried h_met f_size f_next f_where f_token f_number f_sign f_word f_wrong f_open f_lines f_acts r_all) → va_S A s.heap H locs → lv_has ls 3 [(0, .ref h), (1, .int x1), (2, .int x2)] → W p l e rmX11_beside s m args below meth c H locs 0 0 (MQ below (qX11_beside dC dI cI cZ cO cW h h_all h_has h_line h_act h_pile h_comes h_leaves h_tried h_met f_size f_next f_where f_token f_number f_sign f_word f_wrong f_open f_lines f_acts r_all Q A) args s 0 0 A) (F0 m 0 ls []) := by
  obtain ⟨hx, hb, hr, hml, hown, hts, hlocks⟩ := id hC
  intro x1 x2 r_all H locs ls hw hP hD hS hl
  refine lv_aload_n hx hb dX11_beside_0 rfl (lv_at hl 0 rfl) ?_
  refine lv_aload_n hx hb dX11_beside_1 rfl (lv_at hl 0 rfl) ?_
  refine lv_iload_n hx hb dX11_beside_2 rfl (lv_at hl 1 rfl) ?_
  refine lv_iconst (v := (2 : Int32)) hx hb dX11_beside_3 (by decide) ?_
  have hPc := hP.sub (ws' := [(h, .inr (10, [.ref h_all, .ref h_has, .int f_size, .int f_next, .int f_where, .int f_token, .int f_number, .int f_sign, .int f_word, .int f_wrong, .int f_open, .int f_lines, .int f_acts, .ref h_line, .ref h_act, .ref h_pile, .ref h_comes, .ref h_leaves, .ref h_tried, .ref h_met])), (h_all, .inl (cI, 53700, .inl r_all))]) [0, 1] rfl
  have hDc := hD.sub (ws' := [(h, .inr (10, [.ref h_all, .ref h_has, .int f_size, .int f_next, .int f_where, .int f_token, .int f_number, .int f_sign, .int f_word, .int f_wrong, .int f_open, .int f_lines, .int f_acts, .ref h_line, .ref h_act, .ref h_pile, .ref h_comes, .ref h_leaves, .ref h_tried, .ref h_met])), (h_all, .inl (cI, 53700, .inl r_all))]) [0, 1] (by decide) rfl
  have hFc := va_free (wc := [(h, .inr (10, [.ref h_all, .ref h_has, .int f_size, .int f_next, .int f_where, .int f_token, .int f_number, .int f_sign, .int f_word, .int f_wrong, .int f_open, .int f_lines, .int f_acts, .ref h_line, .ref h_act, .ref h_pile, .ref h_comes, .ref h_leaves, .ref h_tried, .ref h_met])), (h_all, .inl (cI, 53700, .inl r_all))]) hD hS hA [0, 1] rfl
  refine va_calli (va_runV (As := [.int x1, .int (2 : Int32)]) (rest := [.ref h]) ⟨hx, hb, hml, hown, hts⟩ (kX11_its l dC dI cI cZ cO cW h h_all h_has h_line h_act h_pile h_comes h_leaves h_tried h_met H.size f_size f_next f_where f_token f_number f_sign f_word f_wrong f_open f_lines f_acts r_all x1 (2 : Int32) _ hw) (cwV 2 hts (gV gw_640 gw_641 gw_642 gw_622 (gM gw_637)) rfl rfl rfl (by decide +kernel) ⟨Nat.le_of_ble_eq_true rfl, Nat.le_of_ble_eq_true rfl⟩) (pv_of hPc hK hDc (va_recv hK hPc (ci := 10) (q0 := 0) rfl rfl)) rfl rfl hl.1 rfl (lv_room (Nat.le_of_ble_eq_true rfl)) dX11_beside_4 ⟨Nat.zero_le _, Nat.zero_le _⟩) hS (fun q _ h => hFc q h) hFc (fun r_1 u t H locs ht hvm hw hB hz1 hk1 hS => ?_)
  obtain ⟨hP, hD⟩ := af_join (wr := []) (w1 := [(h, .inr (10, [.ref h_all, .ref h_has, .int f_size, .int f_next, .int f_where, .int f_token, .int f_number, .int f_sign, .int f_word, .int f_wrong, .int f_open, .int f_lines, .int f_acts, .ref h_line, .ref h_act, .ref h_pile, .ref h_comes, .ref h_leaves, .ref h_tried, .ref h_met])), (h_all, .inl (cI, 53700, .inl r_all))]) hB ht hP hD [0, 1] [] rfl rfl (by decide) (by decide) hk1 hFc
  have hP : va_P (dC, dI) vwCl [(h, .inr (10, [.ref h_all, .ref h_has, .int f_size, .int f_next, .int f_where, .int f_token, .int f_number, .int f_sign, .int f_word, .int f_wrong, .int f_open, .int f_lines, .int f_acts, .ref h_line, .ref h_act, .ref h_pile, .ref h_comes, .ref h_leaves, .ref h_tried, .ref h_met])), (h_all, .inl (cI, 53700, .inl r_all))] _ := hP
  have hD : va_D A [(h, .inr (10, [.ref h_all, .ref h_has, .int f_size, .int f_next, .int f_where, .int f_token, .int f_number, .int f_sign, .int f_word, .int f_wrong, .int f_open, .int f_lines, .int f_acts, .ref h_line, .ref h_act, .ref h_pile, .ref h_comes, .ref h_leaves, .ref h_tried, .ref h_met])), (h_all, .inl (cI, 53700, .inl r_all))] := hD
  refine lv_iload_n hx hb dX11_beside_7 rfl (lv_at hl 2 rfl) ?_
  have hPc := hP.sub (ws' := []) [] rfl
  have hDc := hD.sub (ws' := []) [] (by decide) rfl
  have hFc := va_free (wc := []) hD hS hA [] rfl
  refine va_calli (va_runS (As := [.int x2]) (rest := [.int r_1, .ref h]) ⟨hx, hb, hml, hown, hts⟩ (kX11_rowTo l dC dI cI cZ cO cW H.size x2 _ hw) (va_cwS 1 hts (gS gw_766 gw_767 gw_622 (gM gw_762)) rfl rfl rfl (by decide +kernel) ⟨Nat.le_of_ble_eq_true rfl, Nat.le_of_ble_eq_true rfl⟩) (ps_of hPc hK hDc) rfl rfl hl.1 rfl (lv_room (Nat.le_of_ble_eq_true rfl)) dX11_beside_8 ⟨Nat.zero_le _, Nat.zero_le _⟩) hS (fun q _ h => hFc q h) hFc (fun r_2 u t H locs ht hvm hw hB hz1 hk1 hS => ?_)
  obtain ⟨hP, hD⟩ := af_join (wr := [(h, .inr (10, [.ref h_all, .ref h_has, .int f_size, .int f_next, .int f_where, .int f_token, .int f_number, .int f_sign, .int f_word, .int f_wrong, .int f_open, .int f_lines, .int f_acts, .ref h_line, .ref h_act, .ref h_pile, .ref h_comes, .ref h_leaves, .ref h_tried, .ref h_met])), (h_all, .inl (cI, 53700, .inl r_all))]) (w1 := []) hB ht hP hD [] [0, 1] rfl rfl (by decide) (by decide) hk1 hFc
  have hP : va_P (dC, dI) vwCl [(h, .inr (10, [.ref h_all, .ref h_has, .int f_size, .int f_next, .int f_where, .int f_token, .int f_number, .int f_sign, .int f_word, .int f_wrong, .int f_open, .int f_lines, .int f_acts, .ref h_line, .ref h_act, .ref h_pile, .ref h_comes, .ref h_leaves, .ref h_tried, .ref h_met])), (h_all, .inl (cI, 53700, .inl r_all))] _ := hP
  have hD : va_D A [(h, .inr (10, [.ref h_all, .ref h_has, .int f_size, .int f_next, .int f_where, .int f_token, .int f_number, .int f_sign, .int f_word, .int f_wrong, .int f_open, .int f_lines, .int f_acts, .ref h_line, .ref h_act, .ref h_pile, .ref h_comes, .ref h_leaves, .ref h_tried, .ref h_met])), (h_all, .inl (cI, 53700, .inl r_all))] := hD
  refine lv_iadd hx hb dX11_beside_11 ?_
  refine lv_aload_n hx hb dX11_beside_12 rfl (lv_at hl 0 rfl) ?_
  refine lv_iload_n hx hb dX11_beside_13 rfl (lv_at hl 1 rfl) ?_
  refine lv_iconst (v := (3 : Int32)) hx hb dX11_beside_14 (by decide) ?_
  have hPc := hP.sub (ws' := [(h, .inr (10, [.ref h_all, .ref h_has, .int f_size, .int f_next, .int f_where, .int f_token, .int f_number, .int f_sign, .int f_word, .int f_wrong, .int f_open, .int f_lines, .int f_acts, .ref h_line, .ref h_act, .ref h_pile, .ref h_comes, .ref h_leaves, .ref h_tried, .ref h_met])), (h_all, .inl (cI, 53700, .inl r_all))]) [0, 1] rfl
  have hDc := hD.sub (ws' := [(h, .inr (10, [.ref h_all, .ref h_has, .int f_size, .int f_next, .int f_where, .int f_token, .int f_number, .int f_sign, .int f_word, .int f_wrong, .int f_open, .int f_lines, .int f_acts, .ref h_line, .ref h_act, .ref h_pile, .ref h_comes, .ref h_leaves, .ref h_tried, .ref h_met])), (h_all, .inl (cI, 53700, .inl r_all))]) [0, 1] (by decide) rfl
  have hFc := va_free (wc := [(h, .inr (10, [.ref h_all, .ref h_has, .int f_size, .int f_next, .int f_where, .int f_token, .int f_number, .int f_sign, .int f_word, .int f_wrong, .int f_open, .int f_lines, .int f_acts, .ref h_line, .ref h_act, .ref h_pile, .ref h_comes, .ref h_leaves, .ref h_tried, .ref h_met])), (h_all, .inl (cI, 53700, .inl r_all))]) hD hS hA [0, 1] rfl
  refine va_calli (va_runV (As := [.int x1, .int (3 : Int32)]) (rest := [.int (r_1 + r_2), .ref h]) ⟨hx, hb, hml, hown, hts⟩ (kX11_its l dC dI cI cZ cO cW h h_all h_has h_line h_act h_pile h_comes h_leaves h_tried h_met H.size f_size f_next f_where f_token f_number f_sign f_word f_wrong f_open f_lines f_acts r_all x1 (3 : Int32) _ hw) (cwV 2 hts (gV gw_640 gw_641 gw_642 gw_622 (gM gw_637)) rfl rfl rfl (by decide +kernel) ⟨Nat.le_of_ble_eq_true rfl, Nat.le_of_ble_eq_true rfl⟩) (pv_of hPc hK hDc (va_recv hK hPc (ci := 10) (q0 := 0) rfl rfl)) rfl rfl hl.1 rfl (lv_room (Nat.le_of_ble_eq_true rfl)) dX11_beside_15 ⟨Nat.zero_le _, Nat.zero_le _⟩) hS (fun q _ h => hFc q h) hFc (fun r_3 u t H locs ht hvm hw hB hz1 hk1 hS => ?_)
  obtain ⟨hP, hD⟩ := af_join (wr := []) (w1 := [(h, .inr (10, [.ref h_all, .ref h_has, .int f_size, .int f_next, .int f_where, .int f_token, .int f_number, .int f_sign, .int f_word, .int f_wrong, .int f_open, .int f_lines, .int f_acts, .ref h_line, .ref h_act, .ref h_pile, .ref h_comes, .ref h_leaves, .ref h_tried, .ref h_met])), (h_all, .inl (cI, 53700, .inl r_all))]) hB ht hP hD [0, 1] [] rfl rfl (by decide) (by decide) hk1 hFc
  have hP : va_P (dC, dI) vwCl [(h, .inr (10, [.ref h_all, .ref h_has, .int f_size, .int f_next, .int f_where, .int f_token, .int f_number, .int f_sign, .int f_word, .int f_wrong, .int f_open, .int f_lines, .int f_acts, .ref h_line, .ref h_act, .ref h_pile, .ref h_comes, .ref h_leaves, .ref h_tried, .ref h_met])), (h_all, .inl (cI, 53700, .inl r_all))] _ := hP
  have hD : va_D A [(h, .inr (10, [.ref h_all, .ref h_has, .int f_size, .int f_next, .int f_where, .int f_token, .int f_number, .int f_sign, .int f_word, .int f_wrong, .int f_open, .int f_lines, .int f_acts, .ref h_line, .ref h_act, .ref h_pile, .ref h_comes, .ref h_leaves, .ref h_tried, .ref h_met])), (h_all, .inl (cI, 53700, .inl r_all))] := hD
  refine lv_iload_n hx hb dX11_beside_18 rfl (lv_at hl 2 rfl) ?_
  have hPc := hP.sub (ws' := []) [] rfl
  have hDc := hD.sub (ws' := []) [] (by decide) rfl
  have hFc := va_free (wc := []) hD hS hA [] rfl
  refine va_calli (va_runS (As := [.int x2]) (rest := [.int r_3, .int (r_1 + r_2), .ref h]) ⟨hx, hb, hml, hown, hts⟩ (kX11_columnTo l dC dI cI cZ cO cW H.size x2 _ hw) (va_cwS 1 hts (gS gw_768 gw_769 gw_622 (gM gw_763)) rfl rfl rfl (by decide +kernel) ⟨Nat.le_of_ble_eq_true rfl, Nat.le_of_ble_eq_true rfl⟩) (ps_of hPc hK hDc) rfl rfl hl.1 rfl (lv_room (Nat.le_of_ble_eq_true rfl)) dX11_beside_19 ⟨Nat.zero_le _, Nat.zero_le _⟩) hS (fun q _ h => hFc q h) hFc (fun r_4 u t H locs ht hvm hw hB hz1 hk1 hS => ?_)
  obtain ⟨hP, hD⟩ := af_join (wr := [(h, .inr (10, [.ref h_all, .ref h_has, .int f_size, .int f_next, .int f_where, .int f_token, .int f_number, .int f_sign, .int f_word, .int f_wrong, .int f_open, .int f_lines, .int f_acts, .ref h_line, .ref h_act, .ref h_pile, .ref h_comes, .ref h_leaves, .ref h_tried, .ref h_met])), (h_all, .inl (cI, 53700, .inl r_all))]) (w1 := []) hB ht hP hD [] [0, 1] rfl rfl (by decide) (by decide) hk1 hFc
  have hP : va_P (dC, dI) vwCl [(h, .inr (10, [.ref h_all, .ref h_has, .int f_size, .int f_next, .int f_where, .int f_token, .int f_number, .int f_sign, .int f_word, .int f_wrong, .int f_open, .int f_lines, .int f_acts, .ref h_line, .ref h_act, .ref h_pile, .ref h_comes, .ref h_leaves, .ref h_tried, .ref h_met])), (h_all, .inl (cI, 53700, .inl r_all))] _ := hP
  have hD : va_D A [(h, .inr (10, [.ref h_all, .ref h_has, .int f_size, .int f_next, .int f_where, .int f_token, .int f_number, .int f_sign, .int f_word, .int f_wrong, .int f_open, .int f_lines, .int f_acts, .ref h_line, .ref h_act, .ref h_pile, .ref h_comes, .ref h_leaves, .ref h_tried, .ref h_met])), (h_all, .inl (cI, 53700, .inl r_all))] := hD
  refine lv_iadd hx hb dX11_beside_22 ?_
  have hPc := hP.sub (ws' := [(h, .inr (10, [.ref h_all, .ref h_has, .int f_size, .int f_next, .int f_where, .int f_token, .int f_number, .int f_sign, .int f_word, .int f_wrong, .int f_open, .int f_lines, .int f_acts, .ref h_line, .ref h_act, .ref h_pile, .ref h_comes, .ref h_leaves, .ref h_tried, .ref h_met])), (h_all, .inl (cI, 53700, .inl r_all))]) [0, 1] rfl
  have hDc := hD.sub (ws' := [(h, .inr (10, [.ref h_all, .ref h_has, .int f_size, .int f_next, .int f_where, .int f_token, .int f_number, .int f_sign, .int f_word, .int f_wrong, .int f_open, .int f_lines, .int f_acts, .ref h_line, .ref h_act, .ref h_pile, .ref h_comes, .ref h_leaves, .ref h_tried, .ref h_met])), (h_all, .inl (cI, 53700, .inl r_all))]) [0, 1] (by decide) rfl
  have hFc := va_free (wc := [(h, .inr (10, [.ref h_all, .ref h_has, .int f_size, .int f_next, .int f_where, .int f_token, .int f_number, .int f_sign, .int f_word, .int f_wrong, .int f_open, .int f_lines, .int f_acts, .ref h_line, .ref h_act, .ref h_pile, .ref h_comes, .ref h_leaves, .ref h_tried, .ref h_met])), (h_all, .inl (cI, 53700, .inl r_all))]) hD hS hA [0, 1] rfl
  refine va_calli (va_runV (As := [.int (r_1 + r_2), .int (r_3 + r_4)]) (rest := []) ⟨hx, hb, hml, hown, hts⟩ (kX11_shipAt l dC dI cI cZ cO cW h h_all h_has h_line h_act h_pile h_comes h_leaves h_tried h_met H.size f_size f_next f_where f_token f_number f_sign f_word f_wrong f_open f_lines f_acts r_all (r_1 + r_2) (r_3 + r_4) _ hw) (cwV 2 hts (gV gw_643 gw_644 gw_645 gw_622 (gM gw_639)) rfl rfl rfl (by decide +kernel) ⟨Nat.le_of_ble_eq_true rfl, Nat.le_of_ble_eq_true rfl⟩) (pv_of hPc hK hDc (va_recv hK hPc (ci := 10) (q0 := 0) rfl rfl)) rfl rfl hl.1 rfl (lv_room (Nat.le_of_ble_eq_true rfl)) dX11_beside_23 ⟨Nat.zero_le _, Nat.zero_le _⟩) hS (fun q _ h => hFc q h) hFc (fun r_5 u t H locs ht hvm hw hB hz1 hk1 hS => ?_)
  obtain ⟨hP, hD⟩ := af_join (wr := []) (w1 := [(h, .inr (10, [.ref h_all, .ref h_has, .int f_size, .int f_next, .int f_where, .int f_token, .int f_number, .int f_sign, .int f_word, .int f_wrong, .int f_open, .int f_lines, .int f_acts, .ref h_line, .ref h_act, .ref h_pile, .ref h_comes, .ref h_leaves, .ref h_tried, .ref h_met])), (h_all, .inl (cI, 53700, .inl r_all))]) hB ht hP hD [0, 1] [] rfl rfl (by decide) (by decide) hk1 hFc
  have hP : va_P (dC, dI) vwCl [(h, .inr (10, [.ref h_all, .ref h_has, .int f_size, .int f_next, .int f_where, .int f_token, .int f_number, .int f_sign, .int f_word, .int f_wrong, .int f_open, .int f_lines, .int f_acts, .ref h_line, .ref h_act, .ref h_pile, .ref h_comes, .ref h_leaves, .ref h_tried, .ref h_met])), (h_all, .inl (cI, 53700, .inl r_all))] _ := hP
  have hD : va_D A [(h, .inr (10, [.ref h_all, .ref h_has, .int f_size, .int f_next, .int f_where, .int f_token, .int f_number, .int f_sign, .int f_word, .int f_wrong, .int f_open, .int f_lines, .int f_acts, .ref h_line, .ref h_act, .ref h_pile, .ref h_comes, .ref h_leaves, .ref h_tried, .ref h_met])), (h_all, .inl (cI, 53700, .inl r_all))] := hD
  have hP9 := hP.sub (ws' := (vX11_beside cI cZ h h_all h_has h_line h_act h_pile h_comes h_leaves h_tried h_met f_size f_next f_where f_token f_number f_sign f_word f_wrong f_open f_lines f_acts r_all)) [0, 1] rfl
  have hD9 := hD.sub (ws' := (vX11_beside cI cZ h h_all h_has h_line h_act h_pile h_comes h_leaves h_tried h_met f_size f_next f_where f_token f_number f_sign f_word f_wrong f_open f_lines f_acts r_all)) [0, 1] (by decide) rfl
  exact W.iret (v := r_5) hx hb hr (fun t ht hW => ⟨⟨r_5, (), rfl, hw, by rw [ht]; exact hP9, va_K.moved hW.alike hK, hD9⟩, hS.F ht⟩) hS.2.2 dX11_beside_26
set_option maxHeartbeats 4000000 in
set_option maxRecDepth 100000 in
theorem kX11_beside (l : Launch) (dC : Nat → ClassId) (dI : Nat → Nat → Nat) (cI cZ cO cW : ClassId) (h h_all h_has h_line h_act h_pile h_comes h_leaves h_tried h_met : Nat)  (sz : Nat) (f_size : Int32) (f_next : Int32) (f_where : Int32) (f_token : Int32) (f_number : Int32) (f_sign : Int32) (f_word : Int32) (f_wrong : Int32) (f_open : Int32) (f_lines : Int32) (f_acts : Int32) (r_all : Nat → Int32) (x1 : Int32) (x2 : Int32) (Q : Int32 → Prop) (hw : wX11_beside Q x1 x2 r_all) : Met l yX11_beside zsX11_beside rmX11_beside (va_Pc [.ref h, .int x1, .int x2] (fun U => U.heap.size = sz ∧ va_P (dC, dI) vwCl (vX11_beside cI cZ h h_all h_has h_line h_act h_pile h_comes h_leaves h_tried h_met f_size f_next f_where f_token f_number f_sign f_word f_wrong f_open f_lines f_acts r_all) U.heap ∧ va_K (dC, dI) vwCl (tysA cI cZ cO cW) U ∧ va_D (fun _ => True) (vX11_beside cI cZ h h_all h_has h_line h_act h_pile h_comes h_leaves h_tried h_met f_size f_next f_where f_token f_number f_sign f_word f_wrong f_open f_lines f_acts r_all))) (qX11_beside dC dI cI cZ cO cW h h_all h_has h_line h_act h_pile h_comes h_leaves h_tried h_met f_size f_next f_where f_token f_number f_sign f_word f_wrong f_open f_lines f_acts r_all Q (va_A (vX11_beside cI cZ h h_all h_has h_line h_act h_pile h_comes h_leaves h_tried h_met f_size f_next f_where f_token f_number f_sign f_word f_wrong f_open f_lines f_acts r_all) sz)) 0 0 (va_A (vX11_beside cI cZ h h_all h_has h_line h_act h_pile h_comes h_leaves h_tried h_met f_size f_next f_where f_token f_number f_sign f_word f_wrong f_open f_lines f_acts r_all) sz) := by
  refine Met.ofW (cc := cX11_beside) (maxL := 3) (ret := (some .int)) (by decide) rfl ?_
  intro p e s m args below meth c s₁ B hml hv
  obtain ⟨rfl, hsz, hP, hK, hD0⟩ := hv
  subst hsz
  have hC : Cx p s m ([.ref h, .int x1, .int x2] : List Value).toArray meth c cX11_beside (some .int) 3 GW RX11 := ⟨B.exec, B.bytes, B.returns, hml, findClass_of_methodNamed B.named, fun w h => atoms_spec (ws := zsX11_beside) B.pre w (List.mem_cons_of_mem _ h), B.notSynchronized⟩
  have hD := hD0.self (sz := s.heap.size)
  generalize hAe : va_A (vX11_beside cI cZ h h_all h_has h_line h_act h_pile h_comes h_leaves h_tried h_met f_size f_next f_where f_token f_number f_sign f_word f_wrong f_open f_lines f_acts r_all) s.heap.size = A at hD ⊢
  have hA : ∀ q : Nat, s.heap.size ≤ q → A q := fun q h => by rw [← hAe]; exact Or.inr h
  have hl := lv_entry ([.ref h, .int x1, .int x2]) (n := 3) (Nat.le_of_ble_eq_true rfl)
  rw [lg_entry_eq]
  generalize (lg_sl ([.ref h, .int x1, .int x2]) ++ List.replicate (3 - (lg_sl ([.ref h, .int x1, .int x2])).length) Slot.unset).toArray = ls at hl ⊢
  exact tX11_beside_e hC hK hA x1 x2 r_all _ _ ls hw hP hD va_S.rf hl

/-! X11_isHeld -/
def wX11_isHeld_64 (Q : Int32 → Prop) (K_33 : Int32 → Int32 → Int32 → (Nat → Int32) → Prop)  (x1 : Int32) (x2 : Int32) (x3 : Int32) (r_all : (Nat → Int32)) : Prop :=
  (K_33 x1 x2 (x3 + (1 : Int32)) r_all)
def wX11_isHeld_33 (Q : Int32 → Prop)   : Nat → Int32 → Int32 → Int32 → (Nat → Int32) → Prop
  | 0, _, _, _, _ => False
  | n + 1, x1, x2, x3, r_all => (((4 : Int32) ≤ x3 → (narrow .boolean (.int x2) = .int x2 ∧ (Q x2))) ∧ (¬ (4 : Int32) ≤ x3 → (wX11_beside (fun r_3 => ((r_3 < 0 → (wX11_isHeld_64 Q (wX11_isHeld_33 Q n) x1 x2 x3 r_all)) ∧ (¬ r_3 < 0 → (wX11_its (fun r_5 => ((r_5 = (-1 : Int32) → (wX11_isHeld_64 Q (wX11_isHeld_33 Q n) x1 x2 x3 r_all)) ∧ (¬ r_5 = (-1 : Int32) → (wX11_isHeld_64 Q (wX11_isHeld_33 Q n) x1 (0 : Int32) x3 r_all)))) r_3 (1 : Int32) r_all)))) x1 x3 r_all)))
def wX11_isHeld_30 (Q : Int32 → Prop)   (x1 : Int32) (s0 : Int32) (r_all : (Nat → Int32)) : Prop :=
  (∃ j_, wX11_isHeld_33 Q j_ x1 s0 (0 : Int32) r_all)
def wX11_isHeld (Q : Int32 → Prop) (x1 : Int32) (r_all : Nat → Int32) : Prop :=
  (wX11_its (fun r_8 => (wX11_its (fun r_9 => (wX11_burden (fun r_10 => (wX11_its (fun r_11 => ((r_10 ≤ r_11 → (wX11_isHeld_30 Q x1 (0 : Int32) r_all)) ∧ (¬ r_10 ≤ r_11 → (wX11_isHeld_30 Q x1 (1 : Int32) r_all)))) x1 (0 : Int32) r_all)) r_8 r_9 r_all)) x1 (3 : Int32) r_all)) x1 (2 : Int32) r_all)
abbrev vX11_isHeld (cI cZ : ClassId) (h h_all h_has h_line h_act h_pile h_comes h_leaves h_tried h_met : Nat) (f_size : Int32) (f_next : Int32) (f_where : Int32) (f_token : Int32) (f_number : Int32) (f_sign : Int32) (f_word : Int32) (f_wrong : Int32) (f_open : Int32) (f_lines : Int32) (f_acts : Int32) (r_all : Nat → Int32) : va_W := [(h, .inr (10, [.ref h_all, .ref h_has, .int f_size, .int f_next, .int f_where, .int f_token, .int f_number, .int f_sign, .int f_word, .int f_wrong, .int f_open, .int f_lines, .int f_acts, .ref h_line, .ref h_act, .ref h_pile, .ref h_comes, .ref h_leaves, .ref h_tried, .ref h_met])), (h_all, .inl (cI, 53700, .inl r_all))]
abbrev rmX11_isHeld : Room := { frames := 3, cells := 0, slots := 0, locals := 67 }
abbrev qX11_isHeld (dC : Nat → ClassId) (dI : Nat → Nat → Nat) (cI cZ cO cW : ClassId) (h h_all h_has h_line h_act h_pile h_comes h_leaves h_tried h_met : Nat) (f_size : Int32) (f_next : Int32) (f_where : Int32) (f_token : Int32) (f_number : Int32) (f_sign : Int32) (f_word : Int32) (f_wrong : Int32) (f_open : Int32) (f_lines : Int32) (f_acts : Int32) (r_all : Nat → Int32) (Q : Int32 → Prop) (A : Nat → Prop) : Array Value → State → Outcome → State → Prop := va_Qi (fun (r : Int32) (u : Unit) => Q r) (fun (u : Unit) (t : State) => va_P (dC, dI) vwCl (vX11_isHeld cI cZ h h_all h_has h_line h_act h_pile h_comes h_leaves h_tried h_met f_size f_next f_where f_token f_number f_sign f_word f_wrong f_open f_lines f_acts r_all) t.heap ∧ va_K (dC, dI) vwCl (tysA cI cZ cO cW) t ∧ va_D A (vX11_isHeld cI cZ h h_all h_has h_line h_act h_pile h_comes h_leaves h_tried h_met f_size f_next f_where f_token f_number f_sign f_word f_wrong f_open f_lines f_acts r_all)) A
def zsX11_isHeld : List Cond := Cond.code yX11_isHeld cX11_isHeld 5 (some .boolean) :: GW
set_option maxHeartbeats 4000000 in
set_option maxRecDepth 100000 in
theorem tX11_isHeld_64 {p : Program} {l : Launch} {e : Env} {s : State} {m : MethodId} {args : Array Value} {below : List Frame} {meth : Method} {c : Code} {dC : Nat → ClassId} {dI : Nat → Nat → Nat} {cI cZ cO cW : ClassId} {A : Nat → Prop} {h h_all h_has h_line h_act h_pile h_comes h_leaves h_tried h_met : Nat} {f_size f_next f_where f_token f_number f_sign f_word f_wrong f_open f_lines f_acts : Int32} {Q : Int32 → Prop} {K_33 : Int32 → Int32 → Int32 → (Nat → Int32) → Prop} (hC : Cx p s m args meth c cX11_isHeld (some .boolean) 5 GW RX11) (hK : va_K (dC, dI) vwCl (tysA cI cZ cO cW) s) (hA : ∀ q : Nat, s.heap.size ≤ q → A q) (hk_33 : ∀ (x1 : Int32) (x2 : Int32) (x3 : Int32) (r_all : (Nat → Int32)) (H : Heap) (locs : List Loc) (ls : Array Slot), K_33 x1 x2 x3 r_all → va_P (dC, dI) vwCl (vX11_isHeld cI cZ h h_all h_has h_line h_act h_pile h_comes h_leaves h_tried h_met f_size f_next f_where f_token f_number f_sign f_word f_wrong f_open f_lines f_acts r_all) H → va_D A (vX11_isHeld cI cZ h h_all h_has h_line h_act h_pile h_comes h_leaves h_tried h_met f_size f_next f_where f_token f_number f_sign f_word f_wrong f_open f_lines f_acts r_all) → va_S A s.heap H locs → lv_has ls 5 [(0, .ref h), (1, .int x1), (2, .int x2), (3, .int x3)] → W p l e rmX11_isHeld s m args below meth c H locs 0 0 (MQ below (qX11_isHeld dC dI cI cZ cO cW h h_all h_has h_line h_act h_pile h_comes h_leaves h_tried h_met f_size f_next f_where f_token f_number f_sign f_word f_wrong f_open f_lines f_acts r_all Q A) args s 0 0 A) (F0 m 33 ls [])) :
    ∀ (x1 : Int32) (x2 : Int32) (x3 : Int32) (r_all : (Nat → Int32)) (H : Heap) (locs : List Loc) (ls : Array Slot), wX11_isHeld_64 Q K_33 x1 x2 x3 r_all → va_P (dC, dI) vwCl (vX11_isHeld cI cZ h h_all h_has h_line h_act h_pile h_comes h_leaves h_tried h_met f_size f_next f_where f_token f_number f_sign f_word f_wrong f_open f_lines f_acts r_all) H → va_D A (vX11_isHeld cI cZ h h_all h_has h_line h_act h_pile h_comes h_leaves h_tried h_met f_size f_next f_where f_token f_number f_sign f_word f_wrong f_open f_lines f_acts r_all) → va_S A s.heap H locs → lv_has ls 5 [(0, .ref h), (1, .int x1), (2, .int x2), (3, .int x3)] → W p l e rmX11_isHeld s m args below meth c H locs 0 0 (MQ below (qX11_isHeld dC dI cI cZ cO cW h h_all h_has h_line h_act h_pile h_comes h_leaves h_tried h_met f_size f_next f_where f_token f_number f_sign f_word f_wrong f_open f_lines f_acts r_all Q A) args s 0 0 A) (F0 m 64 ls []) := by
  obtain ⟨hx, hb, hr, hml, hown, hts, hlocks⟩ := id hC
  intro x1 x2 x3 r_all H locs ls hw hP hD hS hl
  refine lv_iinc (v := (x3 + (1 : Int32))) (lv' := [(3, .int (x3 + (1 : Int32))), (0, .ref h), (1, .int x1), (2, .int x2)]) hx hb dX11_isHeld_64 hl (k := 3) rfl rfl (by decide) rfl (fun ls hl => ?_)
  refine lv_goto (tgt := 33) hx hb dX11_isHeld_67 (by decide) ?_
  exact hk_33 x1 x2 (x3 + (1 : Int32)) r_all _ _ ls hw (hP.sub [0, 1] rfl) (hD.sub [0, 1] (by decide) rfl) hS (lv_sub hl [1, 2, 3, 0] rfl)
set_option maxHeartbeats 4000000 in
set_option maxRecDepth 100000 in
theorem tX11_isHeld_33 {p : Program} {l : Launch} {e : Env} {s : State} {m : MethodId} {args : Array Value} {below : List Frame} {meth : Method} {c : Code} {dC : Nat → ClassId} {dI : Nat → Nat → Nat} {cI cZ cO cW : ClassId} {A : Nat → Prop} {h h_all h_has h_line h_act h_pile h_comes h_leaves h_tried h_met : Nat} {f_size f_next f_where f_token f_number f_sign f_word f_wrong f_open f_lines f_acts : Int32} {Q : Int32 → Prop}  (hC : Cx p s m args meth c cX11_isHeld (some .boolean) 5 GW RX11) (hK : va_K (dC, dI) vwCl (tysA cI cZ cO cW) s) (hA : ∀ q : Nat, s.heap.size ≤ q → A q) :
    ∀ (n : Nat) (x1 : Int32) (x2 : Int32) (x3 : Int32) (r_all : (Nat → Int32)) (H : Heap) (locs : List Loc) (ls : Array Slot), wX11_isHeld_33 Q  n x1 x2 x3 r_all → va_P (dC, dI) vwCl (vX11_isHeld cI cZ h h_all h_has h_line h_act h_pile h_comes h_leaves h_tried h_met f_size f_next f_where f_token f_number f_sign f_word f_wrong f_open f_lines f_acts r_all) H → va_D A (vX11_isHeld cI cZ h h_all h_has h_line h_act h_pile h_comes h_leaves h_tried h_met f_size f_next f_where f_token f_number f_sign f_word f_wrong f_open f_lines f_acts r_all) → va_S A s.heap H locs → lv_has ls 5 [(0, .ref h), (1, .int x1), (2, .int x2), (3, .int x3)] → W p l e rmX11_isHeld s m args below meth c H locs 0 0 (MQ below (qX11_isHeld dC dI cI cZ cO cW h h_all h_has h_line h_act h_pile h_comes h_leaves h_tried h_met f_size f_next f_where f_token f_number f_sign f_word f_wrong f_open f_lines f_acts r_all Q A) args s 0 0 A) (F0 m 33 ls []) := by
  obtain ⟨hx, hb, hr, hml, hown, hts, hlocks⟩ := id hC
  intro n
  induction n with
  | zero =>
    intro  x1 x2 x3 r_all H locs ls hw
    exact hw.elim
  | succ n ih =>
    intro  x1 x2 x3 r_all H locs ls hw hP hD hS hl
    refine lv_iload_n hx hb dX11_isHeld_33 rfl (lv_at hl 3 rfl) ?_
    refine lv_iconst (v := (4 : Int32)) hx hb dX11_isHeld_34 (by decide) ?_
    refine lv_icmp_ge (tgt := 70) hx hb dX11_isHeld_35 (by decide) (fun c_1 => ?_) (fun c_1 => ?_)
    · have hw := hw.1 c_1
      refine lv_iload_n hx hb dX11_isHeld_70 rfl (lv_at hl 2 rfl) ?_
      obtain ⟨h_2, hw⟩ := hw
      have hP9 := hP.sub (ws' := (vX11_isHeld cI cZ h h_all h_has h_line h_act h_pile h_comes h_leaves h_tried h_met f_size f_next f_where f_token f_number f_sign f_word f_wrong f_open f_lines f_acts r_all)) [0, 1] rfl
      have hD9 := hD.sub (ws' := (vX11_isHeld cI cZ h h_all h_has h_line h_act h_pile h_comes h_leaves h_tried h_met f_size f_next f_where f_token f_number f_sign f_word f_wrong f_open f_lines f_acts r_all)) [0, 1] (by decide) rfl
      exact W.zret (v := x2) (ty := .boolean) hx hb hr h_2 (fun t ht hW => ⟨⟨x2, (), rfl, hw, by rw [ht]; exact hP9, va_K.moved hW.alike hK, hD9⟩, hS.F ht⟩) hS.2.2 dX11_isHeld_71
    · have hw := hw.2 c_1
      refine lv_aload_n hx hb dX11_isHeld_38 rfl (lv_at hl 0 rfl) ?_
      refine lv_iload_n hx hb dX11_isHeld_39 rfl (lv_at hl 1 rfl) ?_
      refine lv_iload_n hx hb dX11_isHeld_40 rfl (lv_at hl 3 rfl) ?_
      have hPc := hP.sub (ws' := [(h, .inr (10, [.ref h_all, .ref h_has, .int f_size, .int f_next, .int f_where, .int f_token, .int f_number, .int f_sign, .int f_word, .int f_wrong, .int f_open, .int f_lines, .int f_acts, .ref h_line, .ref h_act, .ref h_pile, .ref h_comes, .ref h_leaves, .ref h_tried, .ref h_met])), (h_all, .inl (cI, 53700, .inl r_all))]) [0, 1] rfl
      have hDc := hD.sub (ws' := [(h, .inr (10, [.ref h_all, .ref h_has, .int f_size, .int f_next, .int f_where, .int f_token, .int f_number, .int f_sign, .int f_word, .int f_wrong, .int f_open, .int f_lines, .int f_acts, .ref h_line, .ref h_act, .ref h_pile, .ref h_comes, .ref h_leaves, .ref h_tried, .ref h_met])), (h_all, .inl (cI, 53700, .inl r_all))]) [0, 1] (by decide) rfl
      have hFc := va_free (wc := [(h, .inr (10, [.ref h_all, .ref h_has, .int f_size, .int f_next, .int f_where, .int f_token, .int f_number, .int f_sign, .int f_word, .int f_wrong, .int f_open, .int f_lines, .int f_acts, .ref h_line, .ref h_act, .ref h_pile, .ref h_comes, .ref h_leaves, .ref h_tried, .ref h_met])), (h_all, .inl (cI, 53700, .inl r_all))]) hD hS hA [0, 1] rfl
      refine va_calli (va_runV (As := [.int x1, .int x3]) (rest := []) ⟨hx, hb, hml, hown, hts⟩ (kX11_beside l dC dI cI cZ cO cW h h_all h_has h_line h_act h_pile h_comes h_leaves h_tried h_met H.size f_size f_next f_where f_token f_number f_sign f_word f_wrong f_open f_lines f_acts r_all x1 x3 _ hw) (cwV 2 hts (gV gw_773 gw_774 gw_775 gw_622 (gM gw_765)) rfl rfl rfl (by decide +kernel) ⟨Nat.le_of_ble_eq_true rfl, Nat.le_of_ble_eq_true rfl⟩) (pv_of hPc hK hDc (va_recv hK hPc (ci := 10) (q0 := 0) rfl rfl)) rfl rfl hl.1 rfl (lv_room (Nat.le_of_ble_eq_true rfl)) dX11_isHeld_41 ⟨Nat.zero_le _, Nat.zero_le _⟩) hS (fun q _ h => hFc q h) hFc (fun r_3 u t H locs ht hvm hw hB hz1 hk1 hS => ?_)
      obtain ⟨hP, hD⟩ := af_join (wr := []) (w1 := [(h, .inr (10, [.ref h_all, .ref h_has, .int f_size, .int f_next, .int f_where, .int f_token, .int f_number, .int f_sign, .int f_word, .int f_wrong, .int f_open, .int f_lines, .int f_acts, .ref h_line, .ref h_act, .ref h_pile, .ref h_comes, .ref h_leaves, .ref h_tried, .ref h_met])), (h_all, .inl (cI, 53700, .inl r_all))]) hB ht hP hD [0, 1] [] rfl rfl (by decide) (by decide) hk1 hFc
      have hP : va_P (dC, dI) vwCl [(h, .inr (10, [.ref h_all, .ref h_has, .int f_size, .int f_next, .int f_where, .int f_token, .int f_number, .int f_sign, .int f_word, .int f_wrong, .int f_open, .int f_lines, .int f_acts, .ref h_line, .ref h_act, .ref h_pile, .ref h_comes, .ref h_leaves, .ref h_tried, .ref h_met])), (h_all, .inl (cI, 53700, .inl r_all))] _ := hP
      have hD : va_D A [(h, .inr (10, [.ref h_all, .ref h_has, .int f_size, .int f_next, .int f_where, .int f_token, .int f_number, .int f_sign, .int f_word, .int f_wrong, .int f_open, .int f_lines, .int f_acts, .ref h_line, .ref h_act, .ref h_pile, .ref h_comes, .ref h_leaves, .ref h_tried, .ref h_met])), (h_all, .inl (cI, 53700, .inl r_all))] := hD
      refine lv_istore (lv' := [(4, .int r_3), (0, .ref h), (1, .int x1), (2, .int x2), (3, .int x3)]) hx hb dX11_isHeld_44 hl (by decide) rfl (fun ls hl => ?_)
      refine lv_iload hx hb dX11_isHeld_46 (lv_at hl 0 rfl) ?_
      refine lv_if_lt (tgt := 64) hx hb dX11_isHeld_48 (by decide) (fun c_4 => ?_) (fun c_4 => ?_)
      · have hw := hw.1 c_4
        exact tX11_isHeld_64 hC hK hA ih x1 x2 x3 r_all _ _ ls hw (hP.sub [0, 1] rfl) (hD.sub [0, 1] (by decide) rfl) hS (lv_sub hl [1, 2, 3, 4] rfl)
      · have hw := hw.2 c_4
        refine lv_aload_n hx hb dX11_isHeld_51 rfl (lv_at hl 1 rfl) ?_
        refine lv_iload hx hb dX11_isHeld_52 (lv_at hl 0 rfl) ?_
        refine lv_iconst (v := (1 : Int32)) hx hb dX11_isHeld_54 (by decide) ?_
        have hPc := hP.sub (ws' := [(h, .inr (10, [.ref h_all, .ref h_has, .int f_size, .int f_next, .int f_where, .int f_token, .int f_number, .int f_sign, .int f_word, .int f_wrong, .int f_open, .int f_lines, .int f_acts, .ref h_line, .ref h_act, .ref h_pile, .ref h_comes, .ref h_leaves, .ref h_tried, .ref h_met])), (h_all, .inl (cI, 53700, .inl r_all))]) [0, 1] rfl
        have hDc := hD.sub (ws' := [(h, .inr (10, [.ref h_all, .ref h_has, .int f_size, .int f_next, .int f_where, .int f_token, .int f_number, .int f_sign, .int f_word, .int f_wrong, .int f_open, .int f_lines, .int f_acts, .ref h_line, .ref h_act, .ref h_pile, .ref h_comes, .ref h_leaves, .ref h_tried, .ref h_met])), (h_all, .inl (cI, 53700, .inl r_all))]) [0, 1] (by decide) rfl
        have hFc := va_free (wc := [(h, .inr (10, [.ref h_all, .ref h_has, .int f_size, .int f_next, .int f_where, .int f_token, .int f_number, .int f_sign, .int f_word, .int f_wrong, .int f_open, .int f_lines, .int f_acts, .ref h_line, .ref h_act, .ref h_pile, .ref h_comes, .ref h_leaves, .ref h_tried, .ref h_met])), (h_all, .inl (cI, 53700, .inl r_all))]) hD hS hA [0, 1] rfl
        refine va_calli (va_runV (As := [.int r_3, .int (1 : Int32)]) (rest := []) ⟨hx, hb, hml, hown, hts⟩ (kX11_its l dC dI cI cZ cO cW h h_all h_has h_line h_act h_pile h_comes h_leaves h_tried h_met H.size f_size f_next f_where f_token f_number f_sign f_word f_wrong f_open f_lines f_acts r_all r_3 (1 : Int32) _ hw) (cwV 2 hts (gV gw_640 gw_641 gw_642 gw_622 (gM gw_637)) rfl rfl rfl (by decide +kernel) ⟨Nat.le_of_ble_eq_true rfl, Nat.le_of_ble_eq_true rfl⟩) (pv_of hPc hK hDc (va_recv hK hPc (ci := 10) (q0 := 0) rfl rfl)) rfl rfl hl.1 rfl (lv_room (Nat.le_of_ble_eq_true rfl)) dX11_isHeld_55 ⟨Nat.zero_le _, Nat.zero_le _⟩) hS (fun q _ h => hFc q h) hFc (fun r_5 u t H locs ht hvm hw hB hz1 hk1 hS => ?_)
        obtain ⟨hP, hD⟩ := af_join (wr := []) (w1 := [(h, .inr (10, [.ref h_all, .ref h_has, .int f_size, .int f_next, .int f_where, .int f_token, .int f_number, .int f_sign, .int f_word, .int f_wrong, .int f_open, .int f_lines, .int f_acts, .ref h_line, .ref h_act, .ref h_pile, .ref h_comes, .ref h_leaves, .ref h_tried, .ref h_met])), (h_all, .inl (cI, 53700, .inl r_all))]) hB ht hP hD [0, 1] [] rfl rfl (by decide) (by decide) hk1 hFc
        have hP : va_P (dC, dI) vwCl [(h, .inr (10, [.ref h_all, .ref h_has, .int f_size, .int f_next, .int f_where, .int f_token, .int f_number, .int f_sign, .int f_word, .int f_wrong, .int f_open, .int f_lines, .int f_acts, .ref h_line, .ref h_act, .ref h_pile, .ref h_comes, .ref h_leaves, .ref h_tried, .ref h_met])), (h_all, .inl (cI, 53700, .inl r_all))] _ := hP
        have hD : va_D A [(h, .inr (10, [.ref h_all, .ref h_has, .int f_size, .int f_next, .int f_where, .int f_token, .int f_number, .int f_sign, .int f_word, .int f_wrong, .int f_open, .int f_lines, .int f_acts, .ref h_line, .ref h_act, .ref h_pile, .ref h_comes, .ref h_leaves, .ref h_tried, .ref h_met])), (h_all, .inl (cI, 53700, .inl r_all))] := hD
        refine lv_iconst (v := (-1 : Int32)) hx hb dX11_isHeld_58 (by decide) ?_
        refine lv_icmp_eq (tgt := 64) hx hb dX11_isHeld_59 (by decide) (fun c_6 => ?_) (fun c_6 => ?_)
        · have hw := hw.1 c_6
          exact tX11_isHeld_64 hC hK hA ih x1 x2 x3 r_all _ _ ls hw (hP.sub [0, 1] rfl) (hD.sub [0, 1] (by decide) rfl) hS (lv_sub hl [1, 2, 3, 4] rfl)
        · have hw := hw.2 c_6
          refine lv_iconst (v := (0 : Int32)) hx hb dX11_isHeld_62 (by decide) ?_
          refine lv_istore_n (lv' := [(2, .int (0 : Int32)), (4, .int r_3), (0, .ref h), (1, .int x1), (3, .int x3)]) hx hb dX11_isHeld_63 rfl hl (by decide) rfl (fun ls hl => ?_)
          exact tX11_isHeld_64 hC hK hA ih x1 (0 : Int32) x3 r_all _ _ ls hw (hP.sub [0, 1] rfl) (hD.sub [0, 1] (by decide) rfl) hS (lv_sub hl [2, 3, 0, 4] rfl)
set_option maxHeartbeats 4000000 in
set_option maxRecDepth 100000 in
theorem tX11_isHeld_30 {p : Program} {l : Launch} {e : Env} {s : State} {m : MethodId} {args : Array Value} {below : List Frame} {meth : Method} {c : Code} {dC : Nat → ClassId} {dI : Nat → Nat → Nat} {cI cZ cO cW : ClassId} {A : Nat → Prop} {h h_all h_has h_line h_act h_pile h_comes h_leaves h_tried h_met : Nat} {f_size f_next f_where f_token f_number f_sign f_word f_wrong f_open f_lines f_acts : Int32} {Q : Int32 → Prop}  (hC : Cx p s m args meth c cX11_isHeld (some .boolean) 5 GW RX11) (hK : va_K (dC, dI) vwCl (tysA cI cZ cO cW) s) (hA : ∀ q : Nat, s.heap.size ≤ q → A q) :
    ∀ (x1 : Int32) (s0 : Int32) (r_all : (Nat → Int32)) (H : Heap) (locs : List Loc) (ls : Array Slot), wX11_isHeld_30 Q  x1 s0 r_all → va_P (dC, dI) vwCl (vX11_isHeld cI cZ h h_all h_has h_line h_act h_pile h_comes h_leaves h_tried h_met f_size f_next f_where f_token f_number f_sign f_word f_wrong f_open f_lines f_acts r_all) H → va_D A (vX11_isHeld cI cZ h h_all h_has h_line h_act h_pile h_comes h_leaves h_tried h_met f_size f_next f_where f_token f_number f_sign f_word f_wrong f_open f_lines f_acts r_all) → va_S A s.heap H locs → lv_has ls 5 [(0, .ref h), (1, .int x1)] → W p l e rmX11_isHeld s m args below meth c H locs 0 0 (MQ below (qX11_isHeld dC dI cI cZ cO cW h h_all h_has h_line h_act h_pile h_comes h_leaves h_tried h_met f_size f_next f_where f_token f_number f_sign f_word f_wrong f_open f_lines f_acts r_all Q A) args s 0 0 A) (F0 m 30 ls [.int s0]) := by
  obtain ⟨hx, hb, hr, hml, hown, hts, hlocks⟩ := id hC
  intro x1 s0 r_all H locs ls hw hP hD hS hl
  refine lv_istore_n (lv' := [(2, .int s0), (0, .ref h), (1, .int x1)]) hx hb dX11_isHeld_30 rfl hl (by decide) rfl (fun ls hl => ?_)
  refine lv_iconst (v := (0 : Int32)) hx hb dX11_isHeld_31 (by decide) ?_
  refine lv_istore_n (lv' := [(3, .int (0 : Int32)), (2, .int s0), (0, .ref h), (1, .int x1)]) hx hb dX11_isHeld_32 rfl hl (by decide) rfl (fun ls hl => ?_)
  obtain ⟨n_7, hw⟩ := hw
  exact tX11_isHeld_33 hC hK hA  n_7 x1 s0 (0 : Int32) r_all _ _ ls hw (hP.sub [0, 1] rfl) (hD.sub [0, 1] (by decide) rfl) hS (lv_sub hl [2, 3, 1, 0] rfl)
set_option maxHeartbeats 4000000 in
set_option maxRecDepth 100000 in
theorem tX11_isHeld_e {p : Program} {l : Launch} {e : Env} {s : State} {m : MethodId} {args : Array Value} {below : List Frame} {meth : Method} {c : Code} {dC : Nat → ClassId} {dI : Nat → Nat → Nat} {cI cZ cO cW : ClassId} {A : Nat → Prop} {h h_all h_has h_line h_act h_pile h_comes h_leaves h_tried h_met : Nat} {f_size f_next f_where f_token f_number f_sign f_word f_wrong f_open f_lines f_acts : Int32} {Q : Int32 → Prop} (hC : Cx p s m args meth c cX11_isHeld (some .boolean) 5 GW RX11) (hK : va_K (dC, dI) vwCl (tysA cI cZ cO cW) s) (hA : ∀ q : Nat, s.heap.size ≤ q → A q) :
    ∀ (x1 : Int32) (r_all : Nat → Int32) (H : Heap) (locs : List Loc) (ls : Array Slot), wX11_isHeld Q x1 r_all → va_P (dC, dI) vwCl (vX11_isHeld cI cZ h h_all h_has h_line h_act h_pile h_comes h_leaves h_tried h_met f_size f_next f_where f_token f_number f_sign f_word f_wrong f_open f_lines f_acts r_all) H → va_D A (vX11_isHeld cI cZ h h_all h_has h_line h_act h_pile h_comes h_leaves h_tried h_met f_size f_next f_where f_token f_number f_sign f_word f_wrong f_open f_lines f_acts r_all) → va_S A s.heap H locs → lv_has ls 5 [(0, .ref h), (1, .int x1)] → W p l e rmX11_isHeld s m args below meth c H locs 0 0 (MQ below (qX11_isHeld dC dI cI cZ cO cW h h_all h_has h_line h_act h_pile h_comes h_leaves h_tried h_met f_size f_next f_where f_token f_number f_sign f_word f_wrong f_open f_lines f_acts r_all Q A) args s 0 0 A) (F0 m 0 ls []) := by
  obtain ⟨hx, hb, hr, hml, hown, hts, hlocks⟩ := id hC
  intro x1 r_all H locs ls hw hP hD hS hl
  refine lv_aload_n hx hb dX11_isHeld_0 rfl (lv_at hl 0 rfl) ?_
  refine lv_aload_n hx hb dX11_isHeld_1 rfl (lv_at hl 0 rfl) ?_
  refine lv_iload_n hx hb dX11_isHeld_2 rfl (lv_at hl 1 rfl) ?_
  refine lv_iconst (v := (2 : Int32)) hx hb dX11_isHeld_3 (by decide) ?_
  have hPc := hP.sub (ws' := [(h, .inr (10, [.ref h_all, .ref h_has, .int f_size, .int f_next, .int f_where, .int f_token, .int f_number, .int f_sign, .int f_word, .int f_wrong, .int f_open, .int f_lines, .int f_acts, .ref h_line, .ref h_act, .ref h_pile, .ref h_comes, .ref h_leaves, .ref h_tried, .ref h_met])), (h_all, .inl (cI, 53700, .inl r_all))]) [0, 1] rfl
  have hDc := hD.sub (ws' := [(h, .inr (10, [.ref h_all, .ref h_has, .int f_size, .int f_next, .int f_where, .int f_token, .int f_number, .int f_sign, .int f_word, .int f_wrong, .int f_open, .int f_lines, .int f_acts, .ref h_line, .ref h_act, .ref h_pile, .ref h_comes, .ref h_leaves, .ref h_tried, .ref h_met])), (h_all, .inl (cI, 53700, .inl r_all))]) [0, 1] (by decide) rfl
  have hFc := va_free (wc := [(h, .inr (10, [.ref h_all, .ref h_has, .int f_size, .int f_next, .int f_where, .int f_token, .int f_number, .int f_sign, .int f_word, .int f_wrong, .int f_open, .int f_lines, .int f_acts, .ref h_line, .ref h_act, .ref h_pile, .ref h_comes, .ref h_leaves, .ref h_tried, .ref h_met])), (h_all, .inl (cI, 53700, .inl r_all))]) hD hS hA [0, 1] rfl
  refine va_calli (va_runV (As := [.int x1, .int (2 : Int32)]) (rest := [.ref h]) ⟨hx, hb, hml, hown, hts⟩ (kX11_its l dC dI cI cZ cO cW h h_all h_has h_line h_act h_pile h_comes h_leaves h_tried h_met H.size f_size f_next f_where f_token f_number f_sign f_word f_wrong f_open f_lines f_acts r_all x1 (2 : Int32) _ hw) (cwV 2 hts (gV gw_640 gw_641 gw_642 gw_622 (gM gw_637)) rfl rfl rfl (by decide +kernel) ⟨Nat.le_of_ble_eq_true rfl, Nat.le_of_ble_eq_true rfl⟩) (pv_of hPc hK hDc (va_recv hK hPc (ci := 10) (q0 := 0) rfl rfl)) rfl rfl hl.1 rfl (lv_room (Nat.le_of_ble_eq_true rfl)) dX11_isHeld_4 ⟨Nat.zero_le _, Nat.zero_le _⟩) hS (fun q _ h => hFc q h) hFc (fun r_8 u t H locs ht hvm hw hB hz1 hk1 hS => ?_)
  obtain ⟨hP, hD⟩ := af_join (wr := []) (w1 := [(h, .inr (10, [.ref h_all, .ref h_has, .int f_size, .int f_next, .int f_where, .int f_token, .int f_number, .int f_sign, .int f_word, .int f_wrong, .int f_open, .int f_lines, .int f_acts, .ref h_line, .ref h_act, .ref h_pile, .ref h_comes, .ref h_leaves, .ref h_tried, .ref h_met])), (h_all, .inl (cI, 53700, .inl r_all))]) hB ht hP hD [0, 1] [] rfl rfl (by decide) (by decide) hk1 hFc
  have hP : va_P (dC, dI) vwCl [(h, .inr (10, [.ref h_all, .ref h_has, .int f_size, .int f_next, .int f_where, .int f_token, .int f_number, .int f_sign, .int f_word, .int f_wrong, .int f_open, .int f_lines, .int f_acts, .ref h_line, .ref h_act, .ref h_pile, .ref h_comes, .ref h_leaves, .ref h_tried, .ref h_met])), (h_all, .inl (cI, 53700, .inl r_all))] _ := hP
  have hD : va_D A [(h, .inr (10, [.ref h_all, .ref h_has, .int f_size, .int f_next, .int f_where, .int f_token, .int f_number, .int f_sign, .int f_word, .int f_wrong, .int f_open, .int f_lines, .int f_acts, .ref h_line, .ref h_act, .ref h_pile, .ref h_comes, .ref h_leaves, .ref h_tried, .ref h_met])), (h_all, .inl (cI, 53700, .inl r_all))] := hD
  refine lv_aload_n hx hb dX11_isHeld_7 rfl (lv_at hl 0 rfl) ?_
  refine lv_iload_n hx hb dX11_isHeld_8 rfl (lv_at hl 1 rfl) ?_
  refine lv_iconst (v := (3 : Int32)) hx hb dX11_isHeld_9 (by decide) ?_
  have hPc := hP.sub (ws' := [(h, .inr (10, [.ref h_all, .ref h_has, .int f_size, .int f_next, .int f_where, .int f_token, .int f_number, .int f_sign, .int f_word, .int f_wrong, .int f_open, .int f_lines, .int f_acts, .ref h_line, .ref h_act, .ref h_pile, .ref h_comes, .ref h_leaves, .ref h_tried, .ref h_met])), (h_all, .inl (cI, 53700, .inl r_all))]) [0, 1] rfl
  have hDc := hD.sub (ws' := [(h, .inr (10, [.ref h_all, .ref h_has, .int f_size, .int f_next, .int f_where, .int f_token, .int f_number, .int f_sign, .int f_word, .int f_wrong, .int f_open, .int f_lines, .int f_acts, .ref h_line, .ref h_act, .ref h_pile, .ref h_comes, .ref h_leaves, .ref h_tried, .ref h_met])), (h_all, .inl (cI, 53700, .inl r_all))]) [0, 1] (by decide) rfl
  have hFc := va_free (wc := [(h, .inr (10, [.ref h_all, .ref h_has, .int f_size, .int f_next, .int f_where, .int f_token, .int f_number, .int f_sign, .int f_word, .int f_wrong, .int f_open, .int f_lines, .int f_acts, .ref h_line, .ref h_act, .ref h_pile, .ref h_comes, .ref h_leaves, .ref h_tried, .ref h_met])), (h_all, .inl (cI, 53700, .inl r_all))]) hD hS hA [0, 1] rfl
  refine va_calli (va_runV (As := [.int x1, .int (3 : Int32)]) (rest := [.int r_8, .ref h]) ⟨hx, hb, hml, hown, hts⟩ (kX11_its l dC dI cI cZ cO cW h h_all h_has h_line h_act h_pile h_comes h_leaves h_tried h_met H.size f_size f_next f_where f_token f_number f_sign f_word f_wrong f_open f_lines f_acts r_all x1 (3 : Int32) _ hw) (cwV 2 hts (gV gw_640 gw_641 gw_642 gw_622 (gM gw_637)) rfl rfl rfl (by decide +kernel) ⟨Nat.le_of_ble_eq_true rfl, Nat.le_of_ble_eq_true rfl⟩) (pv_of hPc hK hDc (va_recv hK hPc (ci := 10) (q0 := 0) rfl rfl)) rfl rfl hl.1 rfl (lv_room (Nat.le_of_ble_eq_true rfl)) dX11_isHeld_10 ⟨Nat.zero_le _, Nat.zero_le _⟩) hS (fun q _ h => hFc q h) hFc (fun r_9 u t H locs ht hvm hw hB hz1 hk1 hS => ?_)
  obtain ⟨hP, hD⟩ := af_join (wr := []) (w1 := [(h, .inr (10, [.ref h_all, .ref h_has, .int f_size, .int f_next, .int f_where, .int f_token, .int f_number, .int f_sign, .int f_word, .int f_wrong, .int f_open, .int f_lines, .int f_acts, .ref h_line, .ref h_act, .ref h_pile, .ref h_comes, .ref h_leaves, .ref h_tried, .ref h_met])), (h_all, .inl (cI, 53700, .inl r_all))]) hB ht hP hD [0, 1] [] rfl rfl (by decide) (by decide) hk1 hFc
  have hP : va_P (dC, dI) vwCl [(h, .inr (10, [.ref h_all, .ref h_has, .int f_size, .int f_next, .int f_where, .int f_token, .int f_number, .int f_sign, .int f_word, .int f_wrong, .int f_open, .int f_lines, .int f_acts, .ref h_line, .ref h_act, .ref h_pile, .ref h_comes, .ref h_leaves, .ref h_tried, .ref h_met])), (h_all, .inl (cI, 53700, .inl r_all))] _ := hP
  have hD : va_D A [(h, .inr (10, [.ref h_all, .ref h_has, .int f_size, .int f_next, .int f_where, .int f_token, .int f_number, .int f_sign, .int f_word, .int f_wrong, .int f_open, .int f_lines, .int f_acts, .ref h_line, .ref h_act, .ref h_pile, .ref h_comes, .ref h_leaves, .ref h_tried, .ref h_met])), (h_all, .inl (cI, 53700, .inl r_all))] := hD
  have hPc := hP.sub (ws' := [(h, .inr (10, [.ref h_all, .ref h_has, .int f_size, .int f_next, .int f_where, .int f_token, .int f_number, .int f_sign, .int f_word, .int f_wrong, .int f_open, .int f_lines, .int f_acts, .ref h_line, .ref h_act, .ref h_pile, .ref h_comes, .ref h_leaves, .ref h_tried, .ref h_met])), (h_all, .inl (cI, 53700, .inl r_all))]) [0, 1] rfl
  have hDc := hD.sub (ws' := [(h, .inr (10, [.ref h_all, .ref h_has, .int f_size, .int f_next, .int f_where, .int f_token, .int f_number, .int f_sign, .int f_word, .int f_wrong, .int f_open, .int f_lines, .int f_acts, .ref h_line, .ref h_act, .ref h_pile, .ref h_comes, .ref h_leaves, .ref h_tried, .ref h_met])), (h_all, .inl (cI, 53700, .inl r_all))]) [0, 1] (by decide) rfl
  have hFc := va_free (wc := [(h, .inr (10, [.ref h_all, .ref h_has, .int f_size, .int f_next, .int f_where, .int f_token, .int f_number, .int f_sign, .int f_word, .int f_wrong, .int f_open, .int f_lines, .int f_acts, .ref h_line, .ref h_act, .ref h_pile, .ref h_comes, .ref h_leaves, .ref h_tried, .ref h_met])), (h_all, .inl (cI, 53700, .inl r_all))]) hD hS hA [0, 1] rfl
  refine va_calli (va_runV (As := [.int r_8, .int r_9]) (rest := []) ⟨hx, hb, hml, hown, hts⟩ (kX11_burden l dC dI cI cZ cO cW h h_all h_has h_line h_act h_pile h_comes h_leaves h_tried h_met H.size f_size f_next f_where f_token f_number f_sign f_word f_wrong f_open f_lines f_acts r_all r_8 r_9 _ hw) (cwV 2 hts (gV gw_770 gw_771 gw_772 gw_622 (gM gw_764)) rfl rfl rfl (by decide +kernel) ⟨Nat.le_of_ble_eq_true rfl, Nat.le_of_ble_eq_true rfl⟩) (pv_of hPc hK hDc (va_recv hK hPc (ci := 10) (q0 := 0) rfl rfl)) rfl rfl hl.1 rfl (lv_room (Nat.le_of_ble_eq_true rfl)) dX11_isHeld_13 ⟨Nat.zero_le _, Nat.zero_le _⟩) hS (fun q _ h => hFc q h) hFc (fun r_10 u t H locs ht hvm hw hB hz1 hk1 hS => ?_)
  obtain ⟨hP, hD⟩ := af_join (wr := []) (w1 := [(h, .inr (10, [.ref h_all, .ref h_has, .int f_size, .int f_next, .int f_where, .int f_token, .int f_number, .int f_sign, .int f_word, .int f_wrong, .int f_open, .int f_lines, .int f_acts, .ref h_line, .ref h_act, .ref h_pile, .ref h_comes, .ref h_leaves, .ref h_tried, .ref h_met])), (h_all, .inl (cI, 53700, .inl r_all))]) hB ht hP hD [0, 1] [] rfl rfl (by decide) (by decide) hk1 hFc
  have hP : va_P (dC, dI) vwCl [(h, .inr (10, [.ref h_all, .ref h_has, .int f_size, .int f_next, .int f_where, .int f_token, .int f_number, .int f_sign, .int f_word, .int f_wrong, .int f_open, .int f_lines, .int f_acts, .ref h_line, .ref h_act, .ref h_pile, .ref h_comes, .ref h_leaves, .ref h_tried, .ref h_met])), (h_all, .inl (cI, 53700, .inl r_all))] _ := hP
  have hD : va_D A [(h, .inr (10, [.ref h_all, .ref h_has, .int f_size, .int f_next, .int f_where, .int f_token, .int f_number, .int f_sign, .int f_word, .int f_wrong, .int f_open, .int f_lines, .int f_acts, .ref h_line, .ref h_act, .ref h_pile, .ref h_comes, .ref h_leaves, .ref h_tried, .ref h_met])), (h_all, .inl (cI, 53700, .inl r_all))] := hD
  refine lv_aload_n hx hb dX11_isHeld_16 rfl (lv_at hl 0 rfl) ?_
  refine lv_iload_n hx hb dX11_isHeld_17 rfl (lv_at hl 1 rfl) ?_
  refine lv_iconst (v := (0 : Int32)) hx hb dX11_isHeld_18 (by decide) ?_
  have hPc := hP.sub (ws' := [(h, .inr (10, [.ref h_all, .ref h_has, .int f_size, .int f_next, .int f_where, .int f_token, .int f_number, .int f_sign, .int f_word, .int f_wrong, .int f_open, .int f_lines, .int f_acts, .ref h_line, .ref h_act, .ref h_pile, .ref h_comes, .ref h_leaves, .ref h_tried, .ref h_met])), (h_all, .inl (cI, 53700, .inl r_all))]) [0, 1] rfl
  have hDc := hD.sub (ws' := [(h, .inr (10, [.ref h_all, .ref h_has, .int f_size, .int f_next, .int f_where, .int f_token, .int f_number, .int f_sign, .int f_word, .int f_wrong, .int f_open, .int f_lines, .int f_acts, .ref h_line, .ref h_act, .ref h_pile, .ref h_comes, .ref h_leaves, .ref h_tried, .ref h_met])), (h_all, .inl (cI, 53700, .inl r_all))]) [0, 1] (by decide) rfl
  have hFc := va_free (wc := [(h, .inr (10, [.ref h_all, .ref h_has, .int f_size, .int f_next, .int f_where, .int f_token, .int f_number, .int f_sign, .int f_word, .int f_wrong, .int f_open, .int f_lines, .int f_acts, .ref h_line, .ref h_act, .ref h_pile, .ref h_comes, .ref h_leaves, .ref h_tried, .ref h_met])), (h_all, .inl (cI, 53700, .inl r_all))]) hD hS hA [0, 1] rfl
  refine va_calli (va_runV (As := [.int x1, .int (0 : Int32)]) (rest := [.int r_10]) ⟨hx, hb, hml, hown, hts⟩ (kX11_its l dC dI cI cZ cO cW h h_all h_has h_line h_act h_pile h_comes h_leaves h_tried h_met H.size f_size f_next f_where f_token f_number f_sign f_word f_wrong f_open f_lines f_acts r_all x1 (0 : Int32) _ hw) (cwV 2 hts (gV gw_640 gw_641 gw_642 gw_622 (gM gw_637)) rfl rfl rfl (by decide +kernel) ⟨Nat.le_of_ble_eq_true rfl, Nat.le_of_ble_eq_true rfl⟩) (pv_of hPc hK hDc (va_recv hK hPc (ci := 10) (q0 := 0) rfl rfl)) rfl rfl hl.1 rfl (lv_room (Nat.le_of_ble_eq_true rfl)) dX11_isHeld_19 ⟨Nat.zero_le _, Nat.zero_le _⟩) hS (fun q _ h => hFc q h) hFc (fun r_11 u t H locs ht hvm hw hB hz1 hk1 hS => ?_)
  obtain ⟨hP, hD⟩ := af_join (wr := []) (w1 := [(h, .inr (10, [.ref h_all, .ref h_has, .int f_size, .int f_next, .int f_where, .int f_token, .int f_number, .int f_sign, .int f_word, .int f_wrong, .int f_open, .int f_lines, .int f_acts, .ref h_line, .ref h_act, .ref h_pile, .ref h_comes, .ref h_leaves, .ref h_tried, .ref h_met])), (h_all, .inl (cI, 53700, .inl r_all))]) hB ht hP hD [0, 1] [] rfl rfl (by decide) (by decide) hk1 hFc
  have hP : va_P (dC, dI) vwCl [(h, .inr (10, [.ref h_all, .ref h_has, .int f_size, .int f_next, .int f_where, .int f_token, .int f_number, .int f_sign, .int f_word, .int f_wrong, .int f_open, .int f_lines, .int f_acts, .ref h_line, .ref h_act, .ref h_pile, .ref h_comes, .ref h_leaves, .ref h_tried, .ref h_met])), (h_all, .inl (cI, 53700, .inl r_all))] _ := hP
  have hD : va_D A [(h, .inr (10, [.ref h_all, .ref h_has, .int f_size, .int f_next, .int f_where, .int f_token, .int f_number, .int f_sign, .int f_word, .int f_wrong, .int f_open, .int f_lines, .int f_acts, .ref h_line, .ref h_act, .ref h_pile, .ref h_comes, .ref h_leaves, .ref h_tried, .ref h_met])), (h_all, .inl (cI, 53700, .inl r_all))] := hD
  refine lv_icmp_le (tgt := 29) hx hb dX11_isHeld_22 (by decide) (fun c_12 => ?_) (fun c_12 => ?_)
  · have hw := hw.1 c_12
    refine lv_iconst (v := (0 : Int32)) hx hb dX11_isHeld_29 (by decide) ?_
    exact tX11_isHeld_30 hC hK hA  x1 (0 : Int32) r_all _ _ ls hw (hP.sub [0, 1] rfl) (hD.sub [0, 1] (by decide) rfl) hS (lv_sub hl [0, 1] rfl)
  · have hw := hw.2 c_12
    refine lv_iconst (v := (1 : Int32)) hx hb dX11_isHeld_25 (by decide) ?_
    refine lv_goto (tgt := 30) hx hb dX11_isHeld_26 (by decide) ?_
    exact tX11_isHeld_30 hC hK hA  x1 (1 : Int32) r_all _ _ ls hw (hP.sub [0, 1] rfl) (hD.sub [0, 1] (by decide) rfl) hS (lv_sub hl [0, 1] rfl)
set_option maxHeartbeats 4000000 in
set_option maxRecDepth 100000 in
theorem kX11_isHeld (l : Launch) (dC : Nat → ClassId) (dI : Nat → Nat → Nat) (cI cZ cO cW : ClassId) (h h_all h_has h_line h_act h_pile h_comes h_leaves h_tried h_met : Nat)  (sz : Nat) (f_size : Int32) (f_next : Int32) (f_where : Int32) (f_token : Int32) (f_number : Int32) (f_sign : Int32) (f_word : Int32) (f_wrong : Int32) (f_open : Int32) (f_lines : Int32) (f_acts : Int32) (r_all : Nat → Int32) (x1 : Int32) (Q : Int32 → Prop) (hw : wX11_isHeld Q x1 r_all) : Met l yX11_isHeld zsX11_isHeld rmX11_isHeld (va_Pc [.ref h, .int x1] (fun U => U.heap.size = sz ∧ va_P (dC, dI) vwCl (vX11_isHeld cI cZ h h_all h_has h_line h_act h_pile h_comes h_leaves h_tried h_met f_size f_next f_where f_token f_number f_sign f_word f_wrong f_open f_lines f_acts r_all) U.heap ∧ va_K (dC, dI) vwCl (tysA cI cZ cO cW) U ∧ va_D (fun _ => True) (vX11_isHeld cI cZ h h_all h_has h_line h_act h_pile h_comes h_leaves h_tried h_met f_size f_next f_where f_token f_number f_sign f_word f_wrong f_open f_lines f_acts r_all))) (qX11_isHeld dC dI cI cZ cO cW h h_all h_has h_line h_act h_pile h_comes h_leaves h_tried h_met f_size f_next f_where f_token f_number f_sign f_word f_wrong f_open f_lines f_acts r_all Q (va_A (vX11_isHeld cI cZ h h_all h_has h_line h_act h_pile h_comes h_leaves h_tried h_met f_size f_next f_where f_token f_number f_sign f_word f_wrong f_open f_lines f_acts r_all) sz)) 0 0 (va_A (vX11_isHeld cI cZ h h_all h_has h_line h_act h_pile h_comes h_leaves h_tried h_met f_size f_next f_where f_token f_number f_sign f_word f_wrong f_open f_lines f_acts r_all) sz) := by
  refine Met.ofW (cc := cX11_isHeld) (maxL := 5) (ret := (some .boolean)) (by decide) rfl ?_
  intro p e s m args below meth c s₁ B hml hv
  obtain ⟨rfl, hsz, hP, hK, hD0⟩ := hv
  subst hsz
  have hC : Cx p s m ([.ref h, .int x1] : List Value).toArray meth c cX11_isHeld (some .boolean) 5 GW RX11 := ⟨B.exec, B.bytes, B.returns, hml, findClass_of_methodNamed B.named, fun w h => atoms_spec (ws := zsX11_isHeld) B.pre w (List.mem_cons_of_mem _ h), B.notSynchronized⟩
  have hD := hD0.self (sz := s.heap.size)
  generalize hAe : va_A (vX11_isHeld cI cZ h h_all h_has h_line h_act h_pile h_comes h_leaves h_tried h_met f_size f_next f_where f_token f_number f_sign f_word f_wrong f_open f_lines f_acts r_all) s.heap.size = A at hD ⊢
  have hA : ∀ q : Nat, s.heap.size ≤ q → A q := fun q h => by rw [← hAe]; exact Or.inr h
  have hl := lv_entry ([.ref h, .int x1]) (n := 5) (Nat.le_of_ble_eq_true rfl)
  rw [lg_entry_eq]
  generalize (lg_sl ([.ref h, .int x1]) ++ List.replicate (5 - (lg_sl ([.ref h, .int x1])).length) Slot.unset).toArray = ls at hl ⊢
  exact tX11_isHeld_e hC hK hA x1 r_all _ _ ls hw hP hD va_S.rf hl

/-! X11_there -/
def wX11_there_45 (Q : Int32 → Prop)   (r_all : (Nat → Int32)) : Prop :=
  (Q (999 : Int32))
def wX11_there (Q : Int32 → Prop) (x1 : Int32) (x2 : Int32) (r_all : Nat → Int32) : Prop :=
  (wX11_its (fun r_1 => (wX11_rowTo (fun r_2 => (wX11_its (fun r_3 => (wX11_columnTo (fun r_4 => (wX11_isSea (fun r_5 => ((r_5 = 0 → (wX11_there_45 Q r_all)) ∧ (¬ r_5 = 0 → (wX11_shipAt (fun r_7 => ((r_7 < 0 → (wX11_burden (fun r_9 => (Q r_9)) (r_1 + r_2) (r_3 + r_4) r_all)) ∧ (¬ r_7 < 0 → (wX11_there_45 Q r_all)))) (r_1 + r_2) (r_3 + r_4) r_all)))) (r_1 + r_2) (r_3 + r_4) r_all)) x2)) x1 (3 : Int32) r_all)) x2)) x1 (2 : Int32) r_all)
abbrev vX11_there (cI cZ : ClassId) (h h_all h_has h_line h_act h_pile h_comes h_leaves h_tried h_met : Nat) (f_size : Int32) (f_next : Int32) (f_where : Int32) (f_token : Int32) (f_number : Int32) (f_sign : Int32) (f_word : Int32) (f_wrong : Int32) (f_open : Int32) (f_lines : Int32) (f_acts : Int32) (r_all : Nat → Int32) : va_W := [(h, .inr (10, [.ref h_all, .ref h_has, .int f_size, .int f_next, .int f_where, .int f_token, .int f_number, .int f_sign, .int f_word, .int f_wrong, .int f_open, .int f_lines, .int f_acts, .ref h_line, .ref h_act, .ref h_pile, .ref h_comes, .ref h_leaves, .ref h_tried, .ref h_met])), (h_all, .inl (cI, 53700, .inl r_all))]
abbrev rmX11_there : Room := { frames := 3, cells := 0, slots := 0, locals := 66 }
abbrev qX11_there (dC : Nat → ClassId) (dI : Nat → Nat → Nat) (cI cZ cO cW : ClassId) (h h_all h_has h_line h_act h_pile h_comes h_leaves h_tried h_met : Nat) (f_size : Int32) (f_next : Int32) (f_where : Int32) (f_token : Int32) (f_number : Int32) (f_sign : Int32) (f_word : Int32) (f_wrong : Int32) (f_open : Int32) (f_lines : Int32) (f_acts : Int32) (r_all : Nat → Int32) (Q : Int32 → Prop) (A : Nat → Prop) : Array Value → State → Outcome → State → Prop := va_Qi (fun (r : Int32) (u : Unit) => Q r) (fun (u : Unit) (t : State) => va_P (dC, dI) vwCl (vX11_there cI cZ h h_all h_has h_line h_act h_pile h_comes h_leaves h_tried h_met f_size f_next f_where f_token f_number f_sign f_word f_wrong f_open f_lines f_acts r_all) t.heap ∧ va_K (dC, dI) vwCl (tysA cI cZ cO cW) t ∧ va_D A (vX11_there cI cZ h h_all h_has h_line h_act h_pile h_comes h_leaves h_tried h_met f_size f_next f_where f_token f_number f_sign f_word f_wrong f_open f_lines f_acts r_all)) A
def zsX11_there : List Cond := Cond.code yX11_there cX11_there 5 (some .int) :: GW
set_option maxHeartbeats 4000000 in
set_option maxRecDepth 100000 in
theorem tX11_there_45 {p : Program} {l : Launch} {e : Env} {s : State} {m : MethodId} {args : Array Value} {below : List Frame} {meth : Method} {c : Code} {dC : Nat → ClassId} {dI : Nat → Nat → Nat} {cI cZ cO cW : ClassId} {A : Nat → Prop} {h h_all h_has h_line h_act h_pile h_comes h_leaves h_tried h_met : Nat} {f_size f_next f_where f_token f_number f_sign f_word f_wrong f_open f_lines f_acts : Int32} {Q : Int32 → Prop}  (hC : Cx p s m args meth c cX11_there (some .int) 5 GW RX11) (hK : va_K (dC, dI) vwCl (tysA cI cZ cO cW) s) (hA : ∀ q : Nat, s.heap.size ≤ q → A q) :
    ∀ (r_all : (Nat → Int32)) (H : Heap) (locs : List Loc) (ls : Array Slot), wX11_there_45 Q  r_all → va_P (dC, dI) vwCl (vX11_there cI cZ h h_all h_has h_line h_act h_pile h_comes h_leaves h_tried h_met f_size f_next f_where f_token f_number f_sign f_word f_wrong f_open f_lines f_acts r_all) H → va_D A (vX11_there cI cZ h h_all h_has h_line h_act h_pile h_comes h_leaves h_tried h_met f_size f_next f_where f_token f_number f_sign f_word f_wrong f_open f_lines f_acts r_all) → va_S A s.heap H locs → lv_has ls 5 [] → W p l e rmX11_there s m args below meth c H locs 0 0 (MQ below (qX11_there dC dI cI cZ cO cW h h_all h_has h_line h_act h_pile h_comes h_leaves h_tried h_met f_size f_next f_where f_token f_number f_sign f_word f_wrong f_open f_lines f_acts r_all Q A) args s 0 0 A) (F0 m 45 ls []) := by
  obtain ⟨hx, hb, hr, hml, hown, hts, hlocks⟩ := id hC
  intro r_all H locs ls hw hP hD hS hl
  refine lv_sipush (v := (999 : Int32)) hx hb dX11_there_45 (by decide) ?_
  refine lv_goto (tgt := 58) hx hb dX11_there_48 (by decide) ?_
  have hP9 := hP.sub (ws' := (vX11_there cI cZ h h_all h_has h_line h_act h_pile h_comes h_leaves h_tried h_met f_size f_next f_where f_token f_number f_sign f_word f_wrong f_open f_lines f_acts r_all)) [0, 1] rfl
  have hD9 := hD.sub (ws' := (vX11_there cI cZ h h_all h_has h_line h_act h_pile h_comes h_leaves h_tried h_met f_size f_next f_where f_token f_number f_sign f_word f_wrong f_open f_lines f_acts r_all)) [0, 1] (by decide) rfl
  exact W.iret (v := (999 : Int32)) hx hb hr (fun t ht hW => ⟨⟨(999 : Int32), (), rfl, hw, by rw [ht]; exact hP9, va_K.moved hW.alike hK, hD9⟩, hS.F ht⟩) hS.2.2 dX11_there_58
set_option maxHeartbeats 4000000 in
set_option maxRecDepth 100000 in
theorem tX11_there_e {p : Program} {l : Launch} {e : Env} {s : State} {m : MethodId} {args : Array Value} {below : List Frame} {meth : Method} {c : Code} {dC : Nat → ClassId} {dI : Nat → Nat → Nat} {cI cZ cO cW : ClassId} {A : Nat → Prop} {h h_all h_has h_line h_act h_pile h_comes h_leaves h_tried h_met : Nat} {f_size f_next f_where f_token f_number f_sign f_word f_wrong f_open f_lines f_acts : Int32} {Q : Int32 → Prop} (hC : Cx p s m args meth c cX11_there (some .int) 5 GW RX11) (hK : va_K (dC, dI) vwCl (tysA cI cZ cO cW) s) (hA : ∀ q : Nat, s.heap.size ≤ q → A q) :
    ∀ (x1 : Int32) (x2 : Int32) (r_all : Nat → Int32) (H : Heap) (locs : List Loc) (ls : Array Slot), wX11_there Q x1 x2 r_all → va_P (dC, dI) vwCl (vX11_there cI cZ h h_all h_has h_line h_act h_pile h_comes h_leaves h_tried h_met f_size f_next f_where f_token f_number f_sign f_word f_wrong f_open f_lines f_acts r_all) H → va_D A (vX11_there cI cZ h h_all h_has h_line h_act h_pile h_comes h_leaves h_tried h_met f_size f_next f_where f_token f_number f_sign f_word f_wrong f_open f_lines f_acts r_all) → va_S A s.heap H locs → lv_has ls 5 [(0, .ref h), (1, .int x1), (2, .int x2)] → W p l e rmX11_there s m args below meth c H locs 0 0 (MQ below (qX11_there dC dI cI cZ cO cW h h_all h_has h_line h_act h_pile h_comes h_leaves h_tried h_met f_size f_next f_where f_token f_number f_sign f_word f_wrong f_open f_lines f_acts r_all Q A) args s 0 0 A) (F0 m 0 ls []) := by
  obtain ⟨hx, hb, hr, hml, hown, hts, hlocks⟩ := id hC
  intro x1 x2 r_all H locs ls hw hP hD hS hl
  refine lv_aload_n hx hb dX11_there_0 rfl (lv_at hl 0 rfl) ?_
  refine lv_iload_n hx hb dX11_there_1 rfl (lv_at hl 1 rfl) ?_
  refine lv_iconst (v := (2 : Int32)) hx hb dX11_there_2 (by decide) ?_
  have hPc := hP.sub (ws' := [(h, .inr (10, [.ref h_all, .ref h_has, .int f_size, .int f_next, .int f_where, .int f_token, .int f_number, .int f_sign, .int f_word, .int f_wrong, .int f_open, .int f_lines, .int f_acts, .ref h_line, .ref h_act, .ref h_pile, .ref h_comes, .ref h_leaves, .ref h_tried, .ref h_met])), (h_all, .inl (cI, 53700, .inl r_all))]) [0, 1] rfl
  have hDc := hD.sub (ws' := [(h, .inr (10, [.ref h_all, .ref h_has, .int f_size, .int f_next, .int f_where, .int f_token, .int f_number, .int f_sign, .int f_word, .int f_wrong, .int f_open, .int f_lines, .int f_acts, .ref h_line, .ref h_act, .ref h_pile, .ref h_comes, .ref h_leaves, .ref h_tried, .ref h_met])), (h_all, .inl (cI, 53700, .inl r_all))]) [0, 1] (by decide) rfl
  have hFc := va_free (wc := [(h, .inr (10, [.ref h_all, .ref h_has, .int f_size, .int f_next, .int f_where, .int f_token, .int f_number, .int f_sign, .int f_word, .int f_wrong, .int f_open, .int f_lines, .int f_acts, .ref h_line, .ref h_act, .ref h_pile, .ref h_comes, .ref h_leaves, .ref h_tried, .ref h_met])), (h_all, .inl (cI, 53700, .inl r_all))]) hD hS hA [0, 1] rfl
  refine va_calli (va_runV (As := [.int x1, .int (2 : Int32)]) (rest := []) ⟨hx, hb, hml, hown, hts⟩ (kX11_its l dC dI cI cZ cO cW h h_all h_has h_line h_act h_pile h_comes h_leaves h_tried h_met H.size f_size f_next f_where f_token f_number f_sign f_word f_wrong f_open f_lines f_acts r_all x1 (2 : Int32) _ hw) (cwV 2 hts (gV gw_640 gw_641 gw_642 gw_622 (gM gw_637)) rfl rfl rfl (by decide +kernel) ⟨Nat.le_of_ble_eq_true rfl, Nat.le_of_ble_eq_true rfl⟩) (pv_of hPc hK hDc (va_recv hK hPc (ci := 10) (q0 := 0) rfl rfl)) rfl rfl hl.1 rfl (lv_room (Nat.le_of_ble_eq_true rfl)) dX11_there_3 ⟨Nat.zero_le _, Nat.zero_le _⟩) hS (fun q _ h => hFc q h) hFc (fun r_1 u t H locs ht hvm hw hB hz1 hk1 hS => ?_)
  obtain ⟨hP, hD⟩ := af_join (wr := []) (w1 := [(h, .inr (10, [.ref h_all, .ref h_has, .int f_size, .int f_next, .int f_where, .int f_token, .int f_number, .int f_sign, .int f_word, .int f_wrong, .int f_open, .int f_lines, .int f_acts, .ref h_line, .ref h_act, .ref h_pile, .ref h_comes, .ref h_leaves, .ref h_tried, .ref h_met])), (h_all, .inl (cI, 53700, .inl r_all))]) hB ht hP hD [0, 1] [] rfl rfl (by decide) (by decide) hk1 hFc
  have hP : va_P (dC, dI) vwCl [(h, .inr (10, [.ref h_all, .ref h_has, .int f_size, .int f_next, .int f_where, .int f_token, .int f_number, .int f_sign, .int f_word, .int f_wrong, .int f_open, .int f_lines, .int f_acts, .ref h_line, .ref h_act, .ref h_pile, .ref h_comes, .ref h_leaves, .ref h_tried, .ref h_met])), (h_all, .inl (cI, 53700, .inl r_all))] _ := hP
  have hD : va_D A [(h, .inr (10, [.ref h_all, .ref h_has, .int f_size, .int f_next, .int f_where, .int f_token, .int f_number, .int f_sign, .int f_word, .int f_wrong, .int f_open, .int f_lines, .int f_acts, .ref h_line, .ref h_act, .ref h_pile, .ref h_comes, .ref h_leaves, .ref h_tried, .ref h_met])), (h_all, .inl (cI, 53700, .inl r_all))] := hD
  refine lv_iload_n hx hb dX11_there_6 rfl (lv_at hl 2 rfl) ?_
  have hPc := hP.sub (ws' := []) [] rfl
  have hDc := hD.sub (ws' := []) [] (by decide) rfl
  have hFc := va_free (wc := []) hD hS hA [] rfl
  refine va_calli (va_runS (As := [.int x2]) (rest := [.int r_1]) ⟨hx, hb, hml, hown, hts⟩ (kX11_rowTo l dC dI cI cZ cO cW H.size x2 _ hw) (va_cwS 1 hts (gS gw_766 gw_767 gw_622 (gM gw_762)) rfl rfl rfl (by decide +kernel) ⟨Nat.le_of_ble_eq_true rfl, Nat.le_of_ble_eq_true rfl⟩) (ps_of hPc hK hDc) rfl rfl hl.1 rfl (lv_room (Nat.le_of_ble_eq_true rfl)) dX11_there_7 ⟨Nat.zero_le _, Nat.zero_le _⟩) hS (fun q _ h => hFc q h) hFc (fun r_2 u t H locs ht hvm hw hB hz1 hk1 hS => ?_)
  obtain ⟨hP, hD⟩ := af_join (wr := [(h, .inr (10, [.ref h_all, .ref h_has, .int f_size, .int f_next, .int f_where, .int f_token, .int f_number, .int f_sign, .int f_word, .int f_wrong, .int f_open, .int f_lines, .int f_acts, .ref h_line, .ref h_act, .ref h_pile, .ref h_comes, .ref h_leaves, .ref h_tried, .ref h_met])), (h_all, .inl (cI, 53700, .inl r_all))]) (w1 := []) hB ht hP hD [] [0, 1] rfl rfl (by decide) (by decide) hk1 hFc
  have hP : va_P (dC, dI) vwCl [(h, .inr (10, [.ref h_all, .ref h_has, .int f_size, .int f_next, .int f_where, .int f_token, .int f_number, .int f_sign, .int f_word, .int f_wrong, .int f_open, .int f_lines, .int f_acts, .ref h_line, .ref h_act, .ref h_pile, .ref h_comes, .ref h_leaves, .ref h_tried, .ref h_met])), (h_all, .inl (cI, 53700, .inl r_all))] _ := hP
  have hD : va_D A [(h, .inr (10, [.ref h_all, .ref h_has, .int f_size, .int f_next, .int f_where, .int f_token, .int f_number, .int f_sign, .int f_word, .int f_wrong, .int f_open, .int f_lines, .int f_acts, .ref h_line, .ref h_act, .ref h_pile, .ref h_comes, .ref h_leaves, .ref h_tried, .ref h_met])), (h_all, .inl (cI, 53700, .inl r_all))] := hD
  refine lv_iadd hx hb dX11_there_10 ?_
  refine lv_istore_n (lv' := [(3, .int (r_1 + r_2)), (0, .ref h), (1, .int x1), (2, .int x2)]) hx hb dX11_there_11 rfl hl (by decide) rfl (fun ls hl => ?_)
  refine lv_aload_n hx hb dX11_there_12 rfl (lv_at hl 1 rfl) ?_
  refine lv_iload_n hx hb dX11_there_13 rfl (lv_at hl 2 rfl) ?_
  refine lv_iconst (v := (3 : Int32)) hx hb dX11_there_14 (by decide) ?_
  have hPc := hP.sub (ws' := [(h, .inr (10, [.ref h_all, .ref h_has, .int f_size, .int f_next, .int f_where, .int f_token, .int f_number, .int f_sign, .int f_word, .int f_wrong, .int f_open, .int f_lines, .int f_acts, .ref h_line, .ref h_act, .ref h_pile, .ref h_comes, .ref h_leaves, .ref h_tried, .ref h_met])), (h_all, .inl (cI, 53700, .inl r_all))]) [0, 1] rfl
  have hDc := hD.sub (ws' := [(h, .inr (10, [.ref h_all, .ref h_has, .int f_size, .int f_next, .int f_where, .int f_token, .int f_number, .int f_sign, .int f_word, .int f_wrong, .int f_open, .int f_lines, .int f_acts, .ref h_line, .ref h_act, .ref h_pile, .ref h_comes, .ref h_leaves, .ref h_tried, .ref h_met])), (h_all, .inl (cI, 53700, .inl r_all))]) [0, 1] (by decide) rfl
  have hFc := va_free (wc := [(h, .inr (10, [.ref h_all, .ref h_has, .int f_size, .int f_next, .int f_where, .int f_token, .int f_number, .int f_sign, .int f_word, .int f_wrong, .int f_open, .int f_lines, .int f_acts, .ref h_line, .ref h_act, .ref h_pile, .ref h_comes, .ref h_leaves, .ref h_tried, .ref h_met])), (h_all, .inl (cI, 53700, .inl r_all))]) hD hS hA [0, 1] rfl
  refine va_calli (va_runV (As := [.int x1, .int (3 : Int32)]) (rest := []) ⟨hx, hb, hml, hown, hts⟩ (kX11_its l dC dI cI cZ cO cW h h_all h_has h_line h_act h_pile h_comes h_leaves h_tried h_met H.size f_size f_next f_where f_token f_number f_sign f_word f_wrong f_open f_lines f_acts r_all x1 (3 : Int32) _ hw) (cwV 2 hts (gV gw_640 gw_641 gw_642 gw_622 (gM gw_637)) rfl rfl rfl (by decide +kernel) ⟨Nat.le_of_ble_eq_true rfl, Nat.le_of_ble_eq_true rfl⟩) (pv_of hPc hK hDc (va_recv hK hPc (ci := 10) (q0 := 0) rfl rfl)) rfl rfl hl.1 rfl (lv_room (Nat.le_of_ble_eq_true rfl)) dX11_there_15 ⟨Nat.zero_le _, Nat.zero_le _⟩) hS (fun q _ h => hFc q h) hFc (fun r_3 u t H locs ht hvm hw hB hz1 hk1 hS => ?_)
  obtain ⟨hP, hD⟩ := af_join (wr := []) (w1 := [(h, .inr (10, [.ref h_all, .ref h_has, .int f_size, .int f_next, .int f_where, .int f_token, .int f_number, .int f_sign, .int f_word, .int f_wrong, .int f_open, .int f_lines, .int f_acts, .ref h_line, .ref h_act, .ref h_pile, .ref h_comes, .ref h_leaves, .ref h_tried, .ref h_met])), (h_all, .inl (cI, 53700, .inl r_all))]) hB ht hP hD [0, 1] [] rfl rfl (by decide) (by decide) hk1 hFc
  have hP : va_P (dC, dI) vwCl [(h, .inr (10, [.ref h_all, .ref h_has, .int f_size, .int f_next, .int f_where, .int f_token, .int f_number, .int f_sign, .int f_word, .int f_wrong, .int f_open, .int f_lines, .int f_acts, .ref h_line, .ref h_act, .ref h_pile, .ref h_comes, .ref h_leaves, .ref h_tried, .ref h_met])), (h_all, .inl (cI, 53700, .inl r_all))] _ := hP
  have hD : va_D A [(h, .inr (10, [.ref h_all, .ref h_has, .int f_size, .int f_next, .int f_where, .int f_token, .int f_number, .int f_sign, .int f_word, .int f_wrong, .int f_open, .int f_lines, .int f_acts, .ref h_line, .ref h_act, .ref h_pile, .ref h_comes, .ref h_leaves, .ref h_tried, .ref h_met])), (h_all, .inl (cI, 53700, .inl r_all))] := hD
  refine lv_iload_n hx hb dX11_there_18 rfl (lv_at hl 3 rfl) ?_
  have hPc := hP.sub (ws' := []) [] rfl
  have hDc := hD.sub (ws' := []) [] (by decide) rfl
  have hFc := va_free (wc := []) hD hS hA [] rfl
  refine va_calli (va_runS (As := [.int x2]) (rest := [.int r_3]) ⟨hx, hb, hml, hown, hts⟩ (kX11_columnTo l dC dI cI cZ cO cW H.size x2 _ hw) (va_cwS 1 hts (gS gw_768 gw_769 gw_622 (gM gw_763)) rfl rfl rfl (by decide +kernel) ⟨Nat.le_of_ble_eq_true rfl, Nat.le_of_ble_eq_true rfl⟩) (ps_of hPc hK hDc) rfl rfl hl.1 rfl (lv_room (Nat.le_of_ble_eq_true rfl)) dX11_there_19 ⟨Nat.zero_le _, Nat.zero_le _⟩) hS (fun q _ h => hFc q h) hFc (fun r_4 u t H locs ht hvm hw hB hz1 hk1 hS => ?_)
  obtain ⟨hP, hD⟩ := af_join (wr := [(h, .inr (10, [.ref h_all, .ref h_has, .int f_size, .int f_next, .int f_where, .int f_token, .int f_number, .int f_sign, .int f_word, .int f_wrong, .int f_open, .int f_lines, .int f_acts, .ref h_line, .ref h_act, .ref h_pile, .ref h_comes, .ref h_leaves, .ref h_tried, .ref h_met])), (h_all, .inl (cI, 53700, .inl r_all))]) (w1 := []) hB ht hP hD [] [0, 1] rfl rfl (by decide) (by decide) hk1 hFc
  have hP : va_P (dC, dI) vwCl [(h, .inr (10, [.ref h_all, .ref h_has, .int f_size, .int f_next, .int f_where, .int f_token, .int f_number, .int f_sign, .int f_word, .int f_wrong, .int f_open, .int f_lines, .int f_acts, .ref h_line, .ref h_act, .ref h_pile, .ref h_comes, .ref h_leaves, .ref h_tried, .ref h_met])), (h_all, .inl (cI, 53700, .inl r_all))] _ := hP
  have hD : va_D A [(h, .inr (10, [.ref h_all, .ref h_has, .int f_size, .int f_next, .int f_where, .int f_token, .int f_number, .int f_sign, .int f_word, .int f_wrong, .int f_open, .int f_lines, .int f_acts, .ref h_line, .ref h_act, .ref h_pile, .ref h_comes, .ref h_leaves, .ref h_tried, .ref h_met])), (h_all, .inl (cI, 53700, .inl r_all))] := hD
  refine lv_iadd hx hb dX11_there_22 ?_
  refine lv_istore (lv' := [(4, .int (r_3 + r_4)), (3, .int (r_1 + r_2)), (0, .ref h), (1, .int x1), (2, .int x2)]) hx hb dX11_there_23 hl (by decide) rfl (fun ls hl => ?_)
  refine lv_aload_n hx hb dX11_there_25 rfl (lv_at hl 2 rfl) ?_
  refine lv_iload_n hx hb dX11_there_26 rfl (lv_at hl 1 rfl) ?_
  refine lv_iload hx hb dX11_there_27 (lv_at hl 0 rfl) ?_
  have hPc := hP.sub (ws' := [(h, .inr (10, [.ref h_all, .ref h_has, .int f_size, .int f_next, .int f_where, .int f_token, .int f_number, .int f_sign, .int f_word, .int f_wrong, .int f_open, .int f_lines, .int f_acts, .ref h_line, .ref h_act, .ref h_pile, .ref h_comes, .ref h_leaves, .ref h_tried, .ref h_met])), (h_all, .inl (cI, 53700, .inl r_all))]) [0, 1] rfl
  have hDc := hD.sub (ws' := [(h, .inr (10, [.ref h_all, .ref h_has, .int f_size, .int f_next, .int f_where, .int f_token, .int f_number, .int f_sign, .int f_word, .int f_wrong, .int f_open, .int f_lines, .int f_acts, .ref h_line, .ref h_act, .ref h_pile, .ref h_comes, .ref h_leaves, .ref h_tried, .ref h_met])), (h_all, .inl (cI, 53700, .inl r_all))]) [0, 1] (by decide) rfl
  have hFc := va_free (wc := [(h, .inr (10, [.ref h_all, .ref h_has, .int f_size, .int f_next, .int f_where, .int f_token, .int f_number, .int f_sign, .int f_word, .int f_wrong, .int f_open, .int f_lines, .int f_acts, .ref h_line, .ref h_act, .ref h_pile, .ref h_comes, .ref h_leaves, .ref h_tried, .ref h_met])), (h_all, .inl (cI, 53700, .inl r_all))]) hD hS hA [0, 1] rfl
  refine va_calli (va_runV (As := [.int (r_1 + r_2), .int (r_3 + r_4)]) (rest := []) ⟨hx, hb, hml, hown, hts⟩ (kX11_isSea l dC dI cI cZ cO cW h h_all h_has h_line h_act h_pile h_comes h_leaves h_tried h_met H.size f_size f_next f_where f_token f_number f_sign f_word f_wrong f_open f_lines f_acts r_all (r_1 + r_2) (r_3 + r_4) _ hw) (cwV 2 hts (gV gw_651 gw_652 gw_653 gw_622 (gM gw_630)) rfl rfl rfl (by decide +kernel) ⟨Nat.le_of_ble_eq_true rfl, Nat.le_of_ble_eq_true rfl⟩) (pv_of hPc hK hDc (va_recv hK hPc (ci := 10) (q0 := 0) rfl rfl)) rfl rfl hl.1 rfl (lv_room (Nat.le_of_ble_eq_true rfl)) dX11_there_29 ⟨Nat.zero_le _, Nat.zero_le _⟩) hS (fun q _ h => hFc q h) hFc (fun r_5 u t H locs ht hvm hw hB hz1 hk1 hS => ?_)
  obtain ⟨hP, hD⟩ := af_join (wr := []) (w1 := [(h, .inr (10, [.ref h_all, .ref h_has, .int f_size, .int f_next, .int f_where, .int f_token, .int f_number, .int f_sign, .int f_word, .int f_wrong, .int f_open, .int f_lines, .int f_acts, .ref h_line, .ref h_act, .ref h_pile, .ref h_comes, .ref h_leaves, .ref h_tried, .ref h_met])), (h_all, .inl (cI, 53700, .inl r_all))]) hB ht hP hD [0, 1] [] rfl rfl (by decide) (by decide) hk1 hFc
  have hP : va_P (dC, dI) vwCl [(h, .inr (10, [.ref h_all, .ref h_has, .int f_size, .int f_next, .int f_where, .int f_token, .int f_number, .int f_sign, .int f_word, .int f_wrong, .int f_open, .int f_lines, .int f_acts, .ref h_line, .ref h_act, .ref h_pile, .ref h_comes, .ref h_leaves, .ref h_tried, .ref h_met])), (h_all, .inl (cI, 53700, .inl r_all))] _ := hP
  have hD : va_D A [(h, .inr (10, [.ref h_all, .ref h_has, .int f_size, .int f_next, .int f_where, .int f_token, .int f_number, .int f_sign, .int f_word, .int f_wrong, .int f_open, .int f_lines, .int f_acts, .ref h_line, .ref h_act, .ref h_pile, .ref h_comes, .ref h_leaves, .ref h_tried, .ref h_met])), (h_all, .inl (cI, 53700, .inl r_all))] := hD
  refine lv_if_eq (tgt := 45) hx hb dX11_there_32 (by decide) (fun c_6 => ?_) (fun c_6 => ?_)
  · have hw := hw.1 c_6
    exact tX11_there_45 hC hK hA  r_all _ _ ls hw (hP.sub [0, 1] rfl) (hD.sub [0, 1] (by decide) rfl) hS (lv_sub hl [] rfl)
  · have hw := hw.2 c_6
    refine lv_aload_n hx hb dX11_there_35 rfl (lv_at hl 2 rfl) ?_
    refine lv_iload_n hx hb dX11_there_36 rfl (lv_at hl 1 rfl) ?_
    refine lv_iload hx hb dX11_there_37 (lv_at hl 0 rfl) ?_
    have hPc := hP.sub (ws' := [(h, .inr (10, [.ref h_all, .ref h_has, .int f_size, .int f_next, .int f_where, .int f_token, .int f_number, .int f_sign, .int f_word, .int f_wrong, .int f_open, .int f_lines, .int f_acts, .ref h_line, .ref h_act, .ref h_pile, .ref h_comes, .ref h_leaves, .ref h_tried, .ref h_met])), (h_all, .inl (cI, 53700, .inl r_all))]) [0, 1] rfl
    have hDc := hD.sub (ws' := [(h, .inr (10, [.ref h_all, .ref h_has, .int f_size, .int f_next, .int f_where, .int f_token, .int f_number, .int f_sign, .int f_word, .int f_wrong, .int f_open, .int f_lines, .int f_acts, .ref h_line, .ref h_act, .ref h_pile, .ref h_comes, .ref h_leaves, .ref h_tried, .ref h_met])), (h_all, .inl (cI, 53700, .inl r_all))]) [0, 1] (by decide) rfl
    have hFc := va_free (wc := [(h, .inr (10, [.ref h_all, .ref h_has, .int f_size, .int f_next, .int f_where, .int f_token, .int f_number, .int f_sign, .int f_word, .int f_wrong, .int f_open, .int f_lines, .int f_acts, .ref h_line, .ref h_act, .ref h_pile, .ref h_comes, .ref h_leaves, .ref h_tried, .ref h_met])), (h_all, .inl (cI, 53700, .inl r_all))]) hD hS hA [0, 1] rfl
    refine va_calli (va_runV (As := [.int (r_1 + r_2), .int (r_3 + r_4)]) (rest := []) ⟨hx, hb, hml, hown, hts⟩ (kX11_shipAt l dC dI cI cZ cO cW h h_all h_has h_line h_act h_pile h_comes h_leaves h_tried h_met H.size f_size f_next f_where f_token f_number f_sign f_word f_wrong f_open f_lines f_acts r_all (r_1 + r_2) (r_3 + r_4) _ hw) (cwV 2 hts (gV gw_643 gw_644 gw_645 gw_622 (gM gw_639)) rfl rfl rfl (by decide +kernel) ⟨Nat.le_of_ble_eq_true rfl, Nat.le_of_ble_eq_true rfl⟩) (pv_of hPc hK hDc (va_recv hK hPc (ci := 10) (q0 := 0) rfl rfl)) rfl rfl hl.1 rfl (lv_room (Nat.le_of_ble_eq_true rfl)) dX11_there_39 ⟨Nat.zero_le _, Nat.zero_le _⟩) hS (fun q _ h => hFc q h) hFc (fun r_7 u t H locs ht hvm hw hB hz1 hk1 hS => ?_)
    obtain ⟨hP, hD⟩ := af_join (wr := []) (w1 := [(h, .inr (10, [.ref h_all, .ref h_has, .int f_size, .int f_next, .int f_where, .int f_token, .int f_number, .int f_sign, .int f_word, .int f_wrong, .int f_open, .int f_lines, .int f_acts, .ref h_line, .ref h_act, .ref h_pile, .ref h_comes, .ref h_leaves, .ref h_tried, .ref h_met])), (h_all, .inl (cI, 53700, .inl r_all))]) hB ht hP hD [0, 1] [] rfl rfl (by decide) (by decide) hk1 hFc
    have hP : va_P (dC, dI) vwCl [(h, .inr (10, [.ref h_all, .ref h_has, .int f_size, .int f_next, .int f_where, .int f_token, .int f_number, .int f_sign, .int f_word, .int f_wrong, .int f_open, .int f_lines, .int f_acts, .ref h_line, .ref h_act, .ref h_pile, .ref h_comes, .ref h_leaves, .ref h_tried, .ref h_met])), (h_all, .inl (cI, 53700, .inl r_all))] _ := hP
    have hD : va_D A [(h, .inr (10, [.ref h_all, .ref h_has, .int f_size, .int f_next, .int f_where, .int f_token, .int f_number, .int f_sign, .int f_word, .int f_wrong, .int f_open, .int f_lines, .int f_acts, .ref h_line, .ref h_act, .ref h_pile, .ref h_comes, .ref h_leaves, .ref h_tried, .ref h_met])), (h_all, .inl (cI, 53700, .inl r_all))] := hD
    refine lv_if_lt (tgt := 51) hx hb dX11_there_42 (by decide) (fun c_8 => ?_) (fun c_8 => ?_)
    · have hw := hw.1 c_8
      refine lv_aload_n hx hb dX11_there_51 rfl (lv_at hl 2 rfl) ?_
      refine lv_iload_n hx hb dX11_there_52 rfl (lv_at hl 1 rfl) ?_
      refine lv_iload hx hb dX11_there_53 (lv_at hl 0 rfl) ?_
      have hPc := hP.sub (ws' := [(h, .inr (10, [.ref h_all, .ref h_has, .int f_size, .int f_next, .int f_where, .int f_token, .int f_number, .int f_sign, .int f_word, .int f_wrong, .int f_open, .int f_lines, .int f_acts, .ref h_line, .ref h_act, .ref h_pile, .ref h_comes, .ref h_leaves, .ref h_tried, .ref h_met])), (h_all, .inl (cI, 53700, .inl r_all))]) [0, 1] rfl
      have hDc := hD.sub (ws' := [(h, .inr (10, [.ref h_all, .ref h_has, .int f_size, .int f_next, .int f_where, .int f_token, .int f_number, .int f_sign, .int f_word, .int f_wrong, .int f_open, .int f_lines, .int f_acts, .ref h_line, .ref h_act, .ref h_pile, .ref h_comes, .ref h_leaves, .ref h_tried, .ref h_met])), (h_all, .inl (cI, 53700, .inl r_all))]) [0, 1] (by decide) rfl
      have hFc := va_free (wc := [(h, .inr (10, [.ref h_all, .ref h_has, .int f_size, .int f_next, .int f_where, .int f_token, .int f_number, .int f_sign, .int f_word, .int f_wrong, .int f_open, .int f_lines, .int f_acts, .ref h_line, .ref h_act, .ref h_pile, .ref h_comes, .ref h_leaves, .ref h_tried, .ref h_met])), (h_all, .inl (cI, 53700, .inl r_all))]) hD hS hA [0, 1] rfl
      refine va_calli (va_runV (As := [.int (r_1 + r_2), .int (r_3 + r_4)]) (rest := []) ⟨hx, hb, hml, hown, hts⟩ (kX11_burden l dC dI cI cZ cO cW h h_all h_has h_line h_act h_pile h_comes h_leaves h_tried h_met H.size f_size f_next f_where f_token f_number f_sign f_word f_wrong f_open f_lines f_acts r_all (r_1 + r_2) (r_3 + r_4) _ hw) (cwV 2 hts (gV gw_770 gw_771 gw_772 gw_622 (gM gw_764)) rfl rfl rfl (by decide +kernel) ⟨Nat.le_of_ble_eq_true rfl, Nat.le_of_ble_eq_true rfl⟩) (pv_of hPc hK hDc (va_recv hK hPc (ci := 10) (q0 := 0) rfl rfl)) rfl rfl hl.1 rfl (lv_room (Nat.le_of_ble_eq_true rfl)) dX11_there_55 ⟨Nat.zero_le _, Nat.zero_le _⟩) hS (fun q _ h => hFc q h) hFc (fun r_9 u t H locs ht hvm hw hB hz1 hk1 hS => ?_)
      obtain ⟨hP, hD⟩ := af_join (wr := []) (w1 := [(h, .inr (10, [.ref h_all, .ref h_has, .int f_size, .int f_next, .int f_where, .int f_token, .int f_number, .int f_sign, .int f_word, .int f_wrong, .int f_open, .int f_lines, .int f_acts, .ref h_line, .ref h_act, .ref h_pile, .ref h_comes, .ref h_leaves, .ref h_tried, .ref h_met])), (h_all, .inl (cI, 53700, .inl r_all))]) hB ht hP hD [0, 1] [] rfl rfl (by decide) (by decide) hk1 hFc
      have hP : va_P (dC, dI) vwCl [(h, .inr (10, [.ref h_all, .ref h_has, .int f_size, .int f_next, .int f_where, .int f_token, .int f_number, .int f_sign, .int f_word, .int f_wrong, .int f_open, .int f_lines, .int f_acts, .ref h_line, .ref h_act, .ref h_pile, .ref h_comes, .ref h_leaves, .ref h_tried, .ref h_met])), (h_all, .inl (cI, 53700, .inl r_all))] _ := hP
      have hD : va_D A [(h, .inr (10, [.ref h_all, .ref h_has, .int f_size, .int f_next, .int f_where, .int f_token, .int f_number, .int f_sign, .int f_word, .int f_wrong, .int f_open, .int f_lines, .int f_acts, .ref h_line, .ref h_act, .ref h_pile, .ref h_comes, .ref h_leaves, .ref h_tried, .ref h_met])), (h_all, .inl (cI, 53700, .inl r_all))] := hD
      have hP9 := hP.sub (ws' := (vX11_there cI cZ h h_all h_has h_line h_act h_pile h_comes h_leaves h_tried h_met f_size f_next f_where f_token f_number f_sign f_word f_wrong f_open f_lines f_acts r_all)) [0, 1] rfl
      have hD9 := hD.sub (ws' := (vX11_there cI cZ h h_all h_has h_line h_act h_pile h_comes h_leaves h_tried h_met f_size f_next f_where f_token f_number f_sign f_word f_wrong f_open f_lines f_acts r_all)) [0, 1] (by decide) rfl
      exact W.iret (v := r_9) hx hb hr (fun t ht hW => ⟨⟨r_9, (), rfl, hw, by rw [ht]; exact hP9, va_K.moved hW.alike hK, hD9⟩, hS.F ht⟩) hS.2.2 dX11_there_58
    · have hw := hw.2 c_8
      exact tX11_there_45 hC hK hA  r_all _ _ ls hw (hP.sub [0, 1] rfl) (hD.sub [0, 1] (by decide) rfl) hS (lv_sub hl [] rfl)
set_option maxHeartbeats 4000000 in
set_option maxRecDepth 100000 in
theorem kX11_there (l : Launch) (dC : Nat → ClassId) (dI : Nat → Nat → Nat) (cI cZ cO cW : ClassId) (h h_all h_has h_line h_act h_pile h_comes h_leaves h_tried h_met : Nat)  (sz : Nat) (f_size : Int32) (f_next : Int32) (f_where : Int32) (f_token : Int32) (f_number : Int32) (f_sign : Int32) (f_word : Int32) (f_wrong : Int32) (f_open : Int32) (f_lines : Int32) (f_acts : Int32) (r_all : Nat → Int32) (x1 : Int32) (x2 : Int32) (Q : Int32 → Prop) (hw : wX11_there Q x1 x2 r_all) : Met l yX11_there zsX11_there rmX11_there (va_Pc [.ref h, .int x1, .int x2] (fun U => U.heap.size = sz ∧ va_P (dC, dI) vwCl (vX11_there cI cZ h h_all h_has h_line h_act h_pile h_comes h_leaves h_tried h_met f_size f_next f_where f_token f_number f_sign f_word f_wrong f_open f_lines f_acts r_all) U.heap ∧ va_K (dC, dI) vwCl (tysA cI cZ cO cW) U ∧ va_D (fun _ => True) (vX11_there cI cZ h h_all h_has h_line h_act h_pile h_comes h_leaves h_tried h_met f_size f_next f_where f_token f_number f_sign f_word f_wrong f_open f_lines f_acts r_all))) (qX11_there dC dI cI cZ cO cW h h_all h_has h_line h_act h_pile h_comes h_leaves h_tried h_met f_size f_next f_where f_token f_number f_sign f_word f_wrong f_open f_lines f_acts r_all Q (va_A (vX11_there cI cZ h h_all h_has h_line h_act h_pile h_comes h_leaves h_tried h_met f_size f_next f_where f_token f_number f_sign f_word f_wrong f_open f_lines f_acts r_all) sz)) 0 0 (va_A (vX11_there cI cZ h h_all h_has h_line h_act h_pile h_comes h_leaves h_tried h_met f_size f_next f_where f_token f_number f_sign f_word f_wrong f_open f_lines f_acts r_all) sz) := by
  refine Met.ofW (cc := cX11_there) (maxL := 5) (ret := (some .int)) (by decide) rfl ?_
  intro p e s m args below meth c s₁ B hml hv
  obtain ⟨rfl, hsz, hP, hK, hD0⟩ := hv
  subst hsz
  have hC : Cx p s m ([.ref h, .int x1, .int x2] : List Value).toArray meth c cX11_there (some .int) 5 GW RX11 := ⟨B.exec, B.bytes, B.returns, hml, findClass_of_methodNamed B.named, fun w h => atoms_spec (ws := zsX11_there) B.pre w (List.mem_cons_of_mem _ h), B.notSynchronized⟩
  have hD := hD0.self (sz := s.heap.size)
  generalize hAe : va_A (vX11_there cI cZ h h_all h_has h_line h_act h_pile h_comes h_leaves h_tried h_met f_size f_next f_where f_token f_number f_sign f_word f_wrong f_open f_lines f_acts r_all) s.heap.size = A at hD ⊢
  have hA : ∀ q : Nat, s.heap.size ≤ q → A q := fun q h => by rw [← hAe]; exact Or.inr h
  have hl := lv_entry ([.ref h, .int x1, .int x2]) (n := 5) (Nat.le_of_ble_eq_true rfl)
  rw [lg_entry_eq]
  generalize (lg_sl ([.ref h, .int x1, .int x2]) ++ List.replicate (5 - (lg_sl ([.ref h, .int x1, .int x2])).length) Slot.unset).toArray = ls at hl ⊢
  exact tX11_there_e hC hK hA x1 x2 r_all _ _ ls hw hP hD va_S.rf hl

/-! X11_asked -/
def wX11_asked_157 (Q : Int32 → Prop) (K_135 : Int32 → Int32 → Int32 → (Nat → Int32) → Prop)  (x1 : Int32) (x4 : Int32) (s0 : Int32) (s1 : Int32) (r_all : (Nat → Int32)) : Prop :=
  (K_135 x1 (s0 + s1) (x4 + (1 : Int32)) r_all)
def wX11_asked_135 (Q : Int32 → Prop)   : Nat → Int32 → Int32 → Int32 → (Nat → Int32) → Prop
  | 0, _, _, _, _ => False
  | n + 1, x1, x3, x4, r_all => (((4 : Int32) ≤ x4 → (Q x3)) ∧ (¬ (4 : Int32) ≤ x4 → (wX11_beside (fun r_2 => ((r_2 < 0 → (wX11_asked_157 Q (wX11_asked_135 Q n) x1 x4 x3 (0 : Int32) r_all)) ∧ (¬ r_2 < 0 → (wX11_asked_157 Q (wX11_asked_135 Q n) x1 x4 x3 (1 : Int32) r_all)))) x1 x4 r_all)))
def wX11_asked (Q : Int32 → Prop) (x1 : Int32) (x2 : Int32) (r_all : Nat → Int32) : Prop :=
  ((x2 = (0 : Int32) → (vp_in (3 : Int32) 53700 ∧ (Q (r_all (3 : Int32).toNatClampNeg)))) ∧ (x2 = (1 : Int32) → (wX11_its (fun r_8 => (wX11_its (fun r_9 => (wX11_of (fun r_10 => (Q r_10)) r_8 r_9 (1 : Int32) r_all)) x1 (3 : Int32) r_all)) x1 (2 : Int32) r_all)) ∧ (x2 = (2 : Int32) → (wX11_its (fun r_11 => (wX11_its (fun r_12 => (wX11_of (fun r_13 => (Q r_13)) r_11 r_12 (2 : Int32) r_all)) x1 (3 : Int32) r_all)) x1 (2 : Int32) r_all)) ∧ (x2 = (3 : Int32) → (wX11_its (fun r_14 => (Q r_14)) x1 (1 : Int32) r_all)) ∧ (x2 = (4 : Int32) → (wX11_isHeld (fun r_15 => ((r_15 = 0 → (Q (0 : Int32))) ∧ (¬ r_15 = 0 → (Q (1 : Int32))))) x1 r_all)) ∧ (x2 = (5 : Int32) → (∃ j_, wX11_asked_135 Q j_ x1 (0 : Int32) (0 : Int32) r_all)) ∧ (x2 = (6 : Int32) → (wX11_its (fun r_18 => (Q r_18)) x1 (2 : Int32) r_all)) ∧ (x2 = (7 : Int32) → (wX11_its (fun r_19 => (Q r_19)) x1 (3 : Int32) r_all)) ∧ (x2 = (8 : Int32) → (wX11_there (fun r_20 => (Q r_20)) x1 (x2 - (8 : Int32)) r_all)) ∧ (x2 = (9 : Int32) → (wX11_there (fun r_21 => (Q r_21)) x1 (x2 - (8 : Int32)) r_all)) ∧ (x2 = (10 : Int32) → (wX11_there (fun r_22 => (Q r_22)) x1 (x2 - (8 : Int32)) r_all)) ∧ (x2 = (11 : Int32) → (wX11_there (fun r_23 => (Q r_23)) x1 (x2 - (8 : Int32)) r_all)) ∧ (x2 = (12 : Int32) → (wX11_its (fun r_24 => (Q r_24)) x1 (4 : Int32) r_all)) ∧ ((x2.toInt < (0 : Int) ∨ (12 : Int) < x2.toInt) → (wX11_there (fun r_6 => (Q r_6)) x1 (x2 - (8 : Int32)) r_all)))
abbrev vX11_asked (cI cZ : ClassId) (h h_all h_has h_line h_act h_pile h_comes h_leaves h_tried h_met : Nat) (f_size : Int32) (f_next : Int32) (f_where : Int32) (f_token : Int32) (f_number : Int32) (f_sign : Int32) (f_word : Int32) (f_wrong : Int32) (f_open : Int32) (f_lines : Int32) (f_acts : Int32) (r_all : Nat → Int32) : va_W := [(h, .inr (10, [.ref h_all, .ref h_has, .int f_size, .int f_next, .int f_where, .int f_token, .int f_number, .int f_sign, .int f_word, .int f_wrong, .int f_open, .int f_lines, .int f_acts, .ref h_line, .ref h_act, .ref h_pile, .ref h_comes, .ref h_leaves, .ref h_tried, .ref h_met])), (h_all, .inl (cI, 53700, .inl r_all))]
abbrev rmX11_asked : Room := { frames := 4, cells := 0, slots := 0, locals := 91 }
abbrev qX11_asked (dC : Nat → ClassId) (dI : Nat → Nat → Nat) (cI cZ cO cW : ClassId) (h h_all h_has h_line h_act h_pile h_comes h_leaves h_tried h_met : Nat) (f_size : Int32) (f_next : Int32) (f_where : Int32) (f_token : Int32) (f_number : Int32) (f_sign : Int32) (f_word : Int32) (f_wrong : Int32) (f_open : Int32) (f_lines : Int32) (f_acts : Int32) (r_all : Nat → Int32) (Q : Int32 → Prop) (A : Nat → Prop) : Array Value → State → Outcome → State → Prop := va_Qi (fun (r : Int32) (u : Unit) => Q r) (fun (u : Unit) (t : State) => va_P (dC, dI) vwCl (vX11_asked cI cZ h h_all h_has h_line h_act h_pile h_comes h_leaves h_tried h_met f_size f_next f_where f_token f_number f_sign f_word f_wrong f_open f_lines f_acts r_all) t.heap ∧ va_K (dC, dI) vwCl (tysA cI cZ cO cW) t ∧ va_D A (vX11_asked cI cZ h h_all h_has h_line h_act h_pile h_comes h_leaves h_tried h_met f_size f_next f_where f_token f_number f_sign f_word f_wrong f_open f_lines f_acts r_all)) A
def zsX11_asked : List Cond := Cond.code yX11_asked cX11_asked 5 (some .int) :: GW
set_option maxHeartbeats 4000000 in
set_option maxRecDepth 100000 in
theorem tX11_asked_157 {p : Program} {l : Launch} {e : Env} {s : State} {m : MethodId} {args : Array Value} {below : List Frame} {meth : Method} {c : Code} {dC : Nat → ClassId} {dI : Nat → Nat → Nat} {cI cZ cO cW : ClassId} {A : Nat → Prop} {h h_all h_has h_line h_act h_pile h_comes h_leaves h_tried h_met : Nat} {f_size f_next f_where f_token f_number f_sign f_word f_wrong f_open f_lines f_acts : Int32} {Q : Int32 → Prop} {K_135 : Int32 → Int32 → Int32 → (Nat → Int32) → Prop} (hC : Cx p s m args meth c cX11_asked (some .int) 5 GW RX11) (hK : va_K (dC, dI) vwCl (tysA cI cZ cO cW) s) (hA : ∀ q : Nat, s.heap.size ≤ q → A q) (hk_135 : ∀ (x1 : Int32) (x3 : Int32) (x4 : Int32) (r_all : (Nat → Int32)) (H : Heap) (locs : List Loc) (ls : Array Slot), K_135 x1 x3 x4 r_all → va_P (dC, dI) vwCl (vX11_asked cI cZ h h_all h_has h_line h_act h_pile h_comes h_leaves h_tried h_met f_size f_next f_where f_token f_number f_sign f_word f_wrong f_open f_lines f_acts r_all) H → va_D A (vX11_asked cI cZ h h_all h_has h_line h_act h_pile h_comes h_leaves h_tried h_met f_size f_next f_where f_token f_number f_sign f_word f_wrong f_open f_lines f_acts r_all) → va_S A s.heap H locs → lv_has ls 5 [(0, .ref h), (1, .int x1), (3, .int x3), (4, .int x4)] → W p l e rmX11_asked s m args below meth c H locs 0 0 (MQ below (qX11_asked dC dI cI cZ cO cW h h_all h_has h_line h_act h_pile h_comes h_leaves h_tried h_met f_size f_next f_where f_token f_number f_sign f_word f_wrong f_open f_lines f_acts r_all Q A) args s 0 0 A) (F0 m 135 ls [])) :
    ∀ (x1 : Int32) (x4 : Int32) (s0 : Int32) (s1 : Int32) (r_all : (Nat → Int32)) (H : Heap) (locs : List Loc) (ls : Array Slot), wX11_asked_157 Q K_135 x1 x4 s0 s1 r_all → va_P (dC, dI) vwCl (vX11_asked cI cZ h h_all h_has h_line h_act h_pile h_comes h_leaves h_tried h_met f_size f_next f_where f_token f_number f_sign f_word f_wrong f_open f_lines f_acts r_all) H → va_D A (vX11_asked cI cZ h h_all h_has h_line h_act h_pile h_comes h_leaves h_tried h_met f_size f_next f_where f_token f_number f_sign f_word f_wrong f_open f_lines f_acts r_all) → va_S A s.heap H locs → lv_has ls 5 [(0, .ref h), (1, .int x1), (4, .int x4)] → W p l e rmX11_asked s m args below meth c H locs 0 0 (MQ below (qX11_asked dC dI cI cZ cO cW h h_all h_has h_line h_act h_pile h_comes h_leaves h_tried h_met f_size f_next f_where f_token f_number f_sign f_word f_wrong f_open f_lines f_acts r_all Q A) args s 0 0 A) (F0 m 157 ls [.int s1, .int s0]) := by
  obtain ⟨hx, hb, hr, hml, hown, hts, hlocks⟩ := id hC
  intro x1 x4 s0 s1 r_all H locs ls hw hP hD hS hl
  refine lv_iadd hx hb dX11_asked_157 ?_
  refine lv_istore_n (lv' := [(3, .int (s0 + s1)), (0, .ref h), (1, .int x1), (4, .int x4)]) hx hb dX11_asked_158 rfl hl (by decide) rfl (fun ls hl => ?_)
  refine lv_iinc (v := (x4 + (1 : Int32))) (lv' := [(4, .int (x4 + (1 : Int32))), (3, .int (s0 + s1)), (0, .ref h), (1, .int x1)]) hx hb dX11_asked_159 hl (k := 3) rfl rfl (by decide) rfl (fun ls hl => ?_)
  refine lv_goto (tgt := 135) hx hb dX11_asked_162 (by decide) ?_
  exact hk_135 x1 (s0 + s1) (x4 + (1 : Int32)) r_all _ _ ls hw (hP.sub [0, 1] rfl) (hD.sub [0, 1] (by decide) rfl) hS (lv_sub hl [2, 3, 1, 0] rfl)
set_option maxHeartbeats 4000000 in
set_option maxRecDepth 100000 in
theorem tX11_asked_135 {p : Program} {l : Launch} {e : Env} {s : State} {m : MethodId} {args : Array Value} {below : List Frame} {meth : Method} {c : Code} {dC : Nat → ClassId} {dI : Nat → Nat → Nat} {cI cZ cO cW : ClassId} {A : Nat → Prop} {h h_all h_has h_line h_act h_pile h_comes h_leaves h_tried h_met : Nat} {f_size f_next f_where f_token f_number f_sign f_word f_wrong f_open f_lines f_acts : Int32} {Q : Int32 → Prop}  (hC : Cx p s m args meth c cX11_asked (some .int) 5 GW RX11) (hK : va_K (dC, dI) vwCl (tysA cI cZ cO cW) s) (hA : ∀ q : Nat, s.heap.size ≤ q → A q) :
    ∀ (n : Nat) (x1 : Int32) (x3 : Int32) (x4 : Int32) (r_all : (Nat → Int32)) (H : Heap) (locs : List Loc) (ls : Array Slot), wX11_asked_135 Q  n x1 x3 x4 r_all → va_P (dC, dI) vwCl (vX11_asked cI cZ h h_all h_has h_line h_act h_pile h_comes h_leaves h_tried h_met f_size f_next f_where f_token f_number f_sign f_word f_wrong f_open f_lines f_acts r_all) H → va_D A (vX11_asked cI cZ h h_all h_has h_line h_act h_pile h_comes h_leaves h_tried h_met f_size f_next f_where f_token f_number f_sign f_word f_wrong f_open f_lines f_acts r_all) → va_S A s.heap H locs → lv_has ls 5 [(0, .ref h), (1, .int x1), (3, .int x3), (4, .int x4)] → W p l e rmX11_asked s m args below meth c H locs 0 0 (MQ below (qX11_asked dC dI cI cZ cO cW h h_all h_has h_line h_act h_pile h_comes h_leaves h_tried h_met f_size f_next f_where f_token f_number f_sign f_word f_wrong f_open f_lines f_acts r_all Q A) args s 0 0 A) (F0 m 135 ls []) := by
  obtain ⟨hx, hb, hr, hml, hown, hts, hlocks⟩ := id hC
  intro n
  induction n with
  | zero =>
    intro  x1 x3 x4 r_all H locs ls hw
    exact hw.elim
  | succ n ih =>
    intro  x1 x3 x4 r_all H locs ls hw hP hD hS hl
    refine lv_iload hx hb dX11_asked_135 (lv_at hl 3 rfl) ?_
    refine lv_iconst (v := (4 : Int32)) hx hb dX11_asked_137 (by decide) ?_
    refine lv_icmp_ge (tgt := 165) hx hb dX11_asked_138 (by decide) (fun c_1 => ?_) (fun c_1 => ?_)
    · have hw := hw.1 c_1
      refine lv_iload_n hx hb dX11_asked_165 rfl (lv_at hl 2 rfl) ?_
      have hP9 := hP.sub (ws' := (vX11_asked cI cZ h h_all h_has h_line h_act h_pile h_comes h_leaves h_tried h_met f_size f_next f_where f_token f_number f_sign f_word f_wrong f_open f_lines f_acts r_all)) [0, 1] rfl
      have hD9 := hD.sub (ws' := (vX11_asked cI cZ h h_all h_has h_line h_act h_pile h_comes h_leaves h_tried h_met f_size f_next f_where f_token f_number f_sign f_word f_wrong f_open f_lines f_acts r_all)) [0, 1] (by decide) rfl
      exact W.iret (v := x3) hx hb hr (fun t ht hW => ⟨⟨x3, (), rfl, hw, by rw [ht]; exact hP9, va_K.moved hW.alike hK, hD9⟩, hS.F ht⟩) hS.2.2 dX11_asked_166
    · have hw := hw.2 c_1
      refine lv_iload_n hx hb dX11_asked_141 rfl (lv_at hl 2 rfl) ?_
      refine lv_aload_n hx hb dX11_asked_142 rfl (lv_at hl 0 rfl) ?_
      refine lv_iload_n hx hb dX11_asked_143 rfl (lv_at hl 1 rfl) ?_
      refine lv_iload hx hb dX11_asked_144 (lv_at hl 3 rfl) ?_
      have hPc := hP.sub (ws' := [(h, .inr (10, [.ref h_all, .ref h_has, .int f_size, .int f_next, .int f_where, .int f_token, .int f_number, .int f_sign, .int f_word, .int f_wrong, .int f_open, .int f_lines, .int f_acts, .ref h_line, .ref h_act, .ref h_pile, .ref h_comes, .ref h_leaves, .ref h_tried, .ref h_met])), (h_all, .inl (cI, 53700, .inl r_all))]) [0, 1] rfl
      have hDc := hD.sub (ws' := [(h, .inr (10, [.ref h_all, .ref h_has, .int f_size, .int f_next, .int f_where, .int f_token, .int f_number, .int f_sign, .int f_word, .int f_wrong, .int f_open, .int f_lines, .int f_acts, .ref h_line, .ref h_act, .ref h_pile, .ref h_comes, .ref h_leaves, .ref h_tried, .ref h_met])), (h_all, .inl (cI, 53700, .inl r_all))]) [0, 1] (by decide) rfl
      have hFc := va_free (wc := [(h, .inr (10, [.ref h_all, .ref h_has, .int f_size, .int f_next, .int f_where, .int f_token, .int f_number, .int f_sign, .int f_word, .int f_wrong, .int f_open, .int f_lines, .int f_acts, .ref h_line, .ref h_act, .ref h_pile, .ref h_comes, .ref h_leaves, .ref h_tried, .ref h_met])), (h_all, .inl (cI, 53700, .inl r_all))]) hD hS hA [0, 1] rfl
      refine va_calli (va_runV (As := [.int x1, .int x4]) (rest := [.int x3]) ⟨hx, hb, hml, hown, hts⟩ (kX11_beside l dC dI cI cZ cO cW h h_all h_has h_line h_act h_pile h_comes h_leaves h_tried h_met H.size f_size f_next f_where f_token f_number f_sign f_word f_wrong f_open f_lines f_acts r_all x1 x4 _ hw) (cwV 2 hts (gV gw_773 gw_774 gw_775 gw_622 (gM gw_765)) rfl rfl rfl (by decide +kernel) ⟨Nat.le_of_ble_eq_true rfl, Nat.le_of_ble_eq_true rfl⟩) (pv_of hPc hK hDc (va_recv hK hPc (ci := 10) (q0 := 0) rfl rfl)) rfl rfl hl.1 rfl (lv_room (Nat.le_of_ble_eq_true rfl)) dX11_asked_146 ⟨Nat.zero_le _, Nat.zero_le _⟩) hS (fun q _ h => hFc q h) hFc (fun r_2 u t H locs ht hvm hw hB hz1 hk1 hS => ?_)
      obtain ⟨hP, hD⟩ := af_join (wr := []) (w1 := [(h, .inr (10, [.ref h_all, .ref h_has, .int f_size, .int f_next, .int f_where, .int f_token, .int f_number, .int f_sign, .int f_word, .int f_wrong, .int f_open, .int f_lines, .int f_acts, .ref h_line, .ref h_act, .ref h_pile, .ref h_comes, .ref h_leaves, .ref h_tried, .ref h_met])), (h_all, .inl (cI, 53700, .inl r_all))]) hB ht hP hD [0, 1] [] rfl rfl (by decide) (by decide) hk1 hFc
      have hP : va_P (dC, dI) vwCl [(h, .inr (10, [.ref h_all, .ref h_has, .int f_size, .int f_next, .int f_where, .int f_token, .int f_number, .int f_sign, .int f_word, .int f_wrong, .int f_open, .int f_lines, .int f_acts, .ref h_line, .ref h_act, .ref h_pile, .ref h_comes, .ref h_leaves, .ref h_tried, .ref h_met])), (h_all, .inl (cI, 53700, .inl r_all))] _ := hP
      have hD : va_D A [(h, .inr (10, [.ref h_all, .ref h_has, .int f_size, .int f_next, .int f_where, .int f_token, .int f_number, .int f_sign, .int f_word, .int f_wrong, .int f_open, .int f_lines, .int f_acts, .ref h_line, .ref h_act, .ref h_pile, .ref h_comes, .ref h_leaves, .ref h_tried, .ref h_met])), (h_all, .inl (cI, 53700, .inl r_all))] := hD
      refine lv_if_lt (tgt := 156) hx hb dX11_asked_149 (by decide) (fun c_3 => ?_) (fun c_3 => ?_)
      · have hw := hw.1 c_3
        refine lv_iconst (v := (0 : Int32)) hx hb dX11_asked_156 (by decide) ?_
        exact tX11_asked_157 hC hK hA ih x1 x4 x3 (0 : Int32) r_all _ _ ls hw (hP.sub [0, 1] rfl) (hD.sub [0, 1] (by decide) rfl) hS (lv_sub hl [0, 1, 3] rfl)
      · have hw := hw.2 c_3
        refine lv_iconst (v := (1 : Int32)) hx hb dX11_asked_152 (by decide) ?_
        refine lv_goto (tgt := 157) hx hb dX11_asked_153 (by decide) ?_
        exact tX11_asked_157 hC hK hA ih x1 x4 x3 (1 : Int32) r_all _ _ ls hw (hP.sub [0, 1] rfl) (hD.sub [0, 1] (by decide) rfl) hS (lv_sub hl [0, 1, 3] rfl)
set_option maxHeartbeats 4000000 in
set_option maxRecDepth 100000 in
theorem tX11_asked_e {p : Program} {l : Launch} {e : Env} {s : State} {m : MethodId} {args : Array Value} {below : List Frame} {meth : Method} {c : Code} {dC : Nat → ClassId} {dI : Nat → Nat → Nat} {cI cZ cO cW : ClassId} {A : Nat → Prop} {h h_all h_has h_line h_act h_pile h_comes h_leaves h_tried h_met : Nat} {f_size f_next f_where f_token f_number f_sign f_word f_wrong f_open f_lines f_acts : Int32} {Q : Int32 → Prop} (hC : Cx p s m args meth c cX11_asked (some .int) 5 GW RX11) (hK : va_K (dC, dI) vwCl (tysA cI cZ cO cW) s) (hA : ∀ q : Nat, s.heap.size ≤ q → A q) :
    ∀ (x1 : Int32) (x2 : Int32) (r_all : Nat → Int32) (H : Heap) (locs : List Loc) (ls : Array Slot), wX11_asked Q x1 x2 r_all → va_P (dC, dI) vwCl (vX11_asked cI cZ h h_all h_has h_line h_act h_pile h_comes h_leaves h_tried h_met f_size f_next f_where f_token f_number f_sign f_word f_wrong f_open f_lines f_acts r_all) H → va_D A (vX11_asked cI cZ h h_all h_has h_line h_act h_pile h_comes h_leaves h_tried h_met f_size f_next f_where f_token f_number f_sign f_word f_wrong f_open f_lines f_acts r_all) → va_S A s.heap H locs → lv_has ls 5 [(0, .ref h), (1, .int x1), (2, .int x2)] → W p l e rmX11_asked s m args below meth c H locs 0 0 (MQ below (qX11_asked dC dI cI cZ cO cW h h_all h_has h_line h_act h_pile h_comes h_leaves h_tried h_met f_size f_next f_where f_token f_number f_sign f_word f_wrong f_open f_lines f_acts r_all Q A) args s 0 0 A) (F0 m 0 ls []) := by
  obtain ⟨hx, hb, hr, hml, hown, hts, hlocks⟩ := id hC
  intro x1 x2 r_all H locs ls hw hP hD hS hl
  refine lv_iconst (v := (0 : Int32)) hx hb dX11_asked_0 (by decide) ?_
  refine lv_istore_n (lv' := [(3, .int (0 : Int32)), (0, .ref h), (1, .int x1), (2, .int x2)]) hx hb dX11_asked_1 rfl hl (by decide) rfl (fun ls hl => ?_)
  refine lv_iload_n hx hb dX11_asked_2 rfl (lv_at hl 3 rfl) ?_
  refine lv_topi (fun y_4 ey_4 => ?_)
  rcases (show (y_4.toInt < (0 : Int) ∨ (12 : Int) < y_4.toInt) ∨ y_4.toInt = 0 ∨ y_4.toInt = 1 ∨ y_4.toInt = 2 ∨ y_4.toInt = 3 ∨ y_4.toInt = 4 ∨ y_4.toInt = 5 ∨ y_4.toInt = 6 ∨ y_4.toInt = 7 ∨ y_4.toInt = 8 ∨ y_4.toInt = 9 ∨ y_4.toInt = 10 ∨ y_4.toInt = 11 ∨ y_4.toInt = 12 by omega) with c_5 | c_5 | c_5 | c_5 | c_5 | c_5 | c_5 | c_5 | c_5 | c_5 | c_5 | c_5 | c_5 | c_5
  · have hw := hw.2.2.2.2.2.2.2.2.2.2.2.2.2 (by rw [← ey_4]; exact c_5)
    refine lv_tableOut (tgt := 188) hx hb dX11_asked_3 c_5 (by decide) ?_
    refine lv_aload_n hx hb dX11_asked_188 rfl (lv_at hl 1 rfl) ?_
    refine lv_iload_n hx hb dX11_asked_189 rfl (lv_at hl 2 rfl) ?_
    refine lv_iload_n hx hb dX11_asked_190 rfl (lv_at hl 3 rfl) ?_
    refine lv_bipush (v := (8 : Int32)) hx hb dX11_asked_191 (by decide) ?_
    refine lv_isub hx hb dX11_asked_193 ?_
    have hPc := hP.sub (ws' := [(h, .inr (10, [.ref h_all, .ref h_has, .int f_size, .int f_next, .int f_where, .int f_token, .int f_number, .int f_sign, .int f_word, .int f_wrong, .int f_open, .int f_lines, .int f_acts, .ref h_line, .ref h_act, .ref h_pile, .ref h_comes, .ref h_leaves, .ref h_tried, .ref h_met])), (h_all, .inl (cI, 53700, .inl r_all))]) [0, 1] rfl
    have hDc := hD.sub (ws' := [(h, .inr (10, [.ref h_all, .ref h_has, .int f_size, .int f_next, .int f_where, .int f_token, .int f_number, .int f_sign, .int f_word, .int f_wrong, .int f_open, .int f_lines, .int f_acts, .ref h_line, .ref h_act, .ref h_pile, .ref h_comes, .ref h_leaves, .ref h_tried, .ref h_met])), (h_all, .inl (cI, 53700, .inl r_all))]) [0, 1] (by decide) rfl
    have hFc := va_free (wc := [(h, .inr (10, [.ref h_all, .ref h_has, .int f_size, .int f_next, .int f_where, .int f_token, .int f_number, .int f_sign, .int f_word, .int f_wrong, .int f_open, .int f_lines, .int f_acts, .ref h_line, .ref h_act, .ref h_pile, .ref h_comes, .ref h_leaves, .ref h_tried, .ref h_met])), (h_all, .inl (cI, 53700, .inl r_all))]) hD hS hA [0, 1] rfl
    refine va_calli (va_runV (As := [.int x1, .int (x2 - (8 : Int32))]) (rest := []) ⟨hx, hb, hml, hown, hts⟩ (kX11_there l dC dI cI cZ cO cW h h_all h_has h_line h_act h_pile h_comes h_leaves h_tried h_met H.size f_size f_next f_where f_token f_number f_sign f_word f_wrong f_open f_lines f_acts r_all x1 (x2 - (8 : Int32)) _ hw) (cwV 2 hts (gV gw_781 gw_782 gw_783 gw_622 (gM gw_777)) rfl rfl rfl (by decide +kernel) ⟨Nat.le_of_ble_eq_true rfl, Nat.le_of_ble_eq_true rfl⟩) (pv_of hPc hK hDc (va_recv hK hPc (ci := 10) (q0 := 0) rfl rfl)) rfl rfl hl.1 rfl (lv_room (Nat.le_of_ble_eq_true rfl)) dX11_asked_194 ⟨Nat.zero_le _, Nat.zero_le _⟩) hS (fun q _ h => hFc q h) hFc (fun r_6 u t H locs ht hvm hw hB hz1 hk1 hS => ?_)
    obtain ⟨hP, hD⟩ := af_join (wr := []) (w1 := [(h, .inr (10, [.ref h_all, .ref h_has, .int f_size, .int f_next, .int f_where, .int f_token, .int f_number, .int f_sign, .int f_word, .int f_wrong, .int f_open, .int f_lines, .int f_acts, .ref h_line, .ref h_act, .ref h_pile, .ref h_comes, .ref h_leaves, .ref h_tried, .ref h_met])), (h_all, .inl (cI, 53700, .inl r_all))]) hB ht hP hD [0, 1] [] rfl rfl (by decide) (by decide) hk1 hFc
    have hP : va_P (dC, dI) vwCl [(h, .inr (10, [.ref h_all, .ref h_has, .int f_size, .int f_next, .int f_where, .int f_token, .int f_number, .int f_sign, .int f_word, .int f_wrong, .int f_open, .int f_lines, .int f_acts, .ref h_line, .ref h_act, .ref h_pile, .ref h_comes, .ref h_leaves, .ref h_tried, .ref h_met])), (h_all, .inl (cI, 53700, .inl r_all))] _ := hP
    have hD : va_D A [(h, .inr (10, [.ref h_all, .ref h_has, .int f_size, .int f_next, .int f_where, .int f_token, .int f_number, .int f_sign, .int f_word, .int f_wrong, .int f_open, .int f_lines, .int f_acts, .ref h_line, .ref h_act, .ref h_pile, .ref h_comes, .ref h_leaves, .ref h_tried, .ref h_met])), (h_all, .inl (cI, 53700, .inl r_all))] := hD
    have hP9 := hP.sub (ws' := (vX11_asked cI cZ h h_all h_has h_line h_act h_pile h_comes h_leaves h_tried h_met f_size f_next f_where f_token f_number f_sign f_word f_wrong f_open f_lines f_acts r_all)) [0, 1] rfl
    have hD9 := hD.sub (ws' := (vX11_asked cI cZ h h_all h_has h_line h_act h_pile h_comes h_leaves h_tried h_met f_size f_next f_where f_token f_number f_sign f_word f_wrong f_open f_lines f_acts r_all)) [0, 1] (by decide) rfl
    exact W.iret (v := r_6) hx hb hr (fun t ht hW => ⟨⟨r_6, (), rfl, hw, by rw [ht]; exact hP9, va_K.moved hW.alike hK, hD9⟩, hS.F ht⟩) hS.2.2 dX11_asked_197
  · have hw := hw.1 (ey_4.symm.trans (Int32.toInt_inj.mp (c_5.trans (by decide))))
    refine lv_tableIn (tgt := 68) hx hb dX11_asked_3 (by omega) (by omega) (by rw [c_5]; rfl) (by decide) ?_
    refine lv_aload_n hx hb dX11_asked_68 rfl (lv_at hl 1 rfl) ?_
    refine va_get (D := (dC, dI)) (ci := 10) (v := .ref h_all) (C := RX11) (T := TX11) (N := 20) hx hb hts gu_X11 hown hK hP 0 rfl rfl 0 (by decide) (hts _ gw_607) (fun _ h9 => h9) rfl dX11_asked_69 ?_
    refine lv_iconst (v := (3 : Int32)) hx hb dX11_asked_72 (by decide) ?_
    obtain ⟨h_7, hw⟩ := hw
    refine va_iald hx hb hK hP 1 0 rfl rfl h_7 dX11_asked_73 ?_
    have hP9 := hP.sub (ws' := (vX11_asked cI cZ h h_all h_has h_line h_act h_pile h_comes h_leaves h_tried h_met f_size f_next f_where f_token f_number f_sign f_word f_wrong f_open f_lines f_acts r_all)) [0, 1] rfl
    have hD9 := hD.sub (ws' := (vX11_asked cI cZ h h_all h_has h_line h_act h_pile h_comes h_leaves h_tried h_met f_size f_next f_where f_token f_number f_sign f_word f_wrong f_open f_lines f_acts r_all)) [0, 1] (by decide) rfl
    exact W.iret (v := (r_all (3 : Int32).toNatClampNeg)) hx hb hr (fun t ht hW => ⟨⟨(r_all (3 : Int32).toNatClampNeg), (), rfl, hw, by rw [ht]; exact hP9, va_K.moved hW.alike hK, hD9⟩, hS.F ht⟩) hS.2.2 dX11_asked_74
  · have hw := hw.2.1 (ey_4.symm.trans (Int32.toInt_inj.mp (c_5.trans (by decide))))
    refine lv_tableIn (tgt := 75) hx hb dX11_asked_3 (by omega) (by omega) (by rw [c_5]; rfl) (by decide) ?_
    refine lv_aload_n hx hb dX11_asked_75 rfl (lv_at hl 1 rfl) ?_
    refine lv_aload_n hx hb dX11_asked_76 rfl (lv_at hl 1 rfl) ?_
    refine lv_iload_n hx hb dX11_asked_77 rfl (lv_at hl 2 rfl) ?_
    refine lv_iconst (v := (2 : Int32)) hx hb dX11_asked_78 (by decide) ?_
    have hPc := hP.sub (ws' := [(h, .inr (10, [.ref h_all, .ref h_has, .int f_size, .int f_next, .int f_where, .int f_token, .int f_number, .int f_sign, .int f_word, .int f_wrong, .int f_open, .int f_lines, .int f_acts, .ref h_line, .ref h_act, .ref h_pile, .ref h_comes, .ref h_leaves, .ref h_tried, .ref h_met])), (h_all, .inl (cI, 53700, .inl r_all))]) [0, 1] rfl
    have hDc := hD.sub (ws' := [(h, .inr (10, [.ref h_all, .ref h_has, .int f_size, .int f_next, .int f_where, .int f_token, .int f_number, .int f_sign, .int f_word, .int f_wrong, .int f_open, .int f_lines, .int f_acts, .ref h_line, .ref h_act, .ref h_pile, .ref h_comes, .ref h_leaves, .ref h_tried, .ref h_met])), (h_all, .inl (cI, 53700, .inl r_all))]) [0, 1] (by decide) rfl
    have hFc := va_free (wc := [(h, .inr (10, [.ref h_all, .ref h_has, .int f_size, .int f_next, .int f_where, .int f_token, .int f_number, .int f_sign, .int f_word, .int f_wrong, .int f_open, .int f_lines, .int f_acts, .ref h_line, .ref h_act, .ref h_pile, .ref h_comes, .ref h_leaves, .ref h_tried, .ref h_met])), (h_all, .inl (cI, 53700, .inl r_all))]) hD hS hA [0, 1] rfl
    refine va_calli (va_runV (As := [.int x1, .int (2 : Int32)]) (rest := [.ref h]) ⟨hx, hb, hml, hown, hts⟩ (kX11_its l dC dI cI cZ cO cW h h_all h_has h_line h_act h_pile h_comes h_leaves h_tried h_met H.size f_size f_next f_where f_token f_number f_sign f_word f_wrong f_open f_lines f_acts r_all x1 (2 : Int32) _ hw) (cwV 2 hts (gV gw_640 gw_641 gw_642 gw_622 (gM gw_637)) rfl rfl rfl (by decide +kernel) ⟨Nat.le_of_ble_eq_true rfl, Nat.le_of_ble_eq_true rfl⟩) (pv_of hPc hK hDc (va_recv hK hPc (ci := 10) (q0 := 0) rfl rfl)) rfl rfl hl.1 rfl (lv_room (Nat.le_of_ble_eq_true rfl)) dX11_asked_79 ⟨Nat.zero_le _, Nat.zero_le _⟩) hS (fun q _ h => hFc q h) hFc (fun r_8 u t H locs ht hvm hw hB hz1 hk1 hS => ?_)
    obtain ⟨hP, hD⟩ := af_join (wr := []) (w1 := [(h, .inr (10, [.ref h_all, .ref h_has, .int f_size, .int f_next, .int f_where, .int f_token, .int f_number, .int f_sign, .int f_word, .int f_wrong, .int f_open, .int f_lines, .int f_acts, .ref h_line, .ref h_act, .ref h_pile, .ref h_comes, .ref h_leaves, .ref h_tried, .ref h_met])), (h_all, .inl (cI, 53700, .inl r_all))]) hB ht hP hD [0, 1] [] rfl rfl (by decide) (by decide) hk1 hFc
    have hP : va_P (dC, dI) vwCl [(h, .inr (10, [.ref h_all, .ref h_has, .int f_size, .int f_next, .int f_where, .int f_token, .int f_number, .int f_sign, .int f_word, .int f_wrong, .int f_open, .int f_lines, .int f_acts, .ref h_line, .ref h_act, .ref h_pile, .ref h_comes, .ref h_leaves, .ref h_tried, .ref h_met])), (h_all, .inl (cI, 53700, .inl r_all))] _ := hP
    have hD : va_D A [(h, .inr (10, [.ref h_all, .ref h_has, .int f_size, .int f_next, .int f_where, .int f_token, .int f_number, .int f_sign, .int f_word, .int f_wrong, .int f_open, .int f_lines, .int f_acts, .ref h_line, .ref h_act, .ref h_pile, .ref h_comes, .ref h_leaves, .ref h_tried, .ref h_met])), (h_all, .inl (cI, 53700, .inl r_all))] := hD
    refine lv_aload_n hx hb dX11_asked_82 rfl (lv_at hl 1 rfl) ?_
    refine lv_iload_n hx hb dX11_asked_83 rfl (lv_at hl 2 rfl) ?_
    refine lv_iconst (v := (3 : Int32)) hx hb dX11_asked_84 (by decide) ?_
    have hPc := hP.sub (ws' := [(h, .inr (10, [.ref h_all, .ref h_has, .int f_size, .int f_next, .int f_where, .int f_token, .int f_number, .int f_sign, .int f_word, .int f_wrong, .int f_open, .int f_lines, .int f_acts, .ref h_line, .ref h_act, .ref h_pile, .ref h_comes, .ref h_leaves, .ref h_tried, .ref h_met])), (h_all, .inl (cI, 53700, .inl r_all))]) [0, 1] rfl
    have hDc := hD.sub (ws' := [(h, .inr (10, [.ref h_all, .ref h_has, .int f_size, .int f_next, .int f_where, .int f_token, .int f_number, .int f_sign, .int f_word, .int f_wrong, .int f_open, .int f_lines, .int f_acts, .ref h_line, .ref h_act, .ref h_pile, .ref h_comes, .ref h_leaves, .ref h_tried, .ref h_met])), (h_all, .inl (cI, 53700, .inl r_all))]) [0, 1] (by decide) rfl
    have hFc := va_free (wc := [(h, .inr (10, [.ref h_all, .ref h_has, .int f_size, .int f_next, .int f_where, .int f_token, .int f_number, .int f_sign, .int f_word, .int f_wrong, .int f_open, .int f_lines, .int f_acts, .ref h_line, .ref h_act, .ref h_pile, .ref h_comes, .ref h_leaves, .ref h_tried, .ref h_met])), (h_all, .inl (cI, 53700, .inl r_all))]) hD hS hA [0, 1] rfl
    refine va_calli (va_runV (As := [.int x1, .int (3 : Int32)]) (rest := [.int r_8, .ref h]) ⟨hx, hb, hml, hown, hts⟩ (kX11_its l dC dI cI cZ cO cW h h_all h_has h_line h_act h_pile h_comes h_leaves h_tried h_met H.size f_size f_next f_where f_token f_number f_sign f_word f_wrong f_open f_lines f_acts r_all x1 (3 : Int32) _ hw) (cwV 2 hts (gV gw_640 gw_641 gw_642 gw_622 (gM gw_637)) rfl rfl rfl (by decide +kernel) ⟨Nat.le_of_ble_eq_true rfl, Nat.le_of_ble_eq_true rfl⟩) (pv_of hPc hK hDc (va_recv hK hPc (ci := 10) (q0 := 0) rfl rfl)) rfl rfl hl.1 rfl (lv_room (Nat.le_of_ble_eq_true rfl)) dX11_asked_85 ⟨Nat.zero_le _, Nat.zero_le _⟩) hS (fun q _ h => hFc q h) hFc (fun r_9 u t H locs ht hvm hw hB hz1 hk1 hS => ?_)
    obtain ⟨hP, hD⟩ := af_join (wr := []) (w1 := [(h, .inr (10, [.ref h_all, .ref h_has, .int f_size, .int f_next, .int f_where, .int f_token, .int f_number, .int f_sign, .int f_word, .int f_wrong, .int f_open, .int f_lines, .int f_acts, .ref h_line, .ref h_act, .ref h_pile, .ref h_comes, .ref h_leaves, .ref h_tried, .ref h_met])), (h_all, .inl (cI, 53700, .inl r_all))]) hB ht hP hD [0, 1] [] rfl rfl (by decide) (by decide) hk1 hFc
    have hP : va_P (dC, dI) vwCl [(h, .inr (10, [.ref h_all, .ref h_has, .int f_size, .int f_next, .int f_where, .int f_token, .int f_number, .int f_sign, .int f_word, .int f_wrong, .int f_open, .int f_lines, .int f_acts, .ref h_line, .ref h_act, .ref h_pile, .ref h_comes, .ref h_leaves, .ref h_tried, .ref h_met])), (h_all, .inl (cI, 53700, .inl r_all))] _ := hP
    have hD : va_D A [(h, .inr (10, [.ref h_all, .ref h_has, .int f_size, .int f_next, .int f_where, .int f_token, .int f_number, .int f_sign, .int f_word, .int f_wrong, .int f_open, .int f_lines, .int f_acts, .ref h_line, .ref h_act, .ref h_pile, .ref h_comes, .ref h_leaves, .ref h_tried, .ref h_met])), (h_all, .inl (cI, 53700, .inl r_all))] := hD
    refine lv_iconst (v := (1 : Int32)) hx hb dX11_asked_88 (by decide) ?_
    have hPc := hP.sub (ws' := [(h, .inr (10, [.ref h_all, .ref h_has, .int f_size, .int f_next, .int f_where, .int f_token, .int f_number, .int f_sign, .int f_word, .int f_wrong, .int f_open, .int f_lines, .int f_acts, .ref h_line, .ref h_act, .ref h_pile, .ref h_comes, .ref h_leaves, .ref h_tried, .ref h_met])), (h_all, .inl (cI, 53700, .inl r_all))]) [0, 1] rfl
    have hDc := hD.sub (ws' := [(h, .inr (10, [.ref h_all, .ref h_has, .int f_size, .int f_next, .int f_where, .int f_token, .int f_number, .int f_sign, .int f_word, .int f_wrong, .int f_open, .int f_lines, .int f_acts, .ref h_line, .ref h_act, .ref h_pile, .ref h_comes, .ref h_leaves, .ref h_tried, .ref h_met])), (h_all, .inl (cI, 53700, .inl r_all))]) [0, 1] (by decide) rfl
    have hFc := va_free (wc := [(h, .inr (10, [.ref h_all, .ref h_has, .int f_size, .int f_next, .int f_where, .int f_token, .int f_number, .int f_sign, .int f_word, .int f_wrong, .int f_open, .int f_lines, .int f_acts, .ref h_line, .ref h_act, .ref h_pile, .ref h_comes, .ref h_leaves, .ref h_tried, .ref h_met])), (h_all, .inl (cI, 53700, .inl r_all))]) hD hS hA [0, 1] rfl
    refine va_calli (va_runV (As := [.int r_8, .int r_9, .int (1 : Int32)]) (rest := []) ⟨hx, hb, hml, hown, hts⟩ (kX11_of l dC dI cI cZ cO cW h h_all h_has h_line h_act h_pile h_comes h_leaves h_tried h_met H.size f_size f_next f_where f_token f_number f_sign f_word f_wrong f_open f_lines f_acts r_all r_8 r_9 (1 : Int32) _ hw) (cwV 3 hts (gV gw_634 gw_635 gw_636 gw_622 (gM gw_628)) rfl rfl rfl (by decide +kernel) ⟨Nat.le_of_ble_eq_true rfl, Nat.le_of_ble_eq_true rfl⟩) (pv_of hPc hK hDc (va_recv hK hPc (ci := 10) (q0 := 0) rfl rfl)) rfl rfl hl.1 rfl (lv_room (Nat.le_of_ble_eq_true rfl)) dX11_asked_89 ⟨Nat.zero_le _, Nat.zero_le _⟩) hS (fun q _ h => hFc q h) hFc (fun r_10 u t H locs ht hvm hw hB hz1 hk1 hS => ?_)
    obtain ⟨hP, hD⟩ := af_join (wr := []) (w1 := [(h, .inr (10, [.ref h_all, .ref h_has, .int f_size, .int f_next, .int f_where, .int f_token, .int f_number, .int f_sign, .int f_word, .int f_wrong, .int f_open, .int f_lines, .int f_acts, .ref h_line, .ref h_act, .ref h_pile, .ref h_comes, .ref h_leaves, .ref h_tried, .ref h_met])), (h_all, .inl (cI, 53700, .inl r_all))]) hB ht hP hD [0, 1] [] rfl rfl (by decide) (by decide) hk1 hFc
    have hP : va_P (dC, dI) vwCl [(h, .inr (10, [.ref h_all, .ref h_has, .int f_size, .int f_next, .int f_where, .int f_token, .int f_number, .int f_sign, .int f_word, .int f_wrong, .int f_open, .int f_lines, .int f_acts, .ref h_line, .ref h_act, .ref h_pile, .ref h_comes, .ref h_leaves, .ref h_tried, .ref h_met])), (h_all, .inl (cI, 53700, .inl r_all))] _ := hP
    have hD : va_D A [(h, .inr (10, [.ref h_all, .ref h_has, .int f_size, .int f_next, .int f_where, .int f_token, .int f_number, .int f_sign, .int f_word, .int f_wrong, .int f_open, .int f_lines, .int f_acts, .ref h_line, .ref h_act, .ref h_pile, .ref h_comes, .ref h_leaves, .ref h_tried, .ref h_met])), (h_all, .inl (cI, 53700, .inl r_all))] := hD
    have hP9 := hP.sub (ws' := (vX11_asked cI cZ h h_all h_has h_line h_act h_pile h_comes h_leaves h_tried h_met f_size f_next f_where f_token f_number f_sign f_word f_wrong f_open f_lines f_acts r_all)) [0, 1] rfl
    have hD9 := hD.sub (ws' := (vX11_asked cI cZ h h_all h_has h_line h_act h_pile h_comes h_leaves h_tried h_met f_size f_next f_where f_token f_number f_sign f_word f_wrong f_open f_lines f_acts r_all)) [0, 1] (by decide) rfl
    exact W.iret (v := r_10) hx hb hr (fun t ht hW => ⟨⟨r_10, (), rfl, hw, by rw [ht]; exact hP9, va_K.moved hW.alike hK, hD9⟩, hS.F ht⟩) hS.2.2 dX11_asked_92
  · have hw := hw.2.2.1 (ey_4.symm.trans (Int32.toInt_inj.mp (c_5.trans (by decide))))
    refine lv_tableIn (tgt := 93) hx hb dX11_asked_3 (by omega) (by omega) (by rw [c_5]; rfl) (by decide) ?_
    refine lv_aload_n hx hb dX11_asked_93 rfl (lv_at hl 1 rfl) ?_
    refine lv_aload_n hx hb dX11_asked_94 rfl (lv_at hl 1 rfl) ?_
    refine lv_iload_n hx hb dX11_asked_95 rfl (lv_at hl 2 rfl) ?_
    refine lv_iconst (v := (2 : Int32)) hx hb dX11_asked_96 (by decide) ?_
    have hPc := hP.sub (ws' := [(h, .inr (10, [.ref h_all, .ref h_has, .int f_size, .int f_next, .int f_where, .int f_token, .int f_number, .int f_sign, .int f_word, .int f_wrong, .int f_open, .int f_lines, .int f_acts, .ref h_line, .ref h_act, .ref h_pile, .ref h_comes, .ref h_leaves, .ref h_tried, .ref h_met])), (h_all, .inl (cI, 53700, .inl r_all))]) [0, 1] rfl
    have hDc := hD.sub (ws' := [(h, .inr (10, [.ref h_all, .ref h_has, .int f_size, .int f_next, .int f_where, .int f_token, .int f_number, .int f_sign, .int f_word, .int f_wrong, .int f_open, .int f_lines, .int f_acts, .ref h_line, .ref h_act, .ref h_pile, .ref h_comes, .ref h_leaves, .ref h_tried, .ref h_met])), (h_all, .inl (cI, 53700, .inl r_all))]) [0, 1] (by decide) rfl
    have hFc := va_free (wc := [(h, .inr (10, [.ref h_all, .ref h_has, .int f_size, .int f_next, .int f_where, .int f_token, .int f_number, .int f_sign, .int f_word, .int f_wrong, .int f_open, .int f_lines, .int f_acts, .ref h_line, .ref h_act, .ref h_pile, .ref h_comes, .ref h_leaves, .ref h_tried, .ref h_met])), (h_all, .inl (cI, 53700, .inl r_all))]) hD hS hA [0, 1] rfl
    refine va_calli (va_runV (As := [.int x1, .int (2 : Int32)]) (rest := [.ref h]) ⟨hx, hb, hml, hown, hts⟩ (kX11_its l dC dI cI cZ cO cW h h_all h_has h_line h_act h_pile h_comes h_leaves h_tried h_met H.size f_size f_next f_where f_token f_number f_sign f_word f_wrong f_open f_lines f_acts r_all x1 (2 : Int32) _ hw) (cwV 2 hts (gV gw_640 gw_641 gw_642 gw_622 (gM gw_637)) rfl rfl rfl (by decide +kernel) ⟨Nat.le_of_ble_eq_true rfl, Nat.le_of_ble_eq_true rfl⟩) (pv_of hPc hK hDc (va_recv hK hPc (ci := 10) (q0 := 0) rfl rfl)) rfl rfl hl.1 rfl (lv_room (Nat.le_of_ble_eq_true rfl)) dX11_asked_97 ⟨Nat.zero_le _, Nat.zero_le _⟩) hS (fun q _ h => hFc q h) hFc (fun r_11 u t H locs ht hvm hw hB hz1 hk1 hS => ?_)
    obtain ⟨hP, hD⟩ := af_join (wr := []) (w1 := [(h, .inr (10, [.ref h_all, .ref h_has, .int f_size, .int f_next, .int f_where, .int f_token, .int f_number, .int f_sign, .int f_word, .int f_wrong, .int f_open, .int f_lines, .int f_acts, .ref h_line, .ref h_act, .ref h_pile, .ref h_comes, .ref h_leaves, .ref h_tried, .ref h_met])), (h_all, .inl (cI, 53700, .inl r_all))]) hB ht hP hD [0, 1] [] rfl rfl (by decide) (by decide) hk1 hFc
    have hP : va_P (dC, dI) vwCl [(h, .inr (10, [.ref h_all, .ref h_has, .int f_size, .int f_next, .int f_where, .int f_token, .int f_number, .int f_sign, .int f_word, .int f_wrong, .int f_open, .int f_lines, .int f_acts, .ref h_line, .ref h_act, .ref h_pile, .ref h_comes, .ref h_leaves, .ref h_tried, .ref h_met])), (h_all, .inl (cI, 53700, .inl r_all))] _ := hP
    have hD : va_D A [(h, .inr (10, [.ref h_all, .ref h_has, .int f_size, .int f_next, .int f_where, .int f_token, .int f_number, .int f_sign, .int f_word, .int f_wrong, .int f_open, .int f_lines, .int f_acts, .ref h_line, .ref h_act, .ref h_pile, .ref h_comes, .ref h_leaves, .ref h_tried, .ref h_met])), (h_all, .inl (cI, 53700, .inl r_all))] := hD
    refine lv_aload_n hx hb dX11_asked_100 rfl (lv_at hl 1 rfl) ?_
    refine lv_iload_n hx hb dX11_asked_101 rfl (lv_at hl 2 rfl) ?_
    refine lv_iconst (v := (3 : Int32)) hx hb dX11_asked_102 (by decide) ?_
    have hPc := hP.sub (ws' := [(h, .inr (10, [.ref h_all, .ref h_has, .int f_size, .int f_next, .int f_where, .int f_token, .int f_number, .int f_sign, .int f_word, .int f_wrong, .int f_open, .int f_lines, .int f_acts, .ref h_line, .ref h_act, .ref h_pile, .ref h_comes, .ref h_leaves, .ref h_tried, .ref h_met])), (h_all, .inl (cI, 53700, .inl r_all))]) [0, 1] rfl
    have hDc := hD.sub (ws' := [(h, .inr (10, [.ref h_all, .ref h_has, .int f_size, .int f_next, .int f_where, .int f_token, .int f_number, .int f_sign, .int f_word, .int f_wrong, .int f_open, .int f_lines, .int f_acts, .ref h_line, .ref h_act, .ref h_pile, .ref h_comes, .ref h_leaves, .ref h_tried, .ref h_met])), (h_all, .inl (cI, 53700, .inl r_all))]) [0, 1] (by decide) rfl
    have hFc := va_free (wc := [(h, .inr (10, [.ref h_all, .ref h_has, .int f_size, .int f_next, .int f_where, .int f_token, .int f_number, .int f_sign, .int f_word, .int f_wrong, .int f_open, .int f_lines, .int f_acts, .ref h_line, .ref h_act, .ref h_pile, .ref h_comes, .ref h_leaves, .ref h_tried, .ref h_met])), (h_all, .inl (cI, 53700, .inl r_all))]) hD hS hA [0, 1] rfl
    refine va_calli (va_runV (As := [.int x1, .int (3 : Int32)]) (rest := [.int r_11, .ref h]) ⟨hx, hb, hml, hown, hts⟩ (kX11_its l dC dI cI cZ cO cW h h_all h_has h_line h_act h_pile h_comes h_leaves h_tried h_met H.size f_size f_next f_where f_token f_number f_sign f_word f_wrong f_open f_lines f_acts r_all x1 (3 : Int32) _ hw) (cwV 2 hts (gV gw_640 gw_641 gw_642 gw_622 (gM gw_637)) rfl rfl rfl (by decide +kernel) ⟨Nat.le_of_ble_eq_true rfl, Nat.le_of_ble_eq_true rfl⟩) (pv_of hPc hK hDc (va_recv hK hPc (ci := 10) (q0 := 0) rfl rfl)) rfl rfl hl.1 rfl (lv_room (Nat.le_of_ble_eq_true rfl)) dX11_asked_103 ⟨Nat.zero_le _, Nat.zero_le _⟩) hS (fun q _ h => hFc q h) hFc (fun r_12 u t H locs ht hvm hw hB hz1 hk1 hS => ?_)
    obtain ⟨hP, hD⟩ := af_join (wr := []) (w1 := [(h, .inr (10, [.ref h_all, .ref h_has, .int f_size, .int f_next, .int f_where, .int f_token, .int f_number, .int f_sign, .int f_word, .int f_wrong, .int f_open, .int f_lines, .int f_acts, .ref h_line, .ref h_act, .ref h_pile, .ref h_comes, .ref h_leaves, .ref h_tried, .ref h_met])), (h_all, .inl (cI, 53700, .inl r_all))]) hB ht hP hD [0, 1] [] rfl rfl (by decide) (by decide) hk1 hFc
    have hP : va_P (dC, dI) vwCl [(h, .inr (10, [.ref h_all, .ref h_has, .int f_size, .int f_next, .int f_where, .int f_token, .int f_number, .int f_sign, .int f_word, .int f_wrong, .int f_open, .int f_lines, .int f_acts, .ref h_line, .ref h_act, .ref h_pile, .ref h_comes, .ref h_leaves, .ref h_tried, .ref h_met])), (h_all, .inl (cI, 53700, .inl r_all))] _ := hP
    have hD : va_D A [(h, .inr (10, [.ref h_all, .ref h_has, .int f_size, .int f_next, .int f_where, .int f_token, .int f_number, .int f_sign, .int f_word, .int f_wrong, .int f_open, .int f_lines, .int f_acts, .ref h_line, .ref h_act, .ref h_pile, .ref h_comes, .ref h_leaves, .ref h_tried, .ref h_met])), (h_all, .inl (cI, 53700, .inl r_all))] := hD
    refine lv_iconst (v := (2 : Int32)) hx hb dX11_asked_106 (by decide) ?_
    have hPc := hP.sub (ws' := [(h, .inr (10, [.ref h_all, .ref h_has, .int f_size, .int f_next, .int f_where, .int f_token, .int f_number, .int f_sign, .int f_word, .int f_wrong, .int f_open, .int f_lines, .int f_acts, .ref h_line, .ref h_act, .ref h_pile, .ref h_comes, .ref h_leaves, .ref h_tried, .ref h_met])), (h_all, .inl (cI, 53700, .inl r_all))]) [0, 1] rfl
    have hDc := hD.sub (ws' := [(h, .inr (10, [.ref h_all, .ref h_has, .int f_size, .int f_next, .int f_where, .int f_token, .int f_number, .int f_sign, .int f_word, .int f_wrong, .int f_open, .int f_lines, .int f_acts, .ref h_line, .ref h_act, .ref h_pile, .ref h_comes, .ref h_leaves, .ref h_tried, .ref h_met])), (h_all, .inl (cI, 53700, .inl r_all))]) [0, 1] (by decide) rfl
    have hFc := va_free (wc := [(h, .inr (10, [.ref h_all, .ref h_has, .int f_size, .int f_next, .int f_where, .int f_token, .int f_number, .int f_sign, .int f_word, .int f_wrong, .int f_open, .int f_lines, .int f_acts, .ref h_line, .ref h_act, .ref h_pile, .ref h_comes, .ref h_leaves, .ref h_tried, .ref h_met])), (h_all, .inl (cI, 53700, .inl r_all))]) hD hS hA [0, 1] rfl
    refine va_calli (va_runV (As := [.int r_11, .int r_12, .int (2 : Int32)]) (rest := []) ⟨hx, hb, hml, hown, hts⟩ (kX11_of l dC dI cI cZ cO cW h h_all h_has h_line h_act h_pile h_comes h_leaves h_tried h_met H.size f_size f_next f_where f_token f_number f_sign f_word f_wrong f_open f_lines f_acts r_all r_11 r_12 (2 : Int32) _ hw) (cwV 3 hts (gV gw_634 gw_635 gw_636 gw_622 (gM gw_628)) rfl rfl rfl (by decide +kernel) ⟨Nat.le_of_ble_eq_true rfl, Nat.le_of_ble_eq_true rfl⟩) (pv_of hPc hK hDc (va_recv hK hPc (ci := 10) (q0 := 0) rfl rfl)) rfl rfl hl.1 rfl (lv_room (Nat.le_of_ble_eq_true rfl)) dX11_asked_107 ⟨Nat.zero_le _, Nat.zero_le _⟩) hS (fun q _ h => hFc q h) hFc (fun r_13 u t H locs ht hvm hw hB hz1 hk1 hS => ?_)
    obtain ⟨hP, hD⟩ := af_join (wr := []) (w1 := [(h, .inr (10, [.ref h_all, .ref h_has, .int f_size, .int f_next, .int f_where, .int f_token, .int f_number, .int f_sign, .int f_word, .int f_wrong, .int f_open, .int f_lines, .int f_acts, .ref h_line, .ref h_act, .ref h_pile, .ref h_comes, .ref h_leaves, .ref h_tried, .ref h_met])), (h_all, .inl (cI, 53700, .inl r_all))]) hB ht hP hD [0, 1] [] rfl rfl (by decide) (by decide) hk1 hFc
    have hP : va_P (dC, dI) vwCl [(h, .inr (10, [.ref h_all, .ref h_has, .int f_size, .int f_next, .int f_where, .int f_token, .int f_number, .int f_sign, .int f_word, .int f_wrong, .int f_open, .int f_lines, .int f_acts, .ref h_line, .ref h_act, .ref h_pile, .ref h_comes, .ref h_leaves, .ref h_tried, .ref h_met])), (h_all, .inl (cI, 53700, .inl r_all))] _ := hP
    have hD : va_D A [(h, .inr (10, [.ref h_all, .ref h_has, .int f_size, .int f_next, .int f_where, .int f_token, .int f_number, .int f_sign, .int f_word, .int f_wrong, .int f_open, .int f_lines, .int f_acts, .ref h_line, .ref h_act, .ref h_pile, .ref h_comes, .ref h_leaves, .ref h_tried, .ref h_met])), (h_all, .inl (cI, 53700, .inl r_all))] := hD
    have hP9 := hP.sub (ws' := (vX11_asked cI cZ h h_all h_has h_line h_act h_pile h_comes h_leaves h_tried h_met f_size f_next f_where f_token f_number f_sign f_word f_wrong f_open f_lines f_acts r_all)) [0, 1] rfl
    have hD9 := hD.sub (ws' := (vX11_asked cI cZ h h_all h_has h_line h_act h_pile h_comes h_leaves h_tried h_met f_size f_next f_where f_token f_number f_sign f_word f_wrong f_open f_lines f_acts r_all)) [0, 1] (by decide) rfl
    exact W.iret (v := r_13) hx hb hr (fun t ht hW => ⟨⟨r_13, (), rfl, hw, by rw [ht]; exact hP9, va_K.moved hW.alike hK, hD9⟩, hS.F ht⟩) hS.2.2 dX11_asked_110
  · have hw := hw.2.2.2.1 (ey_4.symm.trans (Int32.toInt_inj.mp (c_5.trans (by decide))))
    refine lv_tableIn (tgt := 111) hx hb dX11_asked_3 (by omega) (by omega) (by rw [c_5]; rfl) (by decide) ?_
    refine lv_aload_n hx hb dX11_asked_111 rfl (lv_at hl 1 rfl) ?_
    refine lv_iload_n hx hb dX11_asked_112 rfl (lv_at hl 2 rfl) ?_
    refine lv_iconst (v := (1 : Int32)) hx hb dX11_asked_113 (by decide) ?_
    have hPc := hP.sub (ws' := [(h, .inr (10, [.ref h_all, .ref h_has, .int f_size, .int f_next, .int f_where, .int f_token, .int f_number, .int f_sign, .int f_word, .int f_wrong, .int f_open, .int f_lines, .int f_acts, .ref h_line, .ref h_act, .ref h_pile, .ref h_comes, .ref h_leaves, .ref h_tried, .ref h_met])), (h_all, .inl (cI, 53700, .inl r_all))]) [0, 1] rfl
    have hDc := hD.sub (ws' := [(h, .inr (10, [.ref h_all, .ref h_has, .int f_size, .int f_next, .int f_where, .int f_token, .int f_number, .int f_sign, .int f_word, .int f_wrong, .int f_open, .int f_lines, .int f_acts, .ref h_line, .ref h_act, .ref h_pile, .ref h_comes, .ref h_leaves, .ref h_tried, .ref h_met])), (h_all, .inl (cI, 53700, .inl r_all))]) [0, 1] (by decide) rfl
    have hFc := va_free (wc := [(h, .inr (10, [.ref h_all, .ref h_has, .int f_size, .int f_next, .int f_where, .int f_token, .int f_number, .int f_sign, .int f_word, .int f_wrong, .int f_open, .int f_lines, .int f_acts, .ref h_line, .ref h_act, .ref h_pile, .ref h_comes, .ref h_leaves, .ref h_tried, .ref h_met])), (h_all, .inl (cI, 53700, .inl r_all))]) hD hS hA [0, 1] rfl
    refine va_calli (va_runV (As := [.int x1, .int (1 : Int32)]) (rest := []) ⟨hx, hb, hml, hown, hts⟩ (kX11_its l dC dI cI cZ cO cW h h_all h_has h_line h_act h_pile h_comes h_leaves h_tried h_met H.size f_size f_next f_where f_token f_number f_sign f_word f_wrong f_open f_lines f_acts r_all x1 (1 : Int32) _ hw) (cwV 2 hts (gV gw_640 gw_641 gw_642 gw_622 (gM gw_637)) rfl rfl rfl (by decide +kernel) ⟨Nat.le_of_ble_eq_true rfl, Nat.le_of_ble_eq_true rfl⟩) (pv_of hPc hK hDc (va_recv hK hPc (ci := 10) (q0 := 0) rfl rfl)) rfl rfl hl.1 rfl (lv_room (Nat.le_of_ble_eq_true rfl)) dX11_asked_114 ⟨Nat.zero_le _, Nat.zero_le _⟩) hS (fun q _ h => hFc q h) hFc (fun r_14 u t H locs ht hvm hw hB hz1 hk1 hS => ?_)
    obtain ⟨hP, hD⟩ := af_join (wr := []) (w1 := [(h, .inr (10, [.ref h_all, .ref h_has, .int f_size, .int f_next, .int f_where, .int f_token, .int f_number, .int f_sign, .int f_word, .int f_wrong, .int f_open, .int f_lines, .int f_acts, .ref h_line, .ref h_act, .ref h_pile, .ref h_comes, .ref h_leaves, .ref h_tried, .ref h_met])), (h_all, .inl (cI, 53700, .inl r_all))]) hB ht hP hD [0, 1] [] rfl rfl (by decide) (by decide) hk1 hFc
    have hP : va_P (dC, dI) vwCl [(h, .inr (10, [.ref h_all, .ref h_has, .int f_size, .int f_next, .int f_where, .int f_token, .int f_number, .int f_sign, .int f_word, .int f_wrong, .int f_open, .int f_lines, .int f_acts, .ref h_line, .ref h_act, .ref h_pile, .ref h_comes, .ref h_leaves, .ref h_tried, .ref h_met])), (h_all, .inl (cI, 53700, .inl r_all))] _ := hP
    have hD : va_D A [(h, .inr (10, [.ref h_all, .ref h_has, .int f_size, .int f_next, .int f_where, .int f_token, .int f_number, .int f_sign, .int f_word, .int f_wrong, .int f_open, .int f_lines, .int f_acts, .ref h_line, .ref h_act, .ref h_pile, .ref h_comes, .ref h_leaves, .ref h_tried, .ref h_met])), (h_all, .inl (cI, 53700, .inl r_all))] := hD
    have hP9 := hP.sub (ws' := (vX11_asked cI cZ h h_all h_has h_line h_act h_pile h_comes h_leaves h_tried h_met f_size f_next f_where f_token f_number f_sign f_word f_wrong f_open f_lines f_acts r_all)) [0, 1] rfl
    have hD9 := hD.sub (ws' := (vX11_asked cI cZ h h_all h_has h_line h_act h_pile h_comes h_leaves h_tried h_met f_size f_next f_where f_token f_number f_sign f_word f_wrong f_open f_lines f_acts r_all)) [0, 1] (by decide) rfl
    exact W.iret (v := r_14) hx hb hr (fun t ht hW => ⟨⟨r_14, (), rfl, hw, by rw [ht]; exact hP9, va_K.moved hW.alike hK, hD9⟩, hS.F ht⟩) hS.2.2 dX11_asked_117
  · have hw := hw.2.2.2.2.1 (ey_4.symm.trans (Int32.toInt_inj.mp (c_5.trans (by decide))))
    refine lv_tableIn (tgt := 118) hx hb dX11_asked_3 (by omega) (by omega) (by rw [c_5]; rfl) (by decide) ?_
    refine lv_aload_n hx hb dX11_asked_118 rfl (lv_at hl 1 rfl) ?_
    refine lv_iload_n hx hb dX11_asked_119 rfl (lv_at hl 2 rfl) ?_
    have hPc := hP.sub (ws' := [(h, .inr (10, [.ref h_all, .ref h_has, .int f_size, .int f_next, .int f_where, .int f_token, .int f_number, .int f_sign, .int f_word, .int f_wrong, .int f_open, .int f_lines, .int f_acts, .ref h_line, .ref h_act, .ref h_pile, .ref h_comes, .ref h_leaves, .ref h_tried, .ref h_met])), (h_all, .inl (cI, 53700, .inl r_all))]) [0, 1] rfl
    have hDc := hD.sub (ws' := [(h, .inr (10, [.ref h_all, .ref h_has, .int f_size, .int f_next, .int f_where, .int f_token, .int f_number, .int f_sign, .int f_word, .int f_wrong, .int f_open, .int f_lines, .int f_acts, .ref h_line, .ref h_act, .ref h_pile, .ref h_comes, .ref h_leaves, .ref h_tried, .ref h_met])), (h_all, .inl (cI, 53700, .inl r_all))]) [0, 1] (by decide) rfl
    have hFc := va_free (wc := [(h, .inr (10, [.ref h_all, .ref h_has, .int f_size, .int f_next, .int f_where, .int f_token, .int f_number, .int f_sign, .int f_word, .int f_wrong, .int f_open, .int f_lines, .int f_acts, .ref h_line, .ref h_act, .ref h_pile, .ref h_comes, .ref h_leaves, .ref h_tried, .ref h_met])), (h_all, .inl (cI, 53700, .inl r_all))]) hD hS hA [0, 1] rfl
    refine va_calli (va_runV (As := [.int x1]) (rest := []) ⟨hx, hb, hml, hown, hts⟩ (kX11_isHeld l dC dI cI cZ cO cW h h_all h_has h_line h_act h_pile h_comes h_leaves h_tried h_met H.size f_size f_next f_where f_token f_number f_sign f_word f_wrong f_open f_lines f_acts r_all x1 _ hw) (cwV 1 hts (gV gw_778 gw_779 gw_780 gw_622 (gM gw_776)) rfl rfl rfl (by decide +kernel) ⟨Nat.le_of_ble_eq_true rfl, Nat.le_of_ble_eq_true rfl⟩) (pv_of hPc hK hDc (va_recv hK hPc (ci := 10) (q0 := 0) rfl rfl)) rfl rfl hl.1 rfl (lv_room (Nat.le_of_ble_eq_true rfl)) dX11_asked_120 ⟨Nat.zero_le _, Nat.zero_le _⟩) hS (fun q _ h => hFc q h) hFc (fun r_15 u t H locs ht hvm hw hB hz1 hk1 hS => ?_)
    obtain ⟨hP, hD⟩ := af_join (wr := []) (w1 := [(h, .inr (10, [.ref h_all, .ref h_has, .int f_size, .int f_next, .int f_where, .int f_token, .int f_number, .int f_sign, .int f_word, .int f_wrong, .int f_open, .int f_lines, .int f_acts, .ref h_line, .ref h_act, .ref h_pile, .ref h_comes, .ref h_leaves, .ref h_tried, .ref h_met])), (h_all, .inl (cI, 53700, .inl r_all))]) hB ht hP hD [0, 1] [] rfl rfl (by decide) (by decide) hk1 hFc
    have hP : va_P (dC, dI) vwCl [(h, .inr (10, [.ref h_all, .ref h_has, .int f_size, .int f_next, .int f_where, .int f_token, .int f_number, .int f_sign, .int f_word, .int f_wrong, .int f_open, .int f_lines, .int f_acts, .ref h_line, .ref h_act, .ref h_pile, .ref h_comes, .ref h_leaves, .ref h_tried, .ref h_met])), (h_all, .inl (cI, 53700, .inl r_all))] _ := hP
    have hD : va_D A [(h, .inr (10, [.ref h_all, .ref h_has, .int f_size, .int f_next, .int f_where, .int f_token, .int f_number, .int f_sign, .int f_word, .int f_wrong, .int f_open, .int f_lines, .int f_acts, .ref h_line, .ref h_act, .ref h_pile, .ref h_comes, .ref h_leaves, .ref h_tried, .ref h_met])), (h_all, .inl (cI, 53700, .inl r_all))] := hD
    refine lv_if_eq (tgt := 130) hx hb dX11_asked_123 (by decide) (fun c_16 => ?_) (fun c_16 => ?_)
    · have hw := hw.1 c_16
      refine lv_iconst (v := (0 : Int32)) hx hb dX11_asked_130 (by decide) ?_
      have hP9 := hP.sub (ws' := (vX11_asked cI cZ h h_all h_has h_line h_act h_pile h_comes h_leaves h_tried h_met f_size f_next f_where f_token f_number f_sign f_word f_wrong f_open f_lines f_acts r_all)) [0, 1] rfl
      have hD9 := hD.sub (ws' := (vX11_asked cI cZ h h_all h_has h_line h_act h_pile h_comes h_leaves h_tried h_met f_size f_next f_where f_token f_number f_sign f_word f_wrong f_open f_lines f_acts r_all)) [0, 1] (by decide) rfl
      exact W.iret (v := (0 : Int32)) hx hb hr (fun t ht hW => ⟨⟨(0 : Int32), (), rfl, hw, by rw [ht]; exact hP9, va_K.moved hW.alike hK, hD9⟩, hS.F ht⟩) hS.2.2 dX11_asked_131
    · have hw := hw.2 c_16
      refine lv_iconst (v := (1 : Int32)) hx hb dX11_asked_126 (by decide) ?_
      refine lv_goto (tgt := 131) hx hb dX11_asked_127 (by decide) ?_
      have hP9 := hP.sub (ws' := (vX11_asked cI cZ h h_all h_has h_line h_act h_pile h_comes h_leaves h_tried h_met f_size f_next f_where f_token f_number f_sign f_word f_wrong f_open f_lines f_acts r_all)) [0, 1] rfl
      have hD9 := hD.sub (ws' := (vX11_asked cI cZ h h_all h_has h_line h_act h_pile h_comes h_leaves h_tried h_met f_size f_next f_where f_token f_number f_sign f_word f_wrong f_open f_lines f_acts r_all)) [0, 1] (by decide) rfl
      exact W.iret (v := (1 : Int32)) hx hb hr (fun t ht hW => ⟨⟨(1 : Int32), (), rfl, hw, by rw [ht]; exact hP9, va_K.moved hW.alike hK, hD9⟩, hS.F ht⟩) hS.2.2 dX11_asked_131
  · have hw := hw.2.2.2.2.2.1 (ey_4.symm.trans (Int32.toInt_inj.mp (c_5.trans (by decide))))
    refine lv_tableIn (tgt := 132) hx hb dX11_asked_3 (by omega) (by omega) (by rw [c_5]; rfl) (by decide) ?_
    refine lv_iconst (v := (0 : Int32)) hx hb dX11_asked_132 (by decide) ?_
    refine lv_istore (lv' := [(4, .int (0 : Int32)), (3, .int (0 : Int32)), (0, .ref h), (1, .int x1), (2, .int x2)]) hx hb dX11_asked_133 hl (by decide) rfl (fun ls hl => ?_)
    obtain ⟨n_17, hw⟩ := hw
    exact tX11_asked_135 hC hK hA  n_17 x1 (0 : Int32) (0 : Int32) r_all _ _ ls hw (hP.sub [0, 1] rfl) (hD.sub [0, 1] (by decide) rfl) hS (lv_sub hl [2, 3, 1, 0] rfl)
  · have hw := hw.2.2.2.2.2.2.1 (ey_4.symm.trans (Int32.toInt_inj.mp (c_5.trans (by decide))))
    refine lv_tableIn (tgt := 167) hx hb dX11_asked_3 (by omega) (by omega) (by rw [c_5]; rfl) (by decide) ?_
    refine lv_aload_n hx hb dX11_asked_167 rfl (lv_at hl 1 rfl) ?_
    refine lv_iload_n hx hb dX11_asked_168 rfl (lv_at hl 2 rfl) ?_
    refine lv_iconst (v := (2 : Int32)) hx hb dX11_asked_169 (by decide) ?_
    have hPc := hP.sub (ws' := [(h, .inr (10, [.ref h_all, .ref h_has, .int f_size, .int f_next, .int f_where, .int f_token, .int f_number, .int f_sign, .int f_word, .int f_wrong, .int f_open, .int f_lines, .int f_acts, .ref h_line, .ref h_act, .ref h_pile, .ref h_comes, .ref h_leaves, .ref h_tried, .ref h_met])), (h_all, .inl (cI, 53700, .inl r_all))]) [0, 1] rfl
    have hDc := hD.sub (ws' := [(h, .inr (10, [.ref h_all, .ref h_has, .int f_size, .int f_next, .int f_where, .int f_token, .int f_number, .int f_sign, .int f_word, .int f_wrong, .int f_open, .int f_lines, .int f_acts, .ref h_line, .ref h_act, .ref h_pile, .ref h_comes, .ref h_leaves, .ref h_tried, .ref h_met])), (h_all, .inl (cI, 53700, .inl r_all))]) [0, 1] (by decide) rfl
    have hFc := va_free (wc := [(h, .inr (10, [.ref h_all, .ref h_has, .int f_size, .int f_next, .int f_where, .int f_token, .int f_number, .int f_sign, .int f_word, .int f_wrong, .int f_open, .int f_lines, .int f_acts, .ref h_line, .ref h_act, .ref h_pile, .ref h_comes, .ref h_leaves, .ref h_tried, .ref h_met])), (h_all, .inl (cI, 53700, .inl r_all))]) hD hS hA [0, 1] rfl
    refine va_calli (va_runV (As := [.int x1, .int (2 : Int32)]) (rest := []) ⟨hx, hb, hml, hown, hts⟩ (kX11_its l dC dI cI cZ cO cW h h_all h_has h_line h_act h_pile h_comes h_leaves h_tried h_met H.size f_size f_next f_where f_token f_number f_sign f_word f_wrong f_open f_lines f_acts r_all x1 (2 : Int32) _ hw) (cwV 2 hts (gV gw_640 gw_641 gw_642 gw_622 (gM gw_637)) rfl rfl rfl (by decide +kernel) ⟨Nat.le_of_ble_eq_true rfl, Nat.le_of_ble_eq_true rfl⟩) (pv_of hPc hK hDc (va_recv hK hPc (ci := 10) (q0 := 0) rfl rfl)) rfl rfl hl.1 rfl (lv_room (Nat.le_of_ble_eq_true rfl)) dX11_asked_170 ⟨Nat.zero_le _, Nat.zero_le _⟩) hS (fun q _ h => hFc q h) hFc (fun r_18 u t H locs ht hvm hw hB hz1 hk1 hS => ?_)
    obtain ⟨hP, hD⟩ := af_join (wr := []) (w1 := [(h, .inr (10, [.ref h_all, .ref h_has, .int f_size, .int f_next, .int f_where, .int f_token, .int f_number, .int f_sign, .int f_word, .int f_wrong, .int f_open, .int f_lines, .int f_acts, .ref h_line, .ref h_act, .ref h_pile, .ref h_comes, .ref h_leaves, .ref h_tried, .ref h_met])), (h_all, .inl (cI, 53700, .inl r_all))]) hB ht hP hD [0, 1] [] rfl rfl (by decide) (by decide) hk1 hFc
    have hP : va_P (dC, dI) vwCl [(h, .inr (10, [.ref h_all, .ref h_has, .int f_size, .int f_next, .int f_where, .int f_token, .int f_number, .int f_sign, .int f_word, .int f_wrong, .int f_open, .int f_lines, .int f_acts, .ref h_line, .ref h_act, .ref h_pile, .ref h_comes, .ref h_leaves, .ref h_tried, .ref h_met])), (h_all, .inl (cI, 53700, .inl r_all))] _ := hP
    have hD : va_D A [(h, .inr (10, [.ref h_all, .ref h_has, .int f_size, .int f_next, .int f_where, .int f_token, .int f_number, .int f_sign, .int f_word, .int f_wrong, .int f_open, .int f_lines, .int f_acts, .ref h_line, .ref h_act, .ref h_pile, .ref h_comes, .ref h_leaves, .ref h_tried, .ref h_met])), (h_all, .inl (cI, 53700, .inl r_all))] := hD
    have hP9 := hP.sub (ws' := (vX11_asked cI cZ h h_all h_has h_line h_act h_pile h_comes h_leaves h_tried h_met f_size f_next f_where f_token f_number f_sign f_word f_wrong f_open f_lines f_acts r_all)) [0, 1] rfl
    have hD9 := hD.sub (ws' := (vX11_asked cI cZ h h_all h_has h_line h_act h_pile h_comes h_leaves h_tried h_met f_size f_next f_where f_token f_number f_sign f_word f_wrong f_open f_lines f_acts r_all)) [0, 1] (by decide) rfl
    exact W.iret (v := r_18) hx hb hr (fun t ht hW => ⟨⟨r_18, (), rfl, hw, by rw [ht]; exact hP9, va_K.moved hW.alike hK, hD9⟩, hS.F ht⟩) hS.2.2 dX11_asked_173
  · have hw := hw.2.2.2.2.2.2.2.1 (ey_4.symm.trans (Int32.toInt_inj.mp (c_5.trans (by decide))))
    refine lv_tableIn (tgt := 174) hx hb dX11_asked_3 (by omega) (by omega) (by rw [c_5]; rfl) (by decide) ?_
    refine lv_aload_n hx hb dX11_asked_174 rfl (lv_at hl 1 rfl) ?_
    refine lv_iload_n hx hb dX11_asked_175 rfl (lv_at hl 2 rfl) ?_
    refine lv_iconst (v := (3 : Int32)) hx hb dX11_asked_176 (by decide) ?_
    have hPc := hP.sub (ws' := [(h, .inr (10, [.ref h_all, .ref h_has, .int f_size, .int f_next, .int f_where, .int f_token, .int f_number, .int f_sign, .int f_word, .int f_wrong, .int f_open, .int f_lines, .int f_acts, .ref h_line, .ref h_act, .ref h_pile, .ref h_comes, .ref h_leaves, .ref h_tried, .ref h_met])), (h_all, .inl (cI, 53700, .inl r_all))]) [0, 1] rfl
    have hDc := hD.sub (ws' := [(h, .inr (10, [.ref h_all, .ref h_has, .int f_size, .int f_next, .int f_where, .int f_token, .int f_number, .int f_sign, .int f_word, .int f_wrong, .int f_open, .int f_lines, .int f_acts, .ref h_line, .ref h_act, .ref h_pile, .ref h_comes, .ref h_leaves, .ref h_tried, .ref h_met])), (h_all, .inl (cI, 53700, .inl r_all))]) [0, 1] (by decide) rfl
    have hFc := va_free (wc := [(h, .inr (10, [.ref h_all, .ref h_has, .int f_size, .int f_next, .int f_where, .int f_token, .int f_number, .int f_sign, .int f_word, .int f_wrong, .int f_open, .int f_lines, .int f_acts, .ref h_line, .ref h_act, .ref h_pile, .ref h_comes, .ref h_leaves, .ref h_tried, .ref h_met])), (h_all, .inl (cI, 53700, .inl r_all))]) hD hS hA [0, 1] rfl
    refine va_calli (va_runV (As := [.int x1, .int (3 : Int32)]) (rest := []) ⟨hx, hb, hml, hown, hts⟩ (kX11_its l dC dI cI cZ cO cW h h_all h_has h_line h_act h_pile h_comes h_leaves h_tried h_met H.size f_size f_next f_where f_token f_number f_sign f_word f_wrong f_open f_lines f_acts r_all x1 (3 : Int32) _ hw) (cwV 2 hts (gV gw_640 gw_641 gw_642 gw_622 (gM gw_637)) rfl rfl rfl (by decide +kernel) ⟨Nat.le_of_ble_eq_true rfl, Nat.le_of_ble_eq_true rfl⟩) (pv_of hPc hK hDc (va_recv hK hPc (ci := 10) (q0 := 0) rfl rfl)) rfl rfl hl.1 rfl (lv_room (Nat.le_of_ble_eq_true rfl)) dX11_asked_177 ⟨Nat.zero_le _, Nat.zero_le _⟩) hS (fun q _ h => hFc q h) hFc (fun r_19 u t H locs ht hvm hw hB hz1 hk1 hS => ?_)
    obtain ⟨hP, hD⟩ := af_join (wr := []) (w1 := [(h, .inr (10, [.ref h_all, .ref h_has, .int f_size, .int f_next, .int f_where, .int f_token, .int f_number, .int f_sign, .int f_word, .int f_wrong, .int f_open, .int f_lines, .int f_acts, .ref h_line, .ref h_act, .ref h_pile, .ref h_comes, .ref h_leaves, .ref h_tried, .ref h_met])), (h_all, .inl (cI, 53700, .inl r_all))]) hB ht hP hD [0, 1] [] rfl rfl (by decide) (by decide) hk1 hFc
    have hP : va_P (dC, dI) vwCl [(h, .inr (10, [.ref h_all, .ref h_has, .int f_size, .int f_next, .int f_where, .int f_token, .int f_number, .int f_sign, .int f_word, .int f_wrong, .int f_open, .int f_lines, .int f_acts, .ref h_line, .ref h_act, .ref h_pile, .ref h_comes, .ref h_leaves, .ref h_tried, .ref h_met])), (h_all, .inl (cI, 53700, .inl r_all))] _ := hP
    have hD : va_D A [(h, .inr (10, [.ref h_all, .ref h_has, .int f_size, .int f_next, .int f_where, .int f_token, .int f_number, .int f_sign, .int f_word, .int f_wrong, .int f_open, .int f_lines, .int f_acts, .ref h_line, .ref h_act, .ref h_pile, .ref h_comes, .ref h_leaves, .ref h_tried, .ref h_met])), (h_all, .inl (cI, 53700, .inl r_all))] := hD
    have hP9 := hP.sub (ws' := (vX11_asked cI cZ h h_all h_has h_line h_act h_pile h_comes h_leaves h_tried h_met f_size f_next f_where f_token f_number f_sign f_word f_wrong f_open f_lines f_acts r_all)) [0, 1] rfl
    have hD9 := hD.sub (ws' := (vX11_asked cI cZ h h_all h_has h_line h_act h_pile h_comes h_leaves h_tried h_met f_size f_next f_where f_token f_number f_sign f_word f_wrong f_open f_lines f_acts r_all)) [0, 1] (by decide) rfl
    exact W.iret (v := r_19) hx hb hr (fun t ht hW => ⟨⟨r_19, (), rfl, hw, by rw [ht]; exact hP9, va_K.moved hW.alike hK, hD9⟩, hS.F ht⟩) hS.2.2 dX11_asked_180
  · have hw := hw.2.2.2.2.2.2.2.2.1 (ey_4.symm.trans (Int32.toInt_inj.mp (c_5.trans (by decide))))
    refine lv_tableIn (tgt := 188) hx hb dX11_asked_3 (by omega) (by omega) (by rw [c_5]; rfl) (by decide) ?_
    refine lv_aload_n hx hb dX11_asked_188 rfl (lv_at hl 1 rfl) ?_
    refine lv_iload_n hx hb dX11_asked_189 rfl (lv_at hl 2 rfl) ?_
    refine lv_iload_n hx hb dX11_asked_190 rfl (lv_at hl 3 rfl) ?_
    refine lv_bipush (v := (8 : Int32)) hx hb dX11_asked_191 (by decide) ?_
    refine lv_isub hx hb dX11_asked_193 ?_
    have hPc := hP.sub (ws' := [(h, .inr (10, [.ref h_all, .ref h_has, .int f_size, .int f_next, .int f_where, .int f_token, .int f_number, .int f_sign, .int f_word, .int f_wrong, .int f_open, .int f_lines, .int f_acts, .ref h_line, .ref h_act, .ref h_pile, .ref h_comes, .ref h_leaves, .ref h_tried, .ref h_met])), (h_all, .inl (cI, 53700, .inl r_all))]) [0, 1] rfl
    have hDc := hD.sub (ws' := [(h, .inr (10, [.ref h_all, .ref h_has, .int f_size, .int f_next, .int f_where, .int f_token, .int f_number, .int f_sign, .int f_word, .int f_wrong, .int f_open, .int f_lines, .int f_acts, .ref h_line, .ref h_act, .ref h_pile, .ref h_comes, .ref h_leaves, .ref h_tried, .ref h_met])), (h_all, .inl (cI, 53700, .inl r_all))]) [0, 1] (by decide) rfl
    have hFc := va_free (wc := [(h, .inr (10, [.ref h_all, .ref h_has, .int f_size, .int f_next, .int f_where, .int f_token, .int f_number, .int f_sign, .int f_word, .int f_wrong, .int f_open, .int f_lines, .int f_acts, .ref h_line, .ref h_act, .ref h_pile, .ref h_comes, .ref h_leaves, .ref h_tried, .ref h_met])), (h_all, .inl (cI, 53700, .inl r_all))]) hD hS hA [0, 1] rfl
    refine va_calli (va_runV (As := [.int x1, .int (x2 - (8 : Int32))]) (rest := []) ⟨hx, hb, hml, hown, hts⟩ (kX11_there l dC dI cI cZ cO cW h h_all h_has h_line h_act h_pile h_comes h_leaves h_tried h_met H.size f_size f_next f_where f_token f_number f_sign f_word f_wrong f_open f_lines f_acts r_all x1 (x2 - (8 : Int32)) _ hw) (cwV 2 hts (gV gw_781 gw_782 gw_783 gw_622 (gM gw_777)) rfl rfl rfl (by decide +kernel) ⟨Nat.le_of_ble_eq_true rfl, Nat.le_of_ble_eq_true rfl⟩) (pv_of hPc hK hDc (va_recv hK hPc (ci := 10) (q0 := 0) rfl rfl)) rfl rfl hl.1 rfl (lv_room (Nat.le_of_ble_eq_true rfl)) dX11_asked_194 ⟨Nat.zero_le _, Nat.zero_le _⟩) hS (fun q _ h => hFc q h) hFc (fun r_20 u t H locs ht hvm hw hB hz1 hk1 hS => ?_)
    obtain ⟨hP, hD⟩ := af_join (wr := []) (w1 := [(h, .inr (10, [.ref h_all, .ref h_has, .int f_size, .int f_next, .int f_where, .int f_token, .int f_number, .int f_sign, .int f_word, .int f_wrong, .int f_open, .int f_lines, .int f_acts, .ref h_line, .ref h_act, .ref h_pile, .ref h_comes, .ref h_leaves, .ref h_tried, .ref h_met])), (h_all, .inl (cI, 53700, .inl r_all))]) hB ht hP hD [0, 1] [] rfl rfl (by decide) (by decide) hk1 hFc
    have hP : va_P (dC, dI) vwCl [(h, .inr (10, [.ref h_all, .ref h_has, .int f_size, .int f_next, .int f_where, .int f_token, .int f_number, .int f_sign, .int f_word, .int f_wrong, .int f_open, .int f_lines, .int f_acts, .ref h_line, .ref h_act, .ref h_pile, .ref h_comes, .ref h_leaves, .ref h_tried, .ref h_met])), (h_all, .inl (cI, 53700, .inl r_all))] _ := hP
    have hD : va_D A [(h, .inr (10, [.ref h_all, .ref h_has, .int f_size, .int f_next, .int f_where, .int f_token, .int f_number, .int f_sign, .int f_word, .int f_wrong, .int f_open, .int f_lines, .int f_acts, .ref h_line, .ref h_act, .ref h_pile, .ref h_comes, .ref h_leaves, .ref h_tried, .ref h_met])), (h_all, .inl (cI, 53700, .inl r_all))] := hD
    have hP9 := hP.sub (ws' := (vX11_asked cI cZ h h_all h_has h_line h_act h_pile h_comes h_leaves h_tried h_met f_size f_next f_where f_token f_number f_sign f_word f_wrong f_open f_lines f_acts r_all)) [0, 1] rfl
    have hD9 := hD.sub (ws' := (vX11_asked cI cZ h h_all h_has h_line h_act h_pile h_comes h_leaves h_tried h_met f_size f_next f_where f_token f_number f_sign f_word f_wrong f_open f_lines f_acts r_all)) [0, 1] (by decide) rfl
    exact W.iret (v := r_20) hx hb hr (fun t ht hW => ⟨⟨r_20, (), rfl, hw, by rw [ht]; exact hP9, va_K.moved hW.alike hK, hD9⟩, hS.F ht⟩) hS.2.2 dX11_asked_197
  · have hw := hw.2.2.2.2.2.2.2.2.2.1 (ey_4.symm.trans (Int32.toInt_inj.mp (c_5.trans (by decide))))
    refine lv_tableIn (tgt := 188) hx hb dX11_asked_3 (by omega) (by omega) (by rw [c_5]; rfl) (by decide) ?_
    refine lv_aload_n hx hb dX11_asked_188 rfl (lv_at hl 1 rfl) ?_
    refine lv_iload_n hx hb dX11_asked_189 rfl (lv_at hl 2 rfl) ?_
    refine lv_iload_n hx hb dX11_asked_190 rfl (lv_at hl 3 rfl) ?_
    refine lv_bipush (v := (8 : Int32)) hx hb dX11_asked_191 (by decide) ?_
    refine lv_isub hx hb dX11_asked_193 ?_
    have hPc := hP.sub (ws' := [(h, .inr (10, [.ref h_all, .ref h_has, .int f_size, .int f_next, .int f_where, .int f_token, .int f_number, .int f_sign, .int f_word, .int f_wrong, .int f_open, .int f_lines, .int f_acts, .ref h_line, .ref h_act, .ref h_pile, .ref h_comes, .ref h_leaves, .ref h_tried, .ref h_met])), (h_all, .inl (cI, 53700, .inl r_all))]) [0, 1] rfl
    have hDc := hD.sub (ws' := [(h, .inr (10, [.ref h_all, .ref h_has, .int f_size, .int f_next, .int f_where, .int f_token, .int f_number, .int f_sign, .int f_word, .int f_wrong, .int f_open, .int f_lines, .int f_acts, .ref h_line, .ref h_act, .ref h_pile, .ref h_comes, .ref h_leaves, .ref h_tried, .ref h_met])), (h_all, .inl (cI, 53700, .inl r_all))]) [0, 1] (by decide) rfl
    have hFc := va_free (wc := [(h, .inr (10, [.ref h_all, .ref h_has, .int f_size, .int f_next, .int f_where, .int f_token, .int f_number, .int f_sign, .int f_word, .int f_wrong, .int f_open, .int f_lines, .int f_acts, .ref h_line, .ref h_act, .ref h_pile, .ref h_comes, .ref h_leaves, .ref h_tried, .ref h_met])), (h_all, .inl (cI, 53700, .inl r_all))]) hD hS hA [0, 1] rfl
    refine va_calli (va_runV (As := [.int x1, .int (x2 - (8 : Int32))]) (rest := []) ⟨hx, hb, hml, hown, hts⟩ (kX11_there l dC dI cI cZ cO cW h h_all h_has h_line h_act h_pile h_comes h_leaves h_tried h_met H.size f_size f_next f_where f_token f_number f_sign f_word f_wrong f_open f_lines f_acts r_all x1 (x2 - (8 : Int32)) _ hw) (cwV 2 hts (gV gw_781 gw_782 gw_783 gw_622 (gM gw_777)) rfl rfl rfl (by decide +kernel) ⟨Nat.le_of_ble_eq_true rfl, Nat.le_of_ble_eq_true rfl⟩) (pv_of hPc hK hDc (va_recv hK hPc (ci := 10) (q0 := 0) rfl rfl)) rfl rfl hl.1 rfl (lv_room (Nat.le_of_ble_eq_true rfl)) dX11_asked_194 ⟨Nat.zero_le _, Nat.zero_le _⟩) hS (fun q _ h => hFc q h) hFc (fun r_21 u t H locs ht hvm hw hB hz1 hk1 hS => ?_)
    obtain ⟨hP, hD⟩ := af_join (wr := []) (w1 := [(h, .inr (10, [.ref h_all, .ref h_has, .int f_size, .int f_next, .int f_where, .int f_token, .int f_number, .int f_sign, .int f_word, .int f_wrong, .int f_open, .int f_lines, .int f_acts, .ref h_line, .ref h_act, .ref h_pile, .ref h_comes, .ref h_leaves, .ref h_tried, .ref h_met])), (h_all, .inl (cI, 53700, .inl r_all))]) hB ht hP hD [0, 1] [] rfl rfl (by decide) (by decide) hk1 hFc
    have hP : va_P (dC, dI) vwCl [(h, .inr (10, [.ref h_all, .ref h_has, .int f_size, .int f_next, .int f_where, .int f_token, .int f_number, .int f_sign, .int f_word, .int f_wrong, .int f_open, .int f_lines, .int f_acts, .ref h_line, .ref h_act, .ref h_pile, .ref h_comes, .ref h_leaves, .ref h_tried, .ref h_met])), (h_all, .inl (cI, 53700, .inl r_all))] _ := hP
    have hD : va_D A [(h, .inr (10, [.ref h_all, .ref h_has, .int f_size, .int f_next, .int f_where, .int f_token, .int f_number, .int f_sign, .int f_word, .int f_wrong, .int f_open, .int f_lines, .int f_acts, .ref h_line, .ref h_act, .ref h_pile, .ref h_comes, .ref h_leaves, .ref h_tried, .ref h_met])), (h_all, .inl (cI, 53700, .inl r_all))] := hD
    have hP9 := hP.sub (ws' := (vX11_asked cI cZ h h_all h_has h_line h_act h_pile h_comes h_leaves h_tried h_met f_size f_next f_where f_token f_number f_sign f_word f_wrong f_open f_lines f_acts r_all)) [0, 1] rfl
    have hD9 := hD.sub (ws' := (vX11_asked cI cZ h h_all h_has h_line h_act h_pile h_comes h_leaves h_tried h_met f_size f_next f_where f_token f_number f_sign f_word f_wrong f_open f_lines f_acts r_all)) [0, 1] (by decide) rfl
    exact W.iret (v := r_21) hx hb hr (fun t ht hW => ⟨⟨r_21, (), rfl, hw, by rw [ht]; exact hP9, va_K.moved hW.alike hK, hD9⟩, hS.F ht⟩) hS.2.2 dX11_asked_197
  · have hw := hw.2.2.2.2.2.2.2.2.2.2.1 (ey_4.symm.trans (Int32.toInt_inj.mp (c_5.trans (by decide))))
    refine lv_tableIn (tgt := 188) hx hb dX11_asked_3 (by omega) (by omega) (by rw [c_5]; rfl) (by decide) ?_
    refine lv_aload_n hx hb dX11_asked_188 rfl (lv_at hl 1 rfl) ?_
    refine lv_iload_n hx hb dX11_asked_189 rfl (lv_at hl 2 rfl) ?_
    refine lv_iload_n hx hb dX11_asked_190 rfl (lv_at hl 3 rfl) ?_
    refine lv_bipush (v := (8 : Int32)) hx hb dX11_asked_191 (by decide) ?_
    refine lv_isub hx hb dX11_asked_193 ?_
    have hPc := hP.sub (ws' := [(h, .inr (10, [.ref h_all, .ref h_has, .int f_size, .int f_next, .int f_where, .int f_token, .int f_number, .int f_sign, .int f_word, .int f_wrong, .int f_open, .int f_lines, .int f_acts, .ref h_line, .ref h_act, .ref h_pile, .ref h_comes, .ref h_leaves, .ref h_tried, .ref h_met])), (h_all, .inl (cI, 53700, .inl r_all))]) [0, 1] rfl
    have hDc := hD.sub (ws' := [(h, .inr (10, [.ref h_all, .ref h_has, .int f_size, .int f_next, .int f_where, .int f_token, .int f_number, .int f_sign, .int f_word, .int f_wrong, .int f_open, .int f_lines, .int f_acts, .ref h_line, .ref h_act, .ref h_pile, .ref h_comes, .ref h_leaves, .ref h_tried, .ref h_met])), (h_all, .inl (cI, 53700, .inl r_all))]) [0, 1] (by decide) rfl
    have hFc := va_free (wc := [(h, .inr (10, [.ref h_all, .ref h_has, .int f_size, .int f_next, .int f_where, .int f_token, .int f_number, .int f_sign, .int f_word, .int f_wrong, .int f_open, .int f_lines, .int f_acts, .ref h_line, .ref h_act, .ref h_pile, .ref h_comes, .ref h_leaves, .ref h_tried, .ref h_met])), (h_all, .inl (cI, 53700, .inl r_all))]) hD hS hA [0, 1] rfl
    refine va_calli (va_runV (As := [.int x1, .int (x2 - (8 : Int32))]) (rest := []) ⟨hx, hb, hml, hown, hts⟩ (kX11_there l dC dI cI cZ cO cW h h_all h_has h_line h_act h_pile h_comes h_leaves h_tried h_met H.size f_size f_next f_where f_token f_number f_sign f_word f_wrong f_open f_lines f_acts r_all x1 (x2 - (8 : Int32)) _ hw) (cwV 2 hts (gV gw_781 gw_782 gw_783 gw_622 (gM gw_777)) rfl rfl rfl (by decide +kernel) ⟨Nat.le_of_ble_eq_true rfl, Nat.le_of_ble_eq_true rfl⟩) (pv_of hPc hK hDc (va_recv hK hPc (ci := 10) (q0 := 0) rfl rfl)) rfl rfl hl.1 rfl (lv_room (Nat.le_of_ble_eq_true rfl)) dX11_asked_194 ⟨Nat.zero_le _, Nat.zero_le _⟩) hS (fun q _ h => hFc q h) hFc (fun r_22 u t H locs ht hvm hw hB hz1 hk1 hS => ?_)
    obtain ⟨hP, hD⟩ := af_join (wr := []) (w1 := [(h, .inr (10, [.ref h_all, .ref h_has, .int f_size, .int f_next, .int f_where, .int f_token, .int f_number, .int f_sign, .int f_word, .int f_wrong, .int f_open, .int f_lines, .int f_acts, .ref h_line, .ref h_act, .ref h_pile, .ref h_comes, .ref h_leaves, .ref h_tried, .ref h_met])), (h_all, .inl (cI, 53700, .inl r_all))]) hB ht hP hD [0, 1] [] rfl rfl (by decide) (by decide) hk1 hFc
    have hP : va_P (dC, dI) vwCl [(h, .inr (10, [.ref h_all, .ref h_has, .int f_size, .int f_next, .int f_where, .int f_token, .int f_number, .int f_sign, .int f_word, .int f_wrong, .int f_open, .int f_lines, .int f_acts, .ref h_line, .ref h_act, .ref h_pile, .ref h_comes, .ref h_leaves, .ref h_tried, .ref h_met])), (h_all, .inl (cI, 53700, .inl r_all))] _ := hP
    have hD : va_D A [(h, .inr (10, [.ref h_all, .ref h_has, .int f_size, .int f_next, .int f_where, .int f_token, .int f_number, .int f_sign, .int f_word, .int f_wrong, .int f_open, .int f_lines, .int f_acts, .ref h_line, .ref h_act, .ref h_pile, .ref h_comes, .ref h_leaves, .ref h_tried, .ref h_met])), (h_all, .inl (cI, 53700, .inl r_all))] := hD
    have hP9 := hP.sub (ws' := (vX11_asked cI cZ h h_all h_has h_line h_act h_pile h_comes h_leaves h_tried h_met f_size f_next f_where f_token f_number f_sign f_word f_wrong f_open f_lines f_acts r_all)) [0, 1] rfl
    have hD9 := hD.sub (ws' := (vX11_asked cI cZ h h_all h_has h_line h_act h_pile h_comes h_leaves h_tried h_met f_size f_next f_where f_token f_number f_sign f_word f_wrong f_open f_lines f_acts r_all)) [0, 1] (by decide) rfl
    exact W.iret (v := r_22) hx hb hr (fun t ht hW => ⟨⟨r_22, (), rfl, hw, by rw [ht]; exact hP9, va_K.moved hW.alike hK, hD9⟩, hS.F ht⟩) hS.2.2 dX11_asked_197
  · have hw := hw.2.2.2.2.2.2.2.2.2.2.2.1 (ey_4.symm.trans (Int32.toInt_inj.mp (c_5.trans (by decide))))
    refine lv_tableIn (tgt := 188) hx hb dX11_asked_3 (by omega) (by omega) (by rw [c_5]; rfl) (by decide) ?_
    refine lv_aload_n hx hb dX11_asked_188 rfl (lv_at hl 1 rfl) ?_
    refine lv_iload_n hx hb dX11_asked_189 rfl (lv_at hl 2 rfl) ?_
    refine lv_iload_n hx hb dX11_asked_190 rfl (lv_at hl 3 rfl) ?_
    refine lv_bipush (v := (8 : Int32)) hx hb dX11_asked_191 (by decide) ?_
    refine lv_isub hx hb dX11_asked_193 ?_
    have hPc := hP.sub (ws' := [(h, .inr (10, [.ref h_all, .ref h_has, .int f_size, .int f_next, .int f_where, .int f_token, .int f_number, .int f_sign, .int f_word, .int f_wrong, .int f_open, .int f_lines, .int f_acts, .ref h_line, .ref h_act, .ref h_pile, .ref h_comes, .ref h_leaves, .ref h_tried, .ref h_met])), (h_all, .inl (cI, 53700, .inl r_all))]) [0, 1] rfl
    have hDc := hD.sub (ws' := [(h, .inr (10, [.ref h_all, .ref h_has, .int f_size, .int f_next, .int f_where, .int f_token, .int f_number, .int f_sign, .int f_word, .int f_wrong, .int f_open, .int f_lines, .int f_acts, .ref h_line, .ref h_act, .ref h_pile, .ref h_comes, .ref h_leaves, .ref h_tried, .ref h_met])), (h_all, .inl (cI, 53700, .inl r_all))]) [0, 1] (by decide) rfl
    have hFc := va_free (wc := [(h, .inr (10, [.ref h_all, .ref h_has, .int f_size, .int f_next, .int f_where, .int f_token, .int f_number, .int f_sign, .int f_word, .int f_wrong, .int f_open, .int f_lines, .int f_acts, .ref h_line, .ref h_act, .ref h_pile, .ref h_comes, .ref h_leaves, .ref h_tried, .ref h_met])), (h_all, .inl (cI, 53700, .inl r_all))]) hD hS hA [0, 1] rfl
    refine va_calli (va_runV (As := [.int x1, .int (x2 - (8 : Int32))]) (rest := []) ⟨hx, hb, hml, hown, hts⟩ (kX11_there l dC dI cI cZ cO cW h h_all h_has h_line h_act h_pile h_comes h_leaves h_tried h_met H.size f_size f_next f_where f_token f_number f_sign f_word f_wrong f_open f_lines f_acts r_all x1 (x2 - (8 : Int32)) _ hw) (cwV 2 hts (gV gw_781 gw_782 gw_783 gw_622 (gM gw_777)) rfl rfl rfl (by decide +kernel) ⟨Nat.le_of_ble_eq_true rfl, Nat.le_of_ble_eq_true rfl⟩) (pv_of hPc hK hDc (va_recv hK hPc (ci := 10) (q0 := 0) rfl rfl)) rfl rfl hl.1 rfl (lv_room (Nat.le_of_ble_eq_true rfl)) dX11_asked_194 ⟨Nat.zero_le _, Nat.zero_le _⟩) hS (fun q _ h => hFc q h) hFc (fun r_23 u t H locs ht hvm hw hB hz1 hk1 hS => ?_)
    obtain ⟨hP, hD⟩ := af_join (wr := []) (w1 := [(h, .inr (10, [.ref h_all, .ref h_has, .int f_size, .int f_next, .int f_where, .int f_token, .int f_number, .int f_sign, .int f_word, .int f_wrong, .int f_open, .int f_lines, .int f_acts, .ref h_line, .ref h_act, .ref h_pile, .ref h_comes, .ref h_leaves, .ref h_tried, .ref h_met])), (h_all, .inl (cI, 53700, .inl r_all))]) hB ht hP hD [0, 1] [] rfl rfl (by decide) (by decide) hk1 hFc
    have hP : va_P (dC, dI) vwCl [(h, .inr (10, [.ref h_all, .ref h_has, .int f_size, .int f_next, .int f_where, .int f_token, .int f_number, .int f_sign, .int f_word, .int f_wrong, .int f_open, .int f_lines, .int f_acts, .ref h_line, .ref h_act, .ref h_pile, .ref h_comes, .ref h_leaves, .ref h_tried, .ref h_met])), (h_all, .inl (cI, 53700, .inl r_all))] _ := hP
    have hD : va_D A [(h, .inr (10, [.ref h_all, .ref h_has, .int f_size, .int f_next, .int f_where, .int f_token, .int f_number, .int f_sign, .int f_word, .int f_wrong, .int f_open, .int f_lines, .int f_acts, .ref h_line, .ref h_act, .ref h_pile, .ref h_comes, .ref h_leaves, .ref h_tried, .ref h_met])), (h_all, .inl (cI, 53700, .inl r_all))] := hD
    have hP9 := hP.sub (ws' := (vX11_asked cI cZ h h_all h_has h_line h_act h_pile h_comes h_leaves h_tried h_met f_size f_next f_where f_token f_number f_sign f_word f_wrong f_open f_lines f_acts r_all)) [0, 1] rfl
    have hD9 := hD.sub (ws' := (vX11_asked cI cZ h h_all h_has h_line h_act h_pile h_comes h_leaves h_tried h_met f_size f_next f_where f_token f_number f_sign f_word f_wrong f_open f_lines f_acts r_all)) [0, 1] (by decide) rfl
    exact W.iret (v := r_23) hx hb hr (fun t ht hW => ⟨⟨r_23, (), rfl, hw, by rw [ht]; exact hP9, va_K.moved hW.alike hK, hD9⟩, hS.F ht⟩) hS.2.2 dX11_asked_197
  · have hw := hw.2.2.2.2.2.2.2.2.2.2.2.2.1 (ey_4.symm.trans (Int32.toInt_inj.mp (c_5.trans (by decide))))
    refine lv_tableIn (tgt := 181) hx hb dX11_asked_3 (by omega) (by omega) (by rw [c_5]; rfl) (by decide) ?_
    refine lv_aload_n hx hb dX11_asked_181 rfl (lv_at hl 1 rfl) ?_
    refine lv_iload_n hx hb dX11_asked_182 rfl (lv_at hl 2 rfl) ?_
    refine lv_iconst (v := (4 : Int32)) hx hb dX11_asked_183 (by decide) ?_
    have hPc := hP.sub (ws' := [(h, .inr (10, [.ref h_all, .ref h_has, .int f_size, .int f_next, .int f_where, .int f_token, .int f_number, .int f_sign, .int f_word, .int f_wrong, .int f_open, .int f_lines, .int f_acts, .ref h_line, .ref h_act, .ref h_pile, .ref h_comes, .ref h_leaves, .ref h_tried, .ref h_met])), (h_all, .inl (cI, 53700, .inl r_all))]) [0, 1] rfl
    have hDc := hD.sub (ws' := [(h, .inr (10, [.ref h_all, .ref h_has, .int f_size, .int f_next, .int f_where, .int f_token, .int f_number, .int f_sign, .int f_word, .int f_wrong, .int f_open, .int f_lines, .int f_acts, .ref h_line, .ref h_act, .ref h_pile, .ref h_comes, .ref h_leaves, .ref h_tried, .ref h_met])), (h_all, .inl (cI, 53700, .inl r_all))]) [0, 1] (by decide) rfl
    have hFc := va_free (wc := [(h, .inr (10, [.ref h_all, .ref h_has, .int f_size, .int f_next, .int f_where, .int f_token, .int f_number, .int f_sign, .int f_word, .int f_wrong, .int f_open, .int f_lines, .int f_acts, .ref h_line, .ref h_act, .ref h_pile, .ref h_comes, .ref h_leaves, .ref h_tried, .ref h_met])), (h_all, .inl (cI, 53700, .inl r_all))]) hD hS hA [0, 1] rfl
    refine va_calli (va_runV (As := [.int x1, .int (4 : Int32)]) (rest := []) ⟨hx, hb, hml, hown, hts⟩ (kX11_its l dC dI cI cZ cO cW h h_all h_has h_line h_act h_pile h_comes h_leaves h_tried h_met H.size f_size f_next f_where f_token f_number f_sign f_word f_wrong f_open f_lines f_acts r_all x1 (4 : Int32) _ hw) (cwV 2 hts (gV gw_640 gw_641 gw_642 gw_622 (gM gw_637)) rfl rfl rfl (by decide +kernel) ⟨Nat.le_of_ble_eq_true rfl, Nat.le_of_ble_eq_true rfl⟩) (pv_of hPc hK hDc (va_recv hK hPc (ci := 10) (q0 := 0) rfl rfl)) rfl rfl hl.1 rfl (lv_room (Nat.le_of_ble_eq_true rfl)) dX11_asked_184 ⟨Nat.zero_le _, Nat.zero_le _⟩) hS (fun q _ h => hFc q h) hFc (fun r_24 u t H locs ht hvm hw hB hz1 hk1 hS => ?_)
    obtain ⟨hP, hD⟩ := af_join (wr := []) (w1 := [(h, .inr (10, [.ref h_all, .ref h_has, .int f_size, .int f_next, .int f_where, .int f_token, .int f_number, .int f_sign, .int f_word, .int f_wrong, .int f_open, .int f_lines, .int f_acts, .ref h_line, .ref h_act, .ref h_pile, .ref h_comes, .ref h_leaves, .ref h_tried, .ref h_met])), (h_all, .inl (cI, 53700, .inl r_all))]) hB ht hP hD [0, 1] [] rfl rfl (by decide) (by decide) hk1 hFc
    have hP : va_P (dC, dI) vwCl [(h, .inr (10, [.ref h_all, .ref h_has, .int f_size, .int f_next, .int f_where, .int f_token, .int f_number, .int f_sign, .int f_word, .int f_wrong, .int f_open, .int f_lines, .int f_acts, .ref h_line, .ref h_act, .ref h_pile, .ref h_comes, .ref h_leaves, .ref h_tried, .ref h_met])), (h_all, .inl (cI, 53700, .inl r_all))] _ := hP
    have hD : va_D A [(h, .inr (10, [.ref h_all, .ref h_has, .int f_size, .int f_next, .int f_where, .int f_token, .int f_number, .int f_sign, .int f_word, .int f_wrong, .int f_open, .int f_lines, .int f_acts, .ref h_line, .ref h_act, .ref h_pile, .ref h_comes, .ref h_leaves, .ref h_tried, .ref h_met])), (h_all, .inl (cI, 53700, .inl r_all))] := hD
    have hP9 := hP.sub (ws' := (vX11_asked cI cZ h h_all h_has h_line h_act h_pile h_comes h_leaves h_tried h_met f_size f_next f_where f_token f_number f_sign f_word f_wrong f_open f_lines f_acts r_all)) [0, 1] rfl
    have hD9 := hD.sub (ws' := (vX11_asked cI cZ h h_all h_has h_line h_act h_pile h_comes h_leaves h_tried h_met f_size f_next f_where f_token f_number f_sign f_word f_wrong f_open f_lines f_acts r_all)) [0, 1] (by decide) rfl
    exact W.iret (v := r_24) hx hb hr (fun t ht hW => ⟨⟨r_24, (), rfl, hw, by rw [ht]; exact hP9, va_K.moved hW.alike hK, hD9⟩, hS.F ht⟩) hS.2.2 dX11_asked_187
set_option maxHeartbeats 4000000 in
set_option maxRecDepth 100000 in
theorem kX11_asked (l : Launch) (dC : Nat → ClassId) (dI : Nat → Nat → Nat) (cI cZ cO cW : ClassId) (h h_all h_has h_line h_act h_pile h_comes h_leaves h_tried h_met : Nat)  (sz : Nat) (f_size : Int32) (f_next : Int32) (f_where : Int32) (f_token : Int32) (f_number : Int32) (f_sign : Int32) (f_word : Int32) (f_wrong : Int32) (f_open : Int32) (f_lines : Int32) (f_acts : Int32) (r_all : Nat → Int32) (x1 : Int32) (x2 : Int32) (Q : Int32 → Prop) (hw : wX11_asked Q x1 x2 r_all) : Met l yX11_asked zsX11_asked rmX11_asked (va_Pc [.ref h, .int x1, .int x2] (fun U => U.heap.size = sz ∧ va_P (dC, dI) vwCl (vX11_asked cI cZ h h_all h_has h_line h_act h_pile h_comes h_leaves h_tried h_met f_size f_next f_where f_token f_number f_sign f_word f_wrong f_open f_lines f_acts r_all) U.heap ∧ va_K (dC, dI) vwCl (tysA cI cZ cO cW) U ∧ va_D (fun _ => True) (vX11_asked cI cZ h h_all h_has h_line h_act h_pile h_comes h_leaves h_tried h_met f_size f_next f_where f_token f_number f_sign f_word f_wrong f_open f_lines f_acts r_all))) (qX11_asked dC dI cI cZ cO cW h h_all h_has h_line h_act h_pile h_comes h_leaves h_tried h_met f_size f_next f_where f_token f_number f_sign f_word f_wrong f_open f_lines f_acts r_all Q (va_A (vX11_asked cI cZ h h_all h_has h_line h_act h_pile h_comes h_leaves h_tried h_met f_size f_next f_where f_token f_number f_sign f_word f_wrong f_open f_lines f_acts r_all) sz)) 0 0 (va_A (vX11_asked cI cZ h h_all h_has h_line h_act h_pile h_comes h_leaves h_tried h_met f_size f_next f_where f_token f_number f_sign f_word f_wrong f_open f_lines f_acts r_all) sz) := by
  refine Met.ofW (cc := cX11_asked) (maxL := 5) (ret := (some .int)) (by decide) rfl ?_
  intro p e s m args below meth c s₁ B hml hv
  obtain ⟨rfl, hsz, hP, hK, hD0⟩ := hv
  subst hsz
  have hC : Cx p s m ([.ref h, .int x1, .int x2] : List Value).toArray meth c cX11_asked (some .int) 5 GW RX11 := ⟨B.exec, B.bytes, B.returns, hml, findClass_of_methodNamed B.named, fun w h => atoms_spec (ws := zsX11_asked) B.pre w (List.mem_cons_of_mem _ h), B.notSynchronized⟩
  have hD := hD0.self (sz := s.heap.size)
  generalize hAe : va_A (vX11_asked cI cZ h h_all h_has h_line h_act h_pile h_comes h_leaves h_tried h_met f_size f_next f_where f_token f_number f_sign f_word f_wrong f_open f_lines f_acts r_all) s.heap.size = A at hD ⊢
  have hA : ∀ q : Nat, s.heap.size ≤ q → A q := fun q h => by rw [← hAe]; exact Or.inr h
  have hl := lv_entry ([.ref h, .int x1, .int x2]) (n := 5) (Nat.le_of_ble_eq_true rfl)
  rw [lg_entry_eq]
  generalize (lg_sl ([.ref h, .int x1, .int x2]) ++ List.replicate (5 - (lg_sl ([.ref h, .int x1, .int x2])).length) Slot.unset).toArray = ls at hl ⊢
  exact tX11_asked_e hC hK hA x1 x2 r_all _ _ ls hw hP hD va_S.rf hl
