theorem dX11_isOrder_0 : decode cX11_isOrder 0 = .ok (.iconst 0, 1) := by decide +kernel
theorem dX11_isOrder_1 : decode cX11_isOrder 1 = .ok (.istore_n 1, 1) := by decide +kernel
theorem dX11_isOrder_2 : decode cX11_isOrder 2 = .ok (.iload_n 1, 1) := by decide +kernel
theorem dX11_isOrder_3 : decode cX11_isOrder 3 = .ok (.bipush 8, 2) := by decide +kernel
theorem dX11_isOrder_5 : decode cX11_isOrder 5 = .ok (.if_icmp .ge 16, 3) := by decide +kernel
theorem dX11_isOrder_8 : decode cX11_isOrder 8 = .ok (.aload_n 0, 1) := by decide +kernel
theorem dX11_isOrder_9 : decode cX11_isOrder 9 = .ok (.getfield 36, 3) := by decide +kernel
theorem dX11_isOrder_12 : decode cX11_isOrder 12 = .ok (.iload_n 1, 1) := by decide +kernel
theorem dX11_isOrder_13 : decode cX11_isOrder 13 = .ok (.iconst 0, 1) := by decide +kernel
theorem dX11_isOrder_14 : decode cX11_isOrder 14 = .ok (.bastore, 1) := by decide +kernel
theorem dX11_isOrder_15 : decode cX11_isOrder 15 = .ok (.iinc 1 1, 3) := by decide +kernel
theorem dX11_isOrder_18 : decode cX11_isOrder 18 = .ok (.goto (-16), 3) := by decide +kernel
theorem dX11_isOrder_21 : decode cX11_isOrder 21 = .ok (.iconst 1, 1) := by decide +kernel
theorem dX11_isOrder_22 : decode cX11_isOrder 22 = .ok (.istore_n 1, 1) := by decide +kernel
theorem dX11_isOrder_23 : decode cX11_isOrder 23 = .ok (.iconst 0, 1) := by decide +kernel
theorem dX11_isOrder_24 : decode cX11_isOrder 24 = .ok (.istore_n 2, 1) := by decide +kernel
theorem dX11_isOrder_25 : decode cX11_isOrder 25 = .ok (.iload_n 2, 1) := by decide +kernel
theorem dX11_isOrder_26 : decode cX11_isOrder 26 = .ok (.aload_n 0, 1) := by decide +kernel
theorem dX11_isOrder_27 : decode cX11_isOrder 27 = .ok (.getfield 8, 3) := by decide +kernel
theorem dX11_isOrder_30 : decode cX11_isOrder 30 = .ok (.bipush 7, 2) := by decide +kernel
theorem dX11_isOrder_32 : decode cX11_isOrder 32 = .ok (.iaload, 1) := by decide +kernel
theorem dX11_isOrder_33 : decode cX11_isOrder 33 = .ok (.if_icmp .ge 61, 3) := by decide +kernel
theorem dX11_isOrder_36 : decode cX11_isOrder 36 = .ok (.iload_n 1, 1) := by decide +kernel
theorem dX11_isOrder_37 : decode cX11_isOrder 37 = .ok (.ifCond .eq 57, 3) := by decide +kernel
theorem dX11_isOrder_40 : decode cX11_isOrder 40 = .ok (.aload_n 0, 1) := by decide +kernel
theorem dX11_isOrder_41 : decode cX11_isOrder 41 = .ok (.getfield 33, 3) := by decide +kernel
theorem dX11_isOrder_44 : decode cX11_isOrder 44 = .ok (.iload_n 2, 1) := by decide +kernel
theorem dX11_isOrder_45 : decode cX11_isOrder 45 = .ok (.iaload, 1) := by decide +kernel
theorem dX11_isOrder_46 : decode cX11_isOrder 46 = .ok (.aload_n 0, 1) := by decide +kernel
theorem dX11_isOrder_47 : decode cX11_isOrder 47 = .ok (.getfield 8, 3) := by decide +kernel
theorem dX11_isOrder_50 : decode cX11_isOrder 50 = .ok (.bipush 7, 2) := by decide +kernel
theorem dX11_isOrder_52 : decode cX11_isOrder 52 = .ok (.iaload, 1) := by decide +kernel
theorem dX11_isOrder_53 : decode cX11_isOrder 53 = .ok (.if_icmp .ge 21, 3) := by decide +kernel
theorem dX11_isOrder_56 : decode cX11_isOrder 56 = .ok (.aload_n 0, 1) := by decide +kernel
theorem dX11_isOrder_57 : decode cX11_isOrder 57 = .ok (.getfield 36, 3) := by decide +kernel
theorem dX11_isOrder_60 : decode cX11_isOrder 60 = .ok (.aload_n 0, 1) := by decide +kernel
theorem dX11_isOrder_61 : decode cX11_isOrder 61 = .ok (.getfield 33, 3) := by decide +kernel
theorem dX11_isOrder_64 : decode cX11_isOrder 64 = .ok (.iload_n 2, 1) := by decide +kernel
theorem dX11_isOrder_65 : decode cX11_isOrder 65 = .ok (.iaload, 1) := by decide +kernel
theorem dX11_isOrder_66 : decode cX11_isOrder 66 = .ok (.baload, 1) := by decide +kernel
theorem dX11_isOrder_67 : decode cX11_isOrder 67 = .ok (.ifCond .ne 7, 3) := by decide +kernel
theorem dX11_isOrder_70 : decode cX11_isOrder 70 = .ok (.iconst 1, 1) := by decide +kernel
theorem dX11_isOrder_71 : decode cX11_isOrder 71 = .ok (.goto 4, 3) := by decide +kernel
theorem dX11_isOrder_74 : decode cX11_isOrder 74 = .ok (.iconst 0, 1) := by decide +kernel
theorem dX11_isOrder_75 : decode cX11_isOrder 75 = .ok (.istore_n 1, 1) := by decide +kernel
theorem dX11_isOrder_76 : decode cX11_isOrder 76 = .ok (.aload_n 0, 1) := by decide +kernel
theorem dX11_isOrder_77 : decode cX11_isOrder 77 = .ok (.getfield 36, 3) := by decide +kernel
theorem dX11_isOrder_80 : decode cX11_isOrder 80 = .ok (.aload_n 0, 1) := by decide +kernel
theorem dX11_isOrder_81 : decode cX11_isOrder 81 = .ok (.getfield 33, 3) := by decide +kernel
theorem dX11_isOrder_84 : decode cX11_isOrder 84 = .ok (.iload_n 2, 1) := by decide +kernel
theorem dX11_isOrder_85 : decode cX11_isOrder 85 = .ok (.iaload, 1) := by decide +kernel
theorem dX11_isOrder_86 : decode cX11_isOrder 86 = .ok (.iconst 1, 1) := by decide +kernel
theorem dX11_isOrder_87 : decode cX11_isOrder 87 = .ok (.bastore, 1) := by decide +kernel
theorem dX11_isOrder_88 : decode cX11_isOrder 88 = .ok (.iinc 2 1, 3) := by decide +kernel
theorem dX11_isOrder_91 : decode cX11_isOrder 91 = .ok (.goto (-66), 3) := by decide +kernel
theorem dX11_isOrder_94 : decode cX11_isOrder 94 = .ok (.iload_n 1, 1) := by decide +kernel
theorem dX11_isOrder_95 : decode cX11_isOrder 95 = .ok (.ireturn, 1) := by decide +kernel

theorem dX11_costs_0 : decode cX11_costs 0 = .ok (.iconst 0, 1) := by decide +kernel
theorem dX11_costs_1 : decode cX11_costs 1 = .ok (.istore_n 2, 1) := by decide +kernel
theorem dX11_costs_2 : decode cX11_costs 2 = .ok (.iconst 0, 1) := by decide +kernel
theorem dX11_costs_3 : decode cX11_costs 3 = .ok (.istore_n 3, 1) := by decide +kernel
theorem dX11_costs_4 : decode cX11_costs 4 = .ok (.iconst 0, 1) := by decide +kernel
theorem dX11_costs_5 : decode cX11_costs 5 = .ok (.istore 4, 2) := by decide +kernel
theorem dX11_costs_7 : decode cX11_costs 7 = .ok (.iconst 0, 1) := by decide +kernel
theorem dX11_costs_8 : decode cX11_costs 8 = .ok (.istore 5, 2) := by decide +kernel
theorem dX11_costs_10 : decode cX11_costs 10 = .ok (.iload 5, 2) := by decide +kernel
theorem dX11_costs_12 : decode cX11_costs 12 = .ok (.aload_n 0, 1) := by decide +kernel
theorem dX11_costs_13 : decode cX11_costs 13 = .ok (.getfield 8, 3) := by decide +kernel
theorem dX11_costs_16 : decode cX11_costs 16 = .ok (.bipush 7, 2) := by decide +kernel
theorem dX11_costs_18 : decode cX11_costs 18 = .ok (.iaload, 1) := by decide +kernel
theorem dX11_costs_19 : decode cX11_costs 19 = .ok (.if_icmp .ge 137, 3) := by decide +kernel
theorem dX11_costs_22 : decode cX11_costs 22 = .ok (.bipush 20, 2) := by decide +kernel
theorem dX11_costs_24 : decode cX11_costs 24 = .ok (.iconst 3, 1) := by decide +kernel
theorem dX11_costs_25 : decode cX11_costs 25 = .ok (.aload_n 0, 1) := by decide +kernel
theorem dX11_costs_26 : decode cX11_costs 26 = .ok (.getfield 33, 3) := by decide +kernel
theorem dX11_costs_29 : decode cX11_costs 29 = .ok (.iload 5, 2) := by decide +kernel
theorem dX11_costs_31 : decode cX11_costs 31 = .ok (.iaload, 1) := by decide +kernel
theorem dX11_costs_32 : decode cX11_costs 32 = .ok (.imul, 1) := by decide +kernel
theorem dX11_costs_33 : decode cX11_costs 33 = .ok (.iadd, 1) := by decide +kernel
theorem dX11_costs_34 : decode cX11_costs 34 = .ok (.istore 6, 2) := by decide +kernel
theorem dX11_costs_36 : decode cX11_costs 36 = .ok (.iload_n 1, 1) := by decide +kernel
theorem dX11_costs_37 : decode cX11_costs 37 = .ok (.iconst 2, 1) := by decide +kernel
theorem dX11_costs_38 : decode cX11_costs 38 = .ok (.if_icmp .ne 12, 3) := by decide +kernel
theorem dX11_costs_41 : decode cX11_costs 41 = .ok (.iload_n 3, 1) := by decide +kernel
theorem dX11_costs_42 : decode cX11_costs 42 = .ok (.iload_n 2, 1) := by decide +kernel
theorem dX11_costs_43 : decode cX11_costs 43 = .ok (.if_icmp .ge 7, 3) := by decide +kernel
theorem dX11_costs_46 : decode cX11_costs 46 = .ok (.iconst 1, 1) := by decide +kernel
theorem dX11_costs_47 : decode cX11_costs 47 = .ok (.goto 4, 3) := by decide +kernel
theorem dX11_costs_50 : decode cX11_costs 50 = .ok (.iconst 0, 1) := by decide +kernel
theorem dX11_costs_51 : decode cX11_costs 51 = .ok (.istore 7, 2) := by decide +kernel
theorem dX11_costs_53 : decode cX11_costs 53 = .ok (.iload 7, 2) := by decide +kernel
theorem dX11_costs_55 : decode cX11_costs 55 = .ok (.ifCond .eq 7, 3) := by decide +kernel
theorem dX11_costs_58 : decode cX11_costs 58 = .ok (.iload_n 3, 1) := by decide +kernel
theorem dX11_costs_59 : decode cX11_costs 59 = .ok (.goto 4, 3) := by decide +kernel
theorem dX11_costs_62 : decode cX11_costs 62 = .ok (.iload_n 2, 1) := by decide +kernel
theorem dX11_costs_63 : decode cX11_costs 63 = .ok (.istore 8, 2) := by decide +kernel
theorem dX11_costs_65 : decode cX11_costs 65 = .ok (.iload 8, 2) := by decide +kernel
theorem dX11_costs_67 : decode cX11_costs 67 = .ok (.aload_n 0, 1) := by decide +kernel
theorem dX11_costs_68 : decode cX11_costs 68 = .ok (.getfield 8, 3) := by decide +kernel
theorem dX11_costs_71 : decode cX11_costs 71 = .ok (.iload 6, 2) := by decide +kernel
theorem dX11_costs_73 : decode cX11_costs 73 = .ok (.iaload, 1) := by decide +kernel
theorem dX11_costs_74 : decode cX11_costs 74 = .ok (.if_icmp .le 8, 3) := by decide +kernel
theorem dX11_costs_77 : decode cX11_costs 77 = .ok (.iload 8, 2) := by decide +kernel
theorem dX11_costs_79 : decode cX11_costs 79 = .ok (.goto 10, 3) := by decide +kernel
theorem dX11_costs_82 : decode cX11_costs 82 = .ok (.aload_n 0, 1) := by decide +kernel
theorem dX11_costs_83 : decode cX11_costs 83 = .ok (.getfield 8, 3) := by decide +kernel
theorem dX11_costs_86 : decode cX11_costs 86 = .ok (.iload 6, 2) := by decide +kernel
theorem dX11_costs_88 : decode cX11_costs 88 = .ok (.iaload, 1) := by decide +kernel
theorem dX11_costs_89 : decode cX11_costs 89 = .ok (.istore 9, 2) := by decide +kernel
theorem dX11_costs_91 : decode cX11_costs 91 = .ok (.iload 4, 2) := by decide +kernel
theorem dX11_costs_93 : decode cX11_costs 93 = .ok (.aload_n 0, 1) := by decide +kernel
theorem dX11_costs_94 : decode cX11_costs 94 = .ok (.getfield 8, 3) := by decide +kernel
theorem dX11_costs_97 : decode cX11_costs 97 = .ok (.iload 6, 2) := by decide +kernel
theorem dX11_costs_99 : decode cX11_costs 99 = .ok (.iconst 2, 1) := by decide +kernel
theorem dX11_costs_100 : decode cX11_costs 100 = .ok (.iadd, 1) := by decide +kernel
theorem dX11_costs_101 : decode cX11_costs 101 = .ok (.iaload, 1) := by decide +kernel
theorem dX11_costs_102 : decode cX11_costs 102 = .ok (.iload 9, 2) := by decide +kernel
theorem dX11_costs_104 : decode cX11_costs 104 = .ok (.aload_n 0, 1) := by decide +kernel
theorem dX11_costs_105 : decode cX11_costs 105 = .ok (.getfield 8, 3) := by decide +kernel
theorem dX11_costs_108 : decode cX11_costs 108 = .ok (.iload 6, 2) := by decide +kernel
theorem dX11_costs_110 : decode cX11_costs 110 = .ok (.iaload, 1) := by decide +kernel
theorem dX11_costs_111 : decode cX11_costs 111 = .ok (.isub, 1) := by decide +kernel
theorem dX11_costs_112 : decode cX11_costs 112 = .ok (.imul, 1) := by decide +kernel
theorem dX11_costs_113 : decode cX11_costs 113 = .ok (.iadd, 1) := by decide +kernel
theorem dX11_costs_114 : decode cX11_costs 114 = .ok (.istore 4, 2) := by decide +kernel
theorem dX11_costs_116 : decode cX11_costs 116 = .ok (.iload 7, 2) := by decide +kernel
theorem dX11_costs_118 : decode cX11_costs 118 = .ok (.ifCond .eq 19, 3) := by decide +kernel
theorem dX11_costs_121 : decode cX11_costs 121 = .ok (.iload 9, 2) := by decide +kernel
theorem dX11_costs_123 : decode cX11_costs 123 = .ok (.aload_n 0, 1) := by decide +kernel
theorem dX11_costs_124 : decode cX11_costs 124 = .ok (.getfield 8, 3) := by decide +kernel
theorem dX11_costs_127 : decode cX11_costs 127 = .ok (.iload 6, 2) := by decide +kernel
theorem dX11_costs_129 : decode cX11_costs 129 = .ok (.iconst 1, 1) := by decide +kernel
theorem dX11_costs_130 : decode cX11_costs 130 = .ok (.iadd, 1) := by decide +kernel
theorem dX11_costs_131 : decode cX11_costs 131 = .ok (.iaload, 1) := by decide +kernel
theorem dX11_costs_132 : decode cX11_costs 132 = .ok (.iadd, 1) := by decide +kernel
theorem dX11_costs_133 : decode cX11_costs 133 = .ok (.istore_n 3, 1) := by decide +kernel
theorem dX11_costs_134 : decode cX11_costs 134 = .ok (.goto 16, 3) := by decide +kernel
theorem dX11_costs_137 : decode cX11_costs 137 = .ok (.iload 9, 2) := by decide +kernel
theorem dX11_costs_139 : decode cX11_costs 139 = .ok (.aload_n 0, 1) := by decide +kernel
theorem dX11_costs_140 : decode cX11_costs 140 = .ok (.getfield 8, 3) := by decide +kernel
theorem dX11_costs_143 : decode cX11_costs 143 = .ok (.iload 6, 2) := by decide +kernel
theorem dX11_costs_145 : decode cX11_costs 145 = .ok (.iconst 1, 1) := by decide +kernel
theorem dX11_costs_146 : decode cX11_costs 146 = .ok (.iadd, 1) := by decide +kernel
theorem dX11_costs_147 : decode cX11_costs 147 = .ok (.iaload, 1) := by decide +kernel
theorem dX11_costs_148 : decode cX11_costs 148 = .ok (.iadd, 1) := by decide +kernel
theorem dX11_costs_149 : decode cX11_costs 149 = .ok (.istore_n 2, 1) := by decide +kernel
theorem dX11_costs_150 : decode cX11_costs 150 = .ok (.iinc 5 1, 3) := by decide +kernel
theorem dX11_costs_153 : decode cX11_costs 153 = .ok (.goto (-143), 3) := by decide +kernel
theorem dX11_costs_156 : decode cX11_costs 156 = .ok (.iload 4, 2) := by decide +kernel
theorem dX11_costs_158 : decode cX11_costs 158 = .ok (.ireturn, 1) := by decide +kernel

theorem dX11_turns_0 : decode cX11_turns 0 = .ok (.iload_n 1, 1) := by decide +kernel
theorem dX11_turns_1 : decode cX11_turns 1 = .ok (.iconst 1, 1) := by decide +kernel
theorem dX11_turns_2 : decode cX11_turns 2 = .ok (.iconst 2, 1) := by decide +kernel
theorem dX11_turns_3 : decode cX11_turns 3 = .ok (.invokestatic 43, 3) := by decide +kernel
theorem dX11_turns_6 : decode cX11_turns 6 = .ok (.ifCond .ne 5, 3) := by decide +kernel
theorem dX11_turns_9 : decode cX11_turns 9 = .ok (.iconst (-1), 1) := by decide +kernel
theorem dX11_turns_10 : decode cX11_turns 10 = .ok (.ireturn, 1) := by decide +kernel
theorem dX11_turns_11 : decode cX11_turns 11 = .ok (.aload_n 0, 1) := by decide +kernel
theorem dX11_turns_12 : decode cX11_turns 12 = .ok (.getfield 8, 3) := by decide +kernel
theorem dX11_turns_15 : decode cX11_turns 15 = .ok (.bipush 7, 2) := by decide +kernel
theorem dX11_turns_17 : decode cX11_turns 17 = .ok (.iaload, 1) := by decide +kernel
theorem dX11_turns_18 : decode cX11_turns 18 = .ok (.istore_n 2, 1) := by decide +kernel
theorem dX11_turns_19 : decode cX11_turns 19 = .ok (.iconst 1, 1) := by decide +kernel
theorem dX11_turns_20 : decode cX11_turns 20 = .ok (.istore_n 3, 1) := by decide +kernel
theorem dX11_turns_21 : decode cX11_turns 21 = .ok (.iconst 0, 1) := by decide +kernel
theorem dX11_turns_22 : decode cX11_turns 22 = .ok (.istore 4, 2) := by decide +kernel
theorem dX11_turns_24 : decode cX11_turns 24 = .ok (.iload 4, 2) := by decide +kernel
theorem dX11_turns_26 : decode cX11_turns 26 = .ok (.iload_n 2, 1) := by decide +kernel
theorem dX11_turns_27 : decode cX11_turns 27 = .ok (.if_icmp .ge 13, 3) := by decide +kernel
theorem dX11_turns_30 : decode cX11_turns 30 = .ok (.iload_n 3, 1) := by decide +kernel
theorem dX11_turns_31 : decode cX11_turns 31 = .ok (.iload_n 2, 1) := by decide +kernel
theorem dX11_turns_32 : decode cX11_turns 32 = .ok (.imul, 1) := by decide +kernel
theorem dX11_turns_33 : decode cX11_turns 33 = .ok (.istore_n 3, 1) := by decide +kernel
theorem dX11_turns_34 : decode cX11_turns 34 = .ok (.iinc 4 1, 3) := by decide +kernel
theorem dX11_turns_37 : decode cX11_turns 37 = .ok (.goto (-13), 3) := by decide +kernel
theorem dX11_turns_40 : decode cX11_turns 40 = .ok (.iconst (-1), 1) := by decide +kernel
theorem dX11_turns_41 : decode cX11_turns 41 = .ok (.istore 4, 2) := by decide +kernel
theorem dX11_turns_43 : decode cX11_turns 43 = .ok (.iconst 0, 1) := by decide +kernel
theorem dX11_turns_44 : decode cX11_turns 44 = .ok (.istore 5, 2) := by decide +kernel
theorem dX11_turns_46 : decode cX11_turns 46 = .ok (.iload 5, 2) := by decide +kernel
theorem dX11_turns_48 : decode cX11_turns 48 = .ok (.iload_n 3, 1) := by decide +kernel
theorem dX11_turns_49 : decode cX11_turns 49 = .ok (.if_icmp .ge 114, 3) := by decide +kernel
theorem dX11_turns_52 : decode cX11_turns 52 = .ok (.iload 5, 2) := by decide +kernel
theorem dX11_turns_54 : decode cX11_turns 54 = .ok (.istore 6, 2) := by decide +kernel
theorem dX11_turns_56 : decode cX11_turns 56 = .ok (.iload_n 2, 1) := by decide +kernel
theorem dX11_turns_57 : decode cX11_turns 57 = .ok (.iconst 1, 1) := by decide +kernel
theorem dX11_turns_58 : decode cX11_turns 58 = .ok (.isub, 1) := by decide +kernel
theorem dX11_turns_59 : decode cX11_turns 59 = .ok (.istore 7, 2) := by decide +kernel
theorem dX11_turns_61 : decode cX11_turns 61 = .ok (.iload 7, 2) := by decide +kernel
theorem dX11_turns_63 : decode cX11_turns 63 = .ok (.ifCond .lt 26, 3) := by decide +kernel
theorem dX11_turns_66 : decode cX11_turns 66 = .ok (.aload_n 0, 1) := by decide +kernel
theorem dX11_turns_67 : decode cX11_turns 67 = .ok (.getfield 33, 3) := by decide +kernel
theorem dX11_turns_70 : decode cX11_turns 70 = .ok (.iload 7, 2) := by decide +kernel
theorem dX11_turns_72 : decode cX11_turns 72 = .ok (.iload 6, 2) := by decide +kernel
theorem dX11_turns_74 : decode cX11_turns 74 = .ok (.iload_n 2, 1) := by decide +kernel
theorem dX11_turns_75 : decode cX11_turns 75 = .ok (.irem, 1) := by decide +kernel
theorem dX11_turns_76 : decode cX11_turns 76 = .ok (.iastore, 1) := by decide +kernel
theorem dX11_turns_77 : decode cX11_turns 77 = .ok (.iload 6, 2) := by decide +kernel
theorem dX11_turns_79 : decode cX11_turns 79 = .ok (.iload_n 2, 1) := by decide +kernel
theorem dX11_turns_80 : decode cX11_turns 80 = .ok (.idiv, 1) := by decide +kernel
theorem dX11_turns_81 : decode cX11_turns 81 = .ok (.istore 6, 2) := by decide +kernel
theorem dX11_turns_83 : decode cX11_turns 83 = .ok (.iinc 7 (-1), 3) := by decide +kernel
theorem dX11_turns_86 : decode cX11_turns 86 = .ok (.goto (-25), 3) := by decide +kernel
theorem dX11_turns_89 : decode cX11_turns 89 = .ok (.aload_n 0, 1) := by decide +kernel
theorem dX11_turns_90 : decode cX11_turns 90 = .ok (.invokevirtual 250, 3) := by decide +kernel
theorem dX11_turns_93 : decode cX11_turns 93 = .ok (.ifCond .ne 6, 3) := by decide +kernel
theorem dX11_turns_96 : decode cX11_turns 96 = .ok (.goto 61, 3) := by decide +kernel
theorem dX11_turns_99 : decode cX11_turns 99 = .ok (.aload_n 0, 1) := by decide +kernel
theorem dX11_turns_100 : decode cX11_turns 100 = .ok (.iload_n 1, 1) := by decide +kernel
theorem dX11_turns_101 : decode cX11_turns 101 = .ok (.invokevirtual 254, 3) := by decide +kernel
theorem dX11_turns_104 : decode cX11_turns 104 = .ok (.istore 7, 2) := by decide +kernel
theorem dX11_turns_106 : decode cX11_turns 106 = .ok (.iload 4, 2) := by decide +kernel
theorem dX11_turns_108 : decode cX11_turns 108 = .ok (.ifCond .lt 13, 3) := by decide +kernel
theorem dX11_turns_111 : decode cX11_turns 111 = .ok (.iload 7, 2) := by decide +kernel
theorem dX11_turns_113 : decode cX11_turns 113 = .ok (.iload 4, 2) := by decide +kernel
theorem dX11_turns_115 : decode cX11_turns 115 = .ok (.if_icmp .lt 6, 3) := by decide +kernel
theorem dX11_turns_118 : decode cX11_turns 118 = .ok (.goto 39, 3) := by decide +kernel
theorem dX11_turns_121 : decode cX11_turns 121 = .ok (.iload 7, 2) := by decide +kernel
theorem dX11_turns_123 : decode cX11_turns 123 = .ok (.istore 4, 2) := by decide +kernel
theorem dX11_turns_125 : decode cX11_turns 125 = .ok (.iconst 0, 1) := by decide +kernel
theorem dX11_turns_126 : decode cX11_turns 126 = .ok (.istore 8, 2) := by decide +kernel
theorem dX11_turns_128 : decode cX11_turns 128 = .ok (.iload 8, 2) := by decide +kernel
theorem dX11_turns_130 : decode cX11_turns 130 = .ok (.iload_n 2, 1) := by decide +kernel
theorem dX11_turns_131 : decode cX11_turns 131 = .ok (.if_icmp .ge 26, 3) := by decide +kernel
theorem dX11_turns_134 : decode cX11_turns 134 = .ok (.aload_n 0, 1) := by decide +kernel
theorem dX11_turns_135 : decode cX11_turns 135 = .ok (.getfield 8, 3) := by decide +kernel
theorem dX11_turns_138 : decode cX11_turns 138 = .ok (.bipush 12, 2) := by decide +kernel
theorem dX11_turns_140 : decode cX11_turns 140 = .ok (.iload 8, 2) := by decide +kernel
theorem dX11_turns_142 : decode cX11_turns 142 = .ok (.iadd, 1) := by decide +kernel
theorem dX11_turns_143 : decode cX11_turns 143 = .ok (.aload_n 0, 1) := by decide +kernel
theorem dX11_turns_144 : decode cX11_turns 144 = .ok (.getfield 33, 3) := by decide +kernel
theorem dX11_turns_147 : decode cX11_turns 147 = .ok (.iload 8, 2) := by decide +kernel
theorem dX11_turns_149 : decode cX11_turns 149 = .ok (.iaload, 1) := by decide +kernel
theorem dX11_turns_150 : decode cX11_turns 150 = .ok (.iastore, 1) := by decide +kernel
theorem dX11_turns_151 : decode cX11_turns 151 = .ok (.iinc 8 1, 3) := by decide +kernel
theorem dX11_turns_154 : decode cX11_turns 154 = .ok (.goto (-26), 3) := by decide +kernel
theorem dX11_turns_157 : decode cX11_turns 157 = .ok (.iinc 5 1, 3) := by decide +kernel
theorem dX11_turns_160 : decode cX11_turns 160 = .ok (.goto (-114), 3) := by decide +kernel
theorem dX11_turns_163 : decode cX11_turns 163 = .ok (.aload_n 0, 1) := by decide +kernel
theorem dX11_turns_164 : decode cX11_turns 164 = .ok (.getfield 8, 3) := by decide +kernel
theorem dX11_turns_167 : decode cX11_turns 167 = .ok (.bipush 8, 2) := by decide +kernel
theorem dX11_turns_169 : decode cX11_turns 169 = .ok (.iload_n 2, 1) := by decide +kernel
theorem dX11_turns_170 : decode cX11_turns 170 = .ok (.iastore, 1) := by decide +kernel
theorem dX11_turns_171 : decode cX11_turns 171 = .ok (.iload 4, 2) := by decide +kernel
theorem dX11_turns_173 : decode cX11_turns 173 = .ok (.ireturn, 1) := by decide +kernel

theorem dX11_cost_0 : decode cX11_cost 0 = .ok (.iload_n 2, 1) := by decide +kernel
theorem dX11_cost_1 : decode cX11_cost 1 = .ok (.iconst 1, 1) := by decide +kernel
theorem dX11_cost_2 : decode cX11_cost 2 = .ok (.iconst 2, 1) := by decide +kernel
theorem dX11_cost_3 : decode cX11_cost 3 = .ok (.invokestatic 43, 3) := by decide +kernel
theorem dX11_cost_6 : decode cX11_cost 6 = .ok (.ifCond .ne 5, 3) := by decide +kernel
theorem dX11_cost_9 : decode cX11_cost 9 = .ok (.iconst (-1), 1) := by decide +kernel
theorem dX11_cost_10 : decode cX11_cost 10 = .ok (.ireturn, 1) := by decide +kernel
theorem dX11_cost_11 : decode cX11_cost 11 = .ok (.iconst 0, 1) := by decide +kernel
theorem dX11_cost_12 : decode cX11_cost 12 = .ok (.istore_n 3, 1) := by decide +kernel
theorem dX11_cost_13 : decode cX11_cost 13 = .ok (.iload_n 3, 1) := by decide +kernel
theorem dX11_cost_14 : decode cX11_cost 14 = .ok (.bipush 6, 2) := by decide +kernel
theorem dX11_cost_16 : decode cX11_cost 16 = .ok (.if_icmp .ge 23, 3) := by decide +kernel
theorem dX11_cost_19 : decode cX11_cost 19 = .ok (.aload_n 0, 1) := by decide +kernel
theorem dX11_cost_20 : decode cX11_cost 20 = .ok (.getfield 33, 3) := by decide +kernel
theorem dX11_cost_23 : decode cX11_cost 23 = .ok (.iload_n 3, 1) := by decide +kernel
theorem dX11_cost_24 : decode cX11_cost 24 = .ok (.iload_n 1, 1) := by decide +kernel
theorem dX11_cost_25 : decode cX11_cost 25 = .ok (.iconst 3, 1) := by decide +kernel
theorem dX11_cost_26 : decode cX11_cost 26 = .ok (.iload_n 3, 1) := by decide +kernel
theorem dX11_cost_27 : decode cX11_cost 27 = .ok (.imul, 1) := by decide +kernel
theorem dX11_cost_28 : decode cX11_cost 28 = .ok (.ishr, 1) := by decide +kernel
theorem dX11_cost_29 : decode cX11_cost 29 = .ok (.bipush 7, 2) := by decide +kernel
theorem dX11_cost_31 : decode cX11_cost 31 = .ok (.iand, 1) := by decide +kernel
theorem dX11_cost_32 : decode cX11_cost 32 = .ok (.iastore, 1) := by decide +kernel
theorem dX11_cost_33 : decode cX11_cost 33 = .ok (.iinc 3 1, 3) := by decide +kernel
theorem dX11_cost_36 : decode cX11_cost 36 = .ok (.goto (-23), 3) := by decide +kernel
theorem dX11_cost_39 : decode cX11_cost 39 = .ok (.aload_n 0, 1) := by decide +kernel
theorem dX11_cost_40 : decode cX11_cost 40 = .ok (.invokevirtual 250, 3) := by decide +kernel
theorem dX11_cost_43 : decode cX11_cost 43 = .ok (.ifCond .eq 11, 3) := by decide +kernel
theorem dX11_cost_46 : decode cX11_cost 46 = .ok (.aload_n 0, 1) := by decide +kernel
theorem dX11_cost_47 : decode cX11_cost 47 = .ok (.iload_n 2, 1) := by decide +kernel
theorem dX11_cost_48 : decode cX11_cost 48 = .ok (.invokevirtual 254, 3) := by decide +kernel
theorem dX11_cost_51 : decode cX11_cost 51 = .ok (.goto 4, 3) := by decide +kernel
theorem dX11_cost_54 : decode cX11_cost 54 = .ok (.iconst (-1), 1) := by decide +kernel
theorem dX11_cost_55 : decode cX11_cost 55 = .ok (.ireturn, 1) := by decide +kernel

/-! X11_isOrder -/
def wX11_isOrder_75 (Q : Int32 → (Nat → Int32) → Prop) (K_25 : Int32 → Int32 → (Nat → Int32) → (Nat → Int32) → (Nat → Int32) → Prop)  (x2 : Int32) (s0 : Int32) (r_all : (Nat → Int32)) (r_met : (Nat → Int32)) (r_tried : (Nat → Int32)) : Prop :=
  (vp_in x2 6 ∧ (vp_in (r_tried x2.toNatClampNeg) 8 ∧ (K_25 s0 (x2 + (1 : Int32)) r_all (upd r_met (r_tried x2.toNatClampNeg).toNatClampNeg (vp_nar .boolean (1 : Int32))) r_tried)))
def wX11_isOrder_74 (Q : Int32 → (Nat → Int32) → Prop) (K_25 : Int32 → Int32 → (Nat → Int32) → (Nat → Int32) → (Nat → Int32) → Prop)  (x2 : Int32) (r_all : (Nat → Int32)) (r_met : (Nat → Int32)) (r_tried : (Nat → Int32)) : Prop :=
  (wX11_isOrder_75 Q K_25 x2 (0 : Int32) r_all r_met r_tried)
def wX11_isOrder_25 (Q : Int32 → (Nat → Int32) → Prop)   : Nat → Int32 → Int32 → (Nat → Int32) → (Nat → Int32) → (Nat → Int32) → Prop
  | 0, _, _, _, _, _ => False
  | n + 1, x1, x2, r_all, r_met, r_tried => (vp_in (7 : Int32) 53700 ∧ (((r_all (7 : Int32).toNatClampNeg) ≤ x2 → (narrow .boolean (.int x1) = .int x1 ∧ (Q x1 r_met))) ∧ (¬ (r_all (7 : Int32).toNatClampNeg) ≤ x2 → ((x1 = 0 → (narrow .boolean (.int x1) = .int x1 ∧ (Q x1 r_met))) ∧ (¬ x1 = 0 → (vp_in x2 6 ∧ (vp_in (7 : Int32) 53700 ∧ (((r_all (7 : Int32).toNatClampNeg) ≤ (r_tried x2.toNatClampNeg) → (wX11_isOrder_74 Q (wX11_isOrder_25 Q n) x2 r_all r_met r_tried)) ∧ (¬ (r_all (7 : Int32).toNatClampNeg) ≤ (r_tried x2.toNatClampNeg) → (vp_in x2 6 ∧ (vp_in (r_tried x2.toNatClampNeg) 8 ∧ ((¬ (r_met (r_tried x2.toNatClampNeg).toNatClampNeg) = 0 → (wX11_isOrder_74 Q (wX11_isOrder_25 Q n) x2 r_all r_met r_tried)) ∧ ((r_met (r_tried x2.toNatClampNeg).toNatClampNeg) = 0 → (wX11_isOrder_75 Q (wX11_isOrder_25 Q n) x2 (1 : Int32) r_all r_met r_tried))))))))))))))
def wX11_isOrder_2 (Q : Int32 → (Nat → Int32) → Prop)   : Nat → Int32 → (Nat → Int32) → (Nat → Int32) → (Nat → Int32) → Prop
  | 0, _, _, _, _ => False
  | n + 1, x1, r_all, r_met, r_tried => (((8 : Int32) ≤ x1 → (∃ j_, wX11_isOrder_25 Q j_ (1 : Int32) (0 : Int32) r_all r_met r_tried)) ∧ (¬ (8 : Int32) ≤ x1 → (vp_in x1 8 ∧ (wX11_isOrder_2 Q n (x1 + (1 : Int32)) r_all (upd r_met x1.toNatClampNeg (vp_nar .boolean (0 : Int32))) r_tried))))
def wX11_isOrder (Q : Int32 → (Nat → Int32) → Prop)  (r_all : Nat → Int32) (r_met : Nat → Int32) (r_tried : Nat → Int32) : Prop :=
  (∃ j_, wX11_isOrder_2 Q j_ (0 : Int32) r_all r_met r_tried)
abbrev vX11_isOrder (cI cZ : ClassId) (h h_all h_has h_line h_act h_pile h_comes h_leaves h_tried h_met : Nat) (f_size : Int32) (f_next : Int32) (f_where : Int32) (f_token : Int32) (f_number : Int32) (f_sign : Int32) (f_word : Int32) (f_wrong : Int32) (f_open : Int32) (f_lines : Int32) (f_acts : Int32) (r_all : Nat → Int32) (r_met : Nat → Int32) (r_tried : Nat → Int32) : va_W := [(h, .inr (10, [.ref h_all, .ref h_has, .int f_size, .int f_next, .int f_where, .int f_token, .int f_number, .int f_sign, .int f_word, .int f_wrong, .int f_open, .int f_lines, .int f_acts, .ref h_line, .ref h_act, .ref h_pile, .ref h_comes, .ref h_leaves, .ref h_tried, .ref h_met])), (h_all, .inl (cI, 53700, .inl r_all)), (h_met, .inl (cZ, 8, .inl r_met)), (h_tried, .inl (cI, 6, .inl r_tried))]
abbrev rmX11_isOrder : Room := { frames := 0, cells := 0, slots := 0, locals := 0 }
abbrev qX11_isOrder (dC : Nat → ClassId) (dI : Nat → Nat → Nat) (cI cZ cO cW : ClassId) (h h_all h_has h_line h_act h_pile h_comes h_leaves h_tried h_met : Nat) (f_size : Int32) (f_next : Int32) (f_where : Int32) (f_token : Int32) (f_number : Int32) (f_sign : Int32) (f_word : Int32) (f_wrong : Int32) (f_open : Int32) (f_lines : Int32) (f_acts : Int32) (r_all : Nat → Int32) (r_tried : Nat → Int32) (Q : Int32 → (Nat → Int32) → Prop) (A : Nat → Prop) : Array Value → State → Outcome → State → Prop := va_Qi (fun (r : Int32) (u : (Nat → Int32)) => Q r u) (fun (u : (Nat → Int32)) (t : State) => va_P (dC, dI) vwCl (vX11_isOrder cI cZ h h_all h_has h_line h_act h_pile h_comes h_leaves h_tried h_met f_size f_next f_where f_token f_number f_sign f_word f_wrong f_open f_lines f_acts r_all u r_tried) t.heap ∧ va_K (dC, dI) vwCl (tysA cI cZ cO cW) t ∧ va_D A (vX11_isOrder cI cZ h h_all h_has h_line h_act h_pile h_comes h_leaves h_tried h_met f_size f_next f_where f_token f_number f_sign f_word f_wrong f_open f_lines f_acts r_all u r_tried)) A
def zsX11_isOrder : List Cond := Cond.code yX11_isOrder cX11_isOrder 3 (some .boolean) :: GW
set_option maxHeartbeats 4000000 in
set_option maxRecDepth 100000 in
theorem tX11_isOrder_75 {p : Program} {l : Launch} {e : Env} {s : State} {m : MethodId} {args : Array Value} {below : List Frame} {meth : Method} {c : Code} {dC : Nat → ClassId} {dI : Nat → Nat → Nat} {cI cZ cO cW : ClassId} {A : Nat → Prop} {h h_all h_has h_line h_act h_pile h_comes h_leaves h_tried h_met : Nat} {f_size f_next f_where f_token f_number f_sign f_word f_wrong f_open f_lines f_acts : Int32} {Q : Int32 → (Nat → Int32) → Prop} {K_25 : Int32 → Int32 → (Nat → Int32) → (Nat → Int32) → (Nat → Int32) → Prop} (hC : Cx p s m args meth c cX11_isOrder (some .boolean) 3 GW RX11) (hK : va_K (dC, dI) vwCl (tysA cI cZ cO cW) s) (hA : ∀ q : Nat, s.heap.size ≤ q → A q) (hk_25 : ∀ (x1 : Int32) (x2 : Int32) (r_all : (Nat → Int32)) (r_met : (Nat → Int32)) (r_tried : (Nat → Int32)) (H : Heap) (locs : List Loc) (ls : Array Slot), K_25 x1 x2 r_all r_met r_tried → va_P (dC, dI) vwCl (vX11_isOrder cI cZ h h_all h_has h_line h_act h_pile h_comes h_leaves h_tried h_met f_size f_next f_where f_token f_number f_sign f_word f_wrong f_open f_lines f_acts r_all r_met r_tried) H → va_D A (vX11_isOrder cI cZ h h_all h_has h_line h_act h_pile h_comes h_leaves h_tried h_met f_size f_next f_where f_token f_number f_sign f_word f_wrong f_open f_lines f_acts r_all r_met r_tried) → va_S A s.heap H locs → lv_has ls 3 [(0, .ref h), (1, .int x1), (2, .int x2)] → W p l e rmX11_isOrder s m args below meth c H locs 0 0 (MQ below (qX11_isOrder dC dI cI cZ cO cW h h_all h_has h_line h_act h_pile h_comes h_leaves h_tried h_met f_size f_next f_where f_token f_number f_sign f_word f_wrong f_open f_lines f_acts r_all r_tried Q A) args s 0 0 A) (F0 m 25 ls [])) :
    ∀ (x2 : Int32) (s0 : Int32) (r_all : (Nat → Int32)) (r_met : (Nat → Int32)) (r_tried : (Nat → Int32)) (H : Heap) (locs : List Loc) (ls : Array Slot), wX11_isOrder_75 Q K_25 x2 s0 r_all r_met r_tried → va_P (dC, dI) vwCl (vX11_isOrder cI cZ h h_all h_has h_line h_act h_pile h_comes h_leaves h_tried h_met f_size f_next f_where f_token f_number f_sign f_word f_wrong f_open f_lines f_acts r_all r_met r_tried) H → va_D A (vX11_isOrder cI cZ h h_all h_has h_line h_act h_pile h_comes h_leaves h_tried h_met f_size f_next f_where f_token f_number f_sign f_word f_wrong f_open f_lines f_acts r_all r_met r_tried) → va_S A s.heap H locs → lv_has ls 3 [(0, .ref h), (2, .int x2)] → W p l e rmX11_isOrder s m args below meth c H locs 0 0 (MQ below (qX11_isOrder dC dI cI cZ cO cW h h_all h_has h_line h_act h_pile h_comes h_leaves h_tried h_met f_size f_next f_where f_token f_number f_sign f_word f_wrong f_open f_lines f_acts r_all r_tried Q A) args s 0 0 A) (F0 m 75 ls [.int s0]) := by
  obtain ⟨hx, hb, hr, hml, hown, hts, hlocks⟩ := id hC
  intro x2 s0 r_all r_met r_tried H locs ls hw hP hD hS hl
  refine lv_istore_n (lv' := [(1, .int s0), (0, .ref h), (2, .int x2)]) hx hb dX11_isOrder_75 rfl hl (by decide) rfl (fun ls hl => ?_)
  refine lv_aload_n hx hb dX11_isOrder_76 rfl (lv_at hl 1 rfl) ?_
  refine va_get (D := (dC, dI)) (ci := 10) (v := .ref h_met) (C := RX11) (T := TX11) (N := 20) hx hb hts gu_X11 hown hK hP 0 rfl rfl 19 (by decide) (hts _ gw_618) (fun _ h9 => h9) rfl dX11_isOrder_77 ?_
  refine lv_aload_n hx hb dX11_isOrder_80 rfl (lv_at hl 1 rfl) ?_
  refine va_get (D := (dC, dI)) (ci := 10) (v := .ref h_tried) (C := RX11) (T := TX11) (N := 20) hx hb hts gu_X11 hown hK hP 0 rfl rfl 18 (by decide) (hts _ gw_617) (fun _ h9 => h9) rfl dX11_isOrder_81 ?_
  refine lv_iload_n hx hb dX11_isOrder_84 rfl (lv_at hl 2 rfl) ?_
  obtain ⟨h_1, hw⟩ := hw
  refine va_iald hx hb hK hP 3 0 rfl rfl h_1 dX11_isOrder_85 ?_
  refine lv_iconst (v := (1 : Int32)) hx hb dX11_isOrder_86 (by decide) ?_
  obtain ⟨h_2, hw⟩ := hw
  refine va_zast hx hb hK hP hD hS 2 1 rfl rfl h_2 dX11_isOrder_87 (fun H locs hP hD hS => ?_)
  have hP : va_P (dC, dI) vwCl [(h, .inr (10, [.ref h_all, .ref h_has, .int f_size, .int f_next, .int f_where, .int f_token, .int f_number, .int f_sign, .int f_word, .int f_wrong, .int f_open, .int f_lines, .int f_acts, .ref h_line, .ref h_act, .ref h_pile, .ref h_comes, .ref h_leaves, .ref h_tried, .ref h_met])), (h_all, .inl (cI, 53700, .inl r_all)), (h_met, .inl (cZ, 8, .inl (upd r_met (r_tried x2.toNatClampNeg).toNatClampNeg (vp_nar .boolean (1 : Int32))))), (h_tried, .inl (cI, 6, .inl r_tried))] _ := hP
  have hD : va_D A [(h, .inr (10, [.ref h_all, .ref h_has, .int f_size, .int f_next, .int f_where, .int f_token, .int f_number, .int f_sign, .int f_word, .int f_wrong, .int f_open, .int f_lines, .int f_acts, .ref h_line, .ref h_act, .ref h_pile, .ref h_comes, .ref h_leaves, .ref h_tried, .ref h_met])), (h_all, .inl (cI, 53700, .inl r_all)), (h_met, .inl (cZ, 8, .inl (upd r_met (r_tried x2.toNatClampNeg).toNatClampNeg (vp_nar .boolean (1 : Int32))))), (h_tried, .inl (cI, 6, .inl r_tried))] := hD
  refine lv_iinc (v := (x2 + (1 : Int32))) (lv' := [(2, .int (x2 + (1 : Int32))), (1, .int s0), (0, .ref h)]) hx hb dX11_isOrder_88 hl (k := 2) rfl rfl (by decide) rfl (fun ls hl => ?_)
  refine lv_goto (tgt := 25) hx hb dX11_isOrder_91 (by decide) ?_
  exact hk_25 s0 (x2 + (1 : Int32)) r_all (upd r_met (r_tried x2.toNatClampNeg).toNatClampNeg (vp_nar .boolean (1 : Int32))) r_tried _ _ ls hw (hP.sub [0, 1, 2, 3] rfl) (hD.sub [0, 1, 2, 3] (by decide) rfl) hS (lv_sub hl [2, 1, 0] rfl)
set_option maxHeartbeats 4000000 in
set_option maxRecDepth 100000 in
theorem tX11_isOrder_74 {p : Program} {l : Launch} {e : Env} {s : State} {m : MethodId} {args : Array Value} {below : List Frame} {meth : Method} {c : Code} {dC : Nat → ClassId} {dI : Nat → Nat → Nat} {cI cZ cO cW : ClassId} {A : Nat → Prop} {h h_all h_has h_line h_act h_pile h_comes h_leaves h_tried h_met : Nat} {f_size f_next f_where f_token f_number f_sign f_word f_wrong f_open f_lines f_acts : Int32} {Q : Int32 → (Nat → Int32) → Prop} {K_25 : Int32 → Int32 → (Nat → Int32) → (Nat → Int32) → (Nat → Int32) → Prop} (hC : Cx p s m args meth c cX11_isOrder (some .boolean) 3 GW RX11) (hK : va_K (dC, dI) vwCl (tysA cI cZ cO cW) s) (hA : ∀ q : Nat, s.heap.size ≤ q → A q) (hk_25 : ∀ (x1 : Int32) (x2 : Int32) (r_all : (Nat → Int32)) (r_met : (Nat → Int32)) (r_tried : (Nat → Int32)) (H : Heap) (locs : List Loc) (ls : Array Slot), K_25 x1 x2 r_all r_met r_tried → va_P (dC, dI) vwCl (vX11_isOrder cI cZ h h_all h_has h_line h_act h_pile h_comes h_leaves h_tried h_met f_size f_next f_where f_token f_number f_sign f_word f_wrong f_open f_lines f_acts r_all r_met r_tried) H → va_D A (vX11_isOrder cI cZ h h_all h_has h_line h_act h_pile h_comes h_leaves h_tried h_met f_size f_next f_where f_token f_number f_sign f_word f_wrong f_open f_lines f_acts r_all r_met r_tried) → va_S A s.heap H locs → lv_has ls 3 [(0, .ref h), (1, .int x1), (2, .int x2)] → W p l e rmX11_isOrder s m args below meth c H locs 0 0 (MQ below (qX11_isOrder dC dI cI cZ cO cW h h_all h_has h_line h_act h_pile h_comes h_leaves h_tried h_met f_size f_next f_where f_token f_number f_sign f_word f_wrong f_open f_lines f_acts r_all r_tried Q A) args s 0 0 A) (F0 m 25 ls [])) :
    ∀ (x2 : Int32) (r_all : (Nat → Int32)) (r_met : (Nat → Int32)) (r_tried : (Nat → Int32)) (H : Heap) (locs : List Loc) (ls : Array Slot), wX11_isOrder_74 Q K_25 x2 r_all r_met r_tried → va_P (dC, dI) vwCl (vX11_isOrder cI cZ h h_all h_has h_line h_act h_pile h_comes h_leaves h_tried h_met f_size f_next f_where f_token f_number f_sign f_word f_wrong f_open f_lines f_acts r_all r_met r_tried) H → va_D A (vX11_isOrder cI cZ h h_all h_has h_line h_act h_pile h_comes h_leaves h_tried h_met f_size f_next f_where f_token f_number f_sign f_word f_wrong f_open f_lines f_acts r_all r_met r_tried) → va_S A s.heap H locs → lv_has ls 3 [(0, .ref h), (2, .int x2)] → W p l e rmX11_isOrder s m args below meth c H locs 0 0 (MQ below (qX11_isOrder dC dI cI cZ cO cW h h_all h_has h_line h_act h_pile h_comes h_leaves h_tried h_met f_size f_next f_where f_token f_number f_sign f_word f_wrong f_open f_lines f_acts r_all r_tried Q A) args s 0 0 A) (F0 m 74 ls []) := by
  obtain ⟨hx, hb, hr, hml, hown, hts, hlocks⟩ := id hC
  intro x2 r_all r_met r_tried H locs ls hw hP hD hS hl
  refine lv_iconst (v := (0 : Int32)) hx hb dX11_isOrder_74 (by decide) ?_
  exact tX11_isOrder_75 hC hK hA hk_25 x2 (0 : Int32) r_all r_met r_tried _ _ ls hw (hP.sub [0, 1, 2, 3] rfl) (hD.sub [0, 1, 2, 3] (by decide) rfl) hS (lv_sub hl [0, 1] rfl)
set_option maxHeartbeats 4000000 in
set_option maxRecDepth 100000 in
theorem tX11_isOrder_25 {p : Program} {l : Launch} {e : Env} {s : State} {m : MethodId} {args : Array Value} {below : List Frame} {meth : Method} {c : Code} {dC : Nat → ClassId} {dI : Nat → Nat → Nat} {cI cZ cO cW : ClassId} {A : Nat → Prop} {h h_all h_has h_line h_act h_pile h_comes h_leaves h_tried h_met : Nat} {f_size f_next f_where f_token f_number f_sign f_word f_wrong f_open f_lines f_acts : Int32} {Q : Int32 → (Nat → Int32) → Prop}  (hC : Cx p s m args meth c cX11_isOrder (some .boolean) 3 GW RX11) (hK : va_K (dC, dI) vwCl (tysA cI cZ cO cW) s) (hA : ∀ q : Nat, s.heap.size ≤ q → A q) :
    ∀ (n : Nat) (x1 : Int32) (x2 : Int32) (r_all : (Nat → Int32)) (r_met : (Nat → Int32)) (r_tried : (Nat → Int32)) (H : Heap) (locs : List Loc) (ls : Array Slot), wX11_isOrder_25 Q  n x1 x2 r_all r_met r_tried → va_P (dC, dI) vwCl (vX11_isOrder cI cZ h h_all h_has h_line h_act h_pile h_comes h_leaves h_tried h_met f_size f_next f_where f_token f_number f_sign f_word f_wrong f_open f_lines f_acts r_all r_met r_tried) H → va_D A (vX11_isOrder cI cZ h h_all h_has h_line h_act h_pile h_comes h_leaves h_tried h_met f_size f_next f_where f_token f_number f_sign f_word f_wrong f_open f_lines f_acts r_all r_met r_tried) → va_S A s.heap H locs → lv_has ls 3 [(0, .ref h), (1, .int x1), (2, .int x2)] → W p l e rmX11_isOrder s m args below meth c H locs 0 0 (MQ below (qX11_isOrder dC dI cI cZ cO cW h h_all h_has h_line h_act h_pile h_comes h_leaves h_tried h_met f_size f_next f_where f_token f_number f_sign f_word f_wrong f_open f_lines f_acts r_all r_tried Q A) args s 0 0 A) (F0 m 25 ls []) := by
  obtain ⟨hx, hb, hr, hml, hown, hts, hlocks⟩ := id hC
  intro n
  induction n with
  | zero =>
    intro  x1 x2 r_all r_met r_tried H locs ls hw
    exact hw.elim
  | succ n ih =>
    intro  x1 x2 r_all r_met r_tried H locs ls hw hP hD hS hl
    refine lv_iload_n hx hb dX11_isOrder_25 rfl (lv_at hl 2 rfl) ?_
    refine lv_aload_n hx hb dX11_isOrder_26 rfl (lv_at hl 0 rfl) ?_
    refine va_get (D := (dC, dI)) (ci := 10) (v := .ref h_all) (C := RX11) (T := TX11) (N := 20) hx hb hts gu_X11 hown hK hP 0 rfl rfl 0 (by decide) (hts _ gw_607) (fun _ h9 => h9) rfl dX11_isOrder_27 ?_
    refine lv_bipush (v := (7 : Int32)) hx hb dX11_isOrder_30 (by decide) ?_
    obtain ⟨h_3, hw⟩ := hw
    refine va_iald hx hb hK hP 1 0 rfl rfl h_3 dX11_isOrder_32 ?_
    refine lv_icmp_ge (tgt := 94) hx hb dX11_isOrder_33 (by decide) (fun c_4 => ?_) (fun c_4 => ?_)
    · have hw := hw.1 c_4
      refine lv_iload_n hx hb dX11_isOrder_94 rfl (lv_at hl 1 rfl) ?_
      obtain ⟨h_5, hw⟩ := hw
      have hP9 := hP.sub (ws' := (vX11_isOrder cI cZ h h_all h_has h_line h_act h_pile h_comes h_leaves h_tried h_met f_size f_next f_where f_token f_number f_sign f_word f_wrong f_open f_lines f_acts r_all r_met r_tried)) [0, 1, 2, 3] rfl
      have hD9 := hD.sub (ws' := (vX11_isOrder cI cZ h h_all h_has h_line h_act h_pile h_comes h_leaves h_tried h_met f_size f_next f_where f_token f_number f_sign f_word f_wrong f_open f_lines f_acts r_all r_met r_tried)) [0, 1, 2, 3] (by decide) rfl
      exact W.zret (v := x1) (ty := .boolean) hx hb hr h_5 (fun t ht hW => ⟨⟨x1, r_met, rfl, hw, by rw [ht]; exact hP9, va_K.moved hW.alike hK, hD9⟩, hS.F ht⟩) hS.2.2 dX11_isOrder_95
    · have hw := hw.2 c_4
      refine lv_iload_n hx hb dX11_isOrder_36 rfl (lv_at hl 1 rfl) ?_
      refine lv_if_eq (tgt := 94) hx hb dX11_isOrder_37 (by decide) (fun c_6 => ?_) (fun c_6 => ?_)
      · have hw := hw.1 c_6
        refine lv_iload_n hx hb dX11_isOrder_94 rfl (lv_at hl 1 rfl) ?_
        obtain ⟨h_7, hw⟩ := hw
        have hP9 := hP.sub (ws' := (vX11_isOrder cI cZ h h_all h_has h_line h_act h_pile h_comes h_leaves h_tried h_met f_size f_next f_where f_token f_number f_sign f_word f_wrong f_open f_lines f_acts r_all r_met r_tried)) [0, 1, 2, 3] rfl
        have hD9 := hD.sub (ws' := (vX11_isOrder cI cZ h h_all h_has h_line h_act h_pile h_comes h_leaves h_tried h_met f_size f_next f_where f_token f_number f_sign f_word f_wrong f_open f_lines f_acts r_all r_met r_tried)) [0, 1, 2, 3] (by decide) rfl
        exact W.zret (v := x1) (ty := .boolean) hx hb hr h_7 (fun t ht hW => ⟨⟨x1, r_met, rfl, hw, by rw [ht]; exact hP9, va_K.moved hW.alike hK, hD9⟩, hS.F ht⟩) hS.2.2 dX11_isOrder_95
      · have hw := hw.2 c_6
        refine lv_aload_n hx hb dX11_isOrder_40 rfl (lv_at hl 0 rfl) ?_
        refine va_get (D := (dC, dI)) (ci := 10) (v := .ref h_tried) (C := RX11) (T := TX11) (N := 20) hx hb hts gu_X11 hown hK hP 0 rfl rfl 18 (by decide) (hts _ gw_617) (fun _ h9 => h9) rfl dX11_isOrder_41 ?_
        refine lv_iload_n hx hb dX11_isOrder_44 rfl (lv_at hl 2 rfl) ?_
        obtain ⟨h_8, hw⟩ := hw
        refine va_iald hx hb hK hP 3 0 rfl rfl h_8 dX11_isOrder_45 ?_
        refine lv_aload_n hx hb dX11_isOrder_46 rfl (lv_at hl 0 rfl) ?_
        refine va_get (D := (dC, dI)) (ci := 10) (v := .ref h_all) (C := RX11) (T := TX11) (N := 20) hx hb hts gu_X11 hown hK hP 0 rfl rfl 0 (by decide) (hts _ gw_607) (fun _ h9 => h9) rfl dX11_isOrder_47 ?_
        refine lv_bipush (v := (7 : Int32)) hx hb dX11_isOrder_50 (by decide) ?_
        obtain ⟨h_9, hw⟩ := hw
        refine va_iald hx hb hK hP 1 0 rfl rfl h_9 dX11_isOrder_52 ?_
        refine lv_icmp_ge (tgt := 74) hx hb dX11_isOrder_53 (by decide) (fun c_10 => ?_) (fun c_10 => ?_)
        · have hw := hw.1 c_10
          exact tX11_isOrder_74 hC hK hA ih x2 r_all r_met r_tried _ _ ls hw (hP.sub [0, 1, 2, 3] rfl) (hD.sub [0, 1, 2, 3] (by decide) rfl) hS (lv_sub hl [0, 2] rfl)
        · have hw := hw.2 c_10
          refine lv_aload_n hx hb dX11_isOrder_56 rfl (lv_at hl 0 rfl) ?_
          refine va_get (D := (dC, dI)) (ci := 10) (v := .ref h_met) (C := RX11) (T := TX11) (N := 20) hx hb hts gu_X11 hown hK hP 0 rfl rfl 19 (by decide) (hts _ gw_618) (fun _ h9 => h9) rfl dX11_isOrder_57 ?_
          refine lv_aload_n hx hb dX11_isOrder_60 rfl (lv_at hl 0 rfl) ?_
          refine va_get (D := (dC, dI)) (ci := 10) (v := .ref h_tried) (C := RX11) (T := TX11) (N := 20) hx hb hts gu_X11 hown hK hP 0 rfl rfl 18 (by decide) (hts _ gw_617) (fun _ h9 => h9) rfl dX11_isOrder_61 ?_
          refine lv_iload_n hx hb dX11_isOrder_64 rfl (lv_at hl 2 rfl) ?_
          obtain ⟨h_11, hw⟩ := hw
          refine va_iald hx hb hK hP 3 0 rfl rfl h_11 dX11_isOrder_65 ?_
          obtain ⟨h_12, hw⟩ := hw
          refine va_zald hx hb hK hP 2 1 rfl rfl h_12 dX11_isOrder_66 ?_
          refine lv_if_ne (tgt := 74) hx hb dX11_isOrder_67 (by decide) (fun c_13 => ?_) (fun c_13 => ?_)
          · have hw := hw.1 c_13
            exact tX11_isOrder_74 hC hK hA ih x2 r_all r_met r_tried _ _ ls hw (hP.sub [0, 1, 2, 3] rfl) (hD.sub [0, 1, 2, 3] (by decide) rfl) hS (lv_sub hl [0, 2] rfl)
          · have hw := hw.2 c_13
            refine lv_iconst (v := (1 : Int32)) hx hb dX11_isOrder_70 (by decide) ?_
            refine lv_goto (tgt := 75) hx hb dX11_isOrder_71 (by decide) ?_
            exact tX11_isOrder_75 hC hK hA ih x2 (1 : Int32) r_all r_met r_tried _ _ ls hw (hP.sub [0, 1, 2, 3] rfl) (hD.sub [0, 1, 2, 3] (by decide) rfl) hS (lv_sub hl [0, 2] rfl)
set_option maxHeartbeats 4000000 in
set_option maxRecDepth 100000 in
theorem tX11_isOrder_2 {p : Program} {l : Launch} {e : Env} {s : State} {m : MethodId} {args : Array Value} {below : List Frame} {meth : Method} {c : Code} {dC : Nat → ClassId} {dI : Nat → Nat → Nat} {cI cZ cO cW : ClassId} {A : Nat → Prop} {h h_all h_has h_line h_act h_pile h_comes h_leaves h_tried h_met : Nat} {f_size f_next f_where f_token f_number f_sign f_word f_wrong f_open f_lines f_acts : Int32} {Q : Int32 → (Nat → Int32) → Prop}  (hC : Cx p s m args meth c cX11_isOrder (some .boolean) 3 GW RX11) (hK : va_K (dC, dI) vwCl (tysA cI cZ cO cW) s) (hA : ∀ q : Nat, s.heap.size ≤ q → A q) :
    ∀ (n : Nat) (x1 : Int32) (r_all : (Nat → Int32)) (r_met : (Nat → Int32)) (r_tried : (Nat → Int32)) (H : Heap) (locs : List Loc) (ls : Array Slot), wX11_isOrder_2 Q  n x1 r_all r_met r_tried → va_P (dC, dI) vwCl (vX11_isOrder cI cZ h h_all h_has h_line h_act h_pile h_comes h_leaves h_tried h_met f_size f_next f_where f_token f_number f_sign f_word f_wrong f_open f_lines f_acts r_all r_met r_tried) H → va_D A (vX11_isOrder cI cZ h h_all h_has h_line h_act h_pile h_comes h_leaves h_tried h_met f_size f_next f_where f_token f_number f_sign f_word f_wrong f_open f_lines f_acts r_all r_met r_tried) → va_S A s.heap H locs → lv_has ls 3 [(0, .ref h), (1, .int x1)] → W p l e rmX11_isOrder s m args below meth c H locs 0 0 (MQ below (qX11_isOrder dC dI cI cZ cO cW h h_all h_has h_line h_act h_pile h_comes h_leaves h_tried h_met f_size f_next f_where f_token f_number f_sign f_word f_wrong f_open f_lines f_acts r_all r_tried Q A) args s 0 0 A) (F0 m 2 ls []) := by
  obtain ⟨hx, hb, hr, hml, hown, hts, hlocks⟩ := id hC
  intro n
  induction n with
  | zero =>
    intro  x1 r_all r_met r_tried H locs ls hw
    exact hw.elim
  | succ n ih =>
    intro  x1 r_all r_met r_tried H locs ls hw hP hD hS hl
    refine lv_iload_n hx hb dX11_isOrder_2 rfl (lv_at hl 1 rfl) ?_
    refine lv_bipush (v := (8 : Int32)) hx hb dX11_isOrder_3 (by decide) ?_
    refine lv_icmp_ge (tgt := 21) hx hb dX11_isOrder_5 (by decide) (fun c_14 => ?_) (fun c_14 => ?_)
    · have hw := hw.1 c_14
      refine lv_iconst (v := (1 : Int32)) hx hb dX11_isOrder_21 (by decide) ?_
      refine lv_istore_n (lv' := [(1, .int (1 : Int32)), (0, .ref h)]) hx hb dX11_isOrder_22 rfl hl (by decide) rfl (fun ls hl => ?_)
      refine lv_iconst (v := (0 : Int32)) hx hb dX11_isOrder_23 (by decide) ?_
      refine lv_istore_n (lv' := [(2, .int (0 : Int32)), (1, .int (1 : Int32)), (0, .ref h)]) hx hb dX11_isOrder_24 rfl hl (by decide) rfl (fun ls hl => ?_)
      obtain ⟨n_15, hw⟩ := hw
      exact tX11_isOrder_25 hC hK hA  n_15 (1 : Int32) (0 : Int32) r_all r_met r_tried _ _ ls hw (hP.sub [0, 1, 2, 3] rfl) (hD.sub [0, 1, 2, 3] (by decide) rfl) hS (lv_sub hl [2, 1, 0] rfl)
    · have hw := hw.2 c_14
      refine lv_aload_n hx hb dX11_isOrder_8 rfl (lv_at hl 0 rfl) ?_
      refine va_get (D := (dC, dI)) (ci := 10) (v := .ref h_met) (C := RX11) (T := TX11) (N := 20) hx hb hts gu_X11 hown hK hP 0 rfl rfl 19 (by decide) (hts _ gw_618) (fun _ h9 => h9) rfl dX11_isOrder_9 ?_
      refine lv_iload_n hx hb dX11_isOrder_12 rfl (lv_at hl 1 rfl) ?_
      refine lv_iconst (v := (0 : Int32)) hx hb dX11_isOrder_13 (by decide) ?_
      obtain ⟨h_16, hw⟩ := hw
      refine va_zast hx hb hK hP hD hS 2 1 rfl rfl h_16 dX11_isOrder_14 (fun H locs hP hD hS => ?_)
      have hP : va_P (dC, dI) vwCl [(h, .inr (10, [.ref h_all, .ref h_has, .int f_size, .int f_next, .int f_where, .int f_token, .int f_number, .int f_sign, .int f_word, .int f_wrong, .int f_open, .int f_lines, .int f_acts, .ref h_line, .ref h_act, .ref h_pile, .ref h_comes, .ref h_leaves, .ref h_tried, .ref h_met])), (h_all, .inl (cI, 53700, .inl r_all)), (h_met, .inl (cZ, 8, .inl (upd r_met x1.toNatClampNeg (vp_nar .boolean (0 : Int32))))), (h_tried, .inl (cI, 6, .inl r_tried))] _ := hP
      have hD : va_D A [(h, .inr (10, [.ref h_all, .ref h_has, .int f_size, .int f_next, .int f_where, .int f_token, .int f_number, .int f_sign, .int f_word, .int f_wrong, .int f_open, .int f_lines, .int f_acts, .ref h_line, .ref h_act, .ref h_pile, .ref h_comes, .ref h_leaves, .ref h_tried, .ref h_met])), (h_all, .inl (cI, 53700, .inl r_all)), (h_met, .inl (cZ, 8, .inl (upd r_met x1.toNatClampNeg (vp_nar .boolean (0 : Int32))))), (h_tried, .inl (cI, 6, .inl r_tried))] := hD
      refine lv_iinc (v := (x1 + (1 : Int32))) (lv' := [(1, .int (x1 + (1 : Int32))), (0, .ref h)]) hx hb dX11_isOrder_15 hl (k := 1) rfl rfl (by decide) rfl (fun ls hl => ?_)
      refine lv_goto (tgt := 2) hx hb dX11_isOrder_18 (by decide) ?_
      exact ih (x1 + (1 : Int32)) r_all (upd r_met x1.toNatClampNeg (vp_nar .boolean (0 : Int32))) r_tried _ _ ls hw (hP.sub [0, 1, 2, 3] rfl) (hD.sub [0, 1, 2, 3] (by decide) rfl) hS (lv_sub hl [1, 0] rfl)
set_option maxHeartbeats 4000000 in
set_option maxRecDepth 100000 in
theorem tX11_isOrder_e {p : Program} {l : Launch} {e : Env} {s : State} {m : MethodId} {args : Array Value} {below : List Frame} {meth : Method} {c : Code} {dC : Nat → ClassId} {dI : Nat → Nat → Nat} {cI cZ cO cW : ClassId} {A : Nat → Prop} {h h_all h_has h_line h_act h_pile h_comes h_leaves h_tried h_met : Nat} {f_size f_next f_where f_token f_number f_sign f_word f_wrong f_open f_lines f_acts : Int32} {Q : Int32 → (Nat → Int32) → Prop} (hC : Cx p s m args meth c cX11_isOrder (some .boolean) 3 GW RX11) (hK : va_K (dC, dI) vwCl (tysA cI cZ cO cW) s) (hA : ∀ q : Nat, s.heap.size ≤ q → A q) :
    ∀ (r_all : Nat → Int32) (r_met : Nat → Int32) (r_tried : Nat → Int32) (H : Heap) (locs : List Loc) (ls : Array Slot), wX11_isOrder Q  r_all r_met r_tried → va_P (dC, dI) vwCl (vX11_isOrder cI cZ h h_all h_has h_line h_act h_pile h_comes h_leaves h_tried h_met f_size f_next f_where f_token f_number f_sign f_word f_wrong f_open f_lines f_acts r_all r_met r_tried) H → va_D A (vX11_isOrder cI cZ h h_all h_has h_line h_act h_pile h_comes h_leaves h_tried h_met f_size f_next f_where f_token f_number f_sign f_word f_wrong f_open f_lines f_acts r_all r_met r_tried) → va_S A s.heap H locs → lv_has ls 3 [(0, .ref h)] → W p l e rmX11_isOrder s m args below meth c H locs 0 0 (MQ below (qX11_isOrder dC dI cI cZ cO cW h h_all h_has h_line h_act h_pile h_comes h_leaves h_tried h_met f_size f_next f_where f_token f_number f_sign f_word f_wrong f_open f_lines f_acts r_all r_tried Q A) args s 0 0 A) (F0 m 0 ls []) := by
  obtain ⟨hx, hb, hr, hml, hown, hts, hlocks⟩ := id hC
  intro  r_all r_met r_tried H locs ls hw hP hD hS hl
  refine lv_iconst (v := (0 : Int32)) hx hb dX11_isOrder_0 (by decide) ?_
  refine lv_istore_n (lv' := [(1, .int (0 : Int32)), (0, .ref h)]) hx hb dX11_isOrder_1 rfl hl (by decide) rfl (fun ls hl => ?_)
  obtain ⟨n_17, hw⟩ := hw
  exact tX11_isOrder_2 hC hK hA  n_17 (0 : Int32) r_all r_met r_tried _ _ ls hw (hP.sub [0, 1, 2, 3] rfl) (hD.sub [0, 1, 2, 3] (by decide) rfl) hS (lv_sub hl [1, 0] rfl)
set_option maxHeartbeats 4000000 in
set_option maxRecDepth 100000 in
theorem kX11_isOrder (l : Launch) (dC : Nat → ClassId) (dI : Nat → Nat → Nat) (cI cZ cO cW : ClassId) (h h_all h_has h_line h_act h_pile h_comes h_leaves h_tried h_met : Nat)  (sz : Nat) (f_size : Int32) (f_next : Int32) (f_where : Int32) (f_token : Int32) (f_number : Int32) (f_sign : Int32) (f_word : Int32) (f_wrong : Int32) (f_open : Int32) (f_lines : Int32) (f_acts : Int32) (r_all : Nat → Int32) (r_met : Nat → Int32) (r_tried : Nat → Int32)  (Q : Int32 → (Nat → Int32) → Prop) (hw : wX11_isOrder Q  r_all r_met r_tried) : Met l yX11_isOrder zsX11_isOrder rmX11_isOrder (va_Pc [.ref h] (fun U => U.heap.size = sz ∧ va_P (dC, dI) vwCl (vX11_isOrder cI cZ h h_all h_has h_line h_act h_pile h_comes h_leaves h_tried h_met f_size f_next f_where f_token f_number f_sign f_word f_wrong f_open f_lines f_acts r_all r_met r_tried) U.heap ∧ va_K (dC, dI) vwCl (tysA cI cZ cO cW) U ∧ va_D (fun _ => True) (vX11_isOrder cI cZ h h_all h_has h_line h_act h_pile h_comes h_leaves h_tried h_met f_size f_next f_where f_token f_number f_sign f_word f_wrong f_open f_lines f_acts r_all r_met r_tried))) (qX11_isOrder dC dI cI cZ cO cW h h_all h_has h_line h_act h_pile h_comes h_leaves h_tried h_met f_size f_next f_where f_token f_number f_sign f_word f_wrong f_open f_lines f_acts r_all r_tried Q (va_A (vX11_isOrder cI cZ h h_all h_has h_line h_act h_pile h_comes h_leaves h_tried h_met f_size f_next f_where f_token f_number f_sign f_word f_wrong f_open f_lines f_acts r_all r_met r_tried) sz)) 0 0 (va_A (vX11_isOrder cI cZ h h_all h_has h_line h_act h_pile h_comes h_leaves h_tried h_met f_size f_next f_where f_token f_number f_sign f_word f_wrong f_open f_lines f_acts r_all r_met r_tried) sz) := by
  refine Met.ofW (cc := cX11_isOrder) (maxL := 3) (ret := (some .boolean)) (by decide) rfl ?_
  intro p e s m args below meth c s₁ B hml hv
  obtain ⟨rfl, hsz, hP, hK, hD0⟩ := hv
  subst hsz
  have hC : Cx p s m ([.ref h] : List Value).toArray meth c cX11_isOrder (some .boolean) 3 GW RX11 := ⟨B.exec, B.bytes, B.returns, hml, findClass_of_methodNamed B.named, fun w h => atoms_spec (ws := zsX11_isOrder) B.pre w (List.mem_cons_of_mem _ h), B.notSynchronized⟩
  have hD := hD0.self (sz := s.heap.size)
  generalize hAe : va_A (vX11_isOrder cI cZ h h_all h_has h_line h_act h_pile h_comes h_leaves h_tried h_met f_size f_next f_where f_token f_number f_sign f_word f_wrong f_open f_lines f_acts r_all r_met r_tried) s.heap.size = A at hD ⊢
  have hA : ∀ q : Nat, s.heap.size ≤ q → A q := fun q h => by rw [← hAe]; exact Or.inr h
  have hl := lv_entry ([.ref h]) (n := 3) (Nat.le_of_ble_eq_true rfl)
  rw [lg_entry_eq]
  generalize (lg_sl ([.ref h]) ++ List.replicate (3 - (lg_sl ([.ref h])).length) Slot.unset).toArray = ls at hl ⊢
  exact tX11_isOrder_e hC hK hA  r_all r_met r_tried _ _ ls hw hP hD va_S.rf hl

/-! X11_costs -/
def wX11_costs_150 (Q : Int32 → Prop) (K_10 : Int32 → Int32 → Int32 → Int32 → Int32 → (Nat → Int32) → (Nat → Int32) → Prop)  (x1 : Int32) (x2 : Int32) (x3 : Int32) (x4 : Int32) (x5 : Int32) (r_all : (Nat → Int32)) (r_tried : (Nat → Int32)) : Prop :=
  (K_10 x1 x2 x3 x4 (x5 + (1 : Int32)) r_all r_tried)
def wX11_costs_89 (Q : Int32 → Prop) (K_10 : Int32 → Int32 → Int32 → Int32 → Int32 → (Nat → Int32) → (Nat → Int32) → Prop)  (x1 : Int32) (x2 : Int32) (x3 : Int32) (x4 : Int32) (x5 : Int32) (x6 : Int32) (x7 : Int32) (s0 : Int32) (r_all : (Nat → Int32)) (r_tried : (Nat → Int32)) : Prop :=
  (vp_in (x6 + (2 : Int32)) 53700 ∧ (vp_in x6 53700 ∧ ((x7 = 0 → (vp_in (x6 + (1 : Int32)) 53700 ∧ (wX11_costs_150 Q K_10 x1 (s0 + (r_all (x6 + (1 : Int32)).toNatClampNeg)) x3 (x4 + ((r_all (x6 + (2 : Int32)).toNatClampNeg) * (s0 - (r_all x6.toNatClampNeg)))) x5 r_all r_tried))) ∧ (¬ x7 = 0 → (vp_in (x6 + (1 : Int32)) 53700 ∧ (wX11_costs_150 Q K_10 x1 x2 (s0 + (r_all (x6 + (1 : Int32)).toNatClampNeg)) (x4 + ((r_all (x6 + (2 : Int32)).toNatClampNeg) * (s0 - (r_all x6.toNatClampNeg)))) x5 r_all r_tried))))))
def wX11_costs_63 (Q : Int32 → Prop) (K_10 : Int32 → Int32 → Int32 → Int32 → Int32 → (Nat → Int32) → (Nat → Int32) → Prop)  (x1 : Int32) (x2 : Int32) (x3 : Int32) (x4 : Int32) (x5 : Int32) (x6 : Int32) (x7 : Int32) (s0 : Int32) (r_all : (Nat → Int32)) (r_tried : (Nat → Int32)) : Prop :=
  (vp_in x6 53700 ∧ ((s0 ≤ (r_all x6.toNatClampNeg) → (vp_in x6 53700 ∧ (wX11_costs_89 Q K_10 x1 x2 x3 x4 x5 x6 x7 (r_all x6.toNatClampNeg) r_all r_tried))) ∧ (¬ s0 ≤ (r_all x6.toNatClampNeg) → (wX11_costs_89 Q K_10 x1 x2 x3 x4 x5 x6 x7 s0 r_all r_tried))))
def wX11_costs_51 (Q : Int32 → Prop) (K_10 : Int32 → Int32 → Int32 → Int32 → Int32 → (Nat → Int32) → (Nat → Int32) → Prop)  (x1 : Int32) (x2 : Int32) (x3 : Int32) (x4 : Int32) (x5 : Int32) (x6 : Int32) (s0 : Int32) (r_all : (Nat → Int32)) (r_tried : (Nat → Int32)) : Prop :=
  ((s0 = 0 → (wX11_costs_63 Q K_10 x1 x2 x3 x4 x5 x6 s0 x2 r_all r_tried)) ∧ (¬ s0 = 0 → (wX11_costs_63 Q K_10 x1 x2 x3 x4 x5 x6 s0 x3 r_all r_tried)))
def wX11_costs_50 (Q : Int32 → Prop) (K_10 : Int32 → Int32 → Int32 → Int32 → Int32 → (Nat → Int32) → (Nat → Int32) → Prop)  (x1 : Int32) (x2 : Int32) (x3 : Int32) (x4 : Int32) (x5 : Int32) (x6 : Int32) (r_all : (Nat → Int32)) (r_tried : (Nat → Int32)) : Prop :=
  (wX11_costs_51 Q K_10 x1 x2 x3 x4 x5 x6 (0 : Int32) r_all r_tried)
def wX11_costs_10 (Q : Int32 → Prop)   : Nat → Int32 → Int32 → Int32 → Int32 → Int32 → (Nat → Int32) → (Nat → Int32) → Prop
  | 0, _, _, _, _, _, _, _ => False
  | n + 1, x1, x2, x3, x4, x5, r_all, r_tried => (vp_in (7 : Int32) 53700 ∧ (((r_all (7 : Int32).toNatClampNeg) ≤ x5 → (Q x4)) ∧ (¬ (r_all (7 : Int32).toNatClampNeg) ≤ x5 → (vp_in x5 6 ∧ ((¬ x1 = (2 : Int32) → (wX11_costs_50 Q (wX11_costs_10 Q n) x1 x2 x3 x4 x5 ((20 : Int32) + ((3 : Int32) * (r_tried x5.toNatClampNeg))) r_all r_tried)) ∧ (x1 = (2 : Int32) → ((x2 ≤ x3 → (wX11_costs_50 Q (wX11_costs_10 Q n) x1 x2 x3 x4 x5 ((20 : Int32) + ((3 : Int32) * (r_tried x5.toNatClampNeg))) r_all r_tried)) ∧ (¬ x2 ≤ x3 → (wX11_costs_51 Q (wX11_costs_10 Q n) x1 x2 x3 x4 x5 ((20 : Int32) + ((3 : Int32) * (r_tried x5.toNatClampNeg))) (1 : Int32) r_all r_tried)))))))))
def wX11_costs (Q : Int32 → Prop) (x1 : Int32) (r_all : Nat → Int32) (r_tried : Nat → Int32) : Prop :=
  (∃ j_, wX11_costs_10 Q j_ x1 (0 : Int32) (0 : Int32) (0 : Int32) (0 : Int32) r_all r_tried)
abbrev vX11_costs (cI cZ : ClassId) (h h_all h_has h_line h_act h_pile h_comes h_leaves h_tried h_met : Nat) (f_size : Int32) (f_next : Int32) (f_where : Int32) (f_token : Int32) (f_number : Int32) (f_sign : Int32) (f_word : Int32) (f_wrong : Int32) (f_open : Int32) (f_lines : Int32) (f_acts : Int32) (r_all : Nat → Int32) (r_tried : Nat → Int32) : va_W := [(h, .inr (10, [.ref h_all, .ref h_has, .int f_size, .int f_next, .int f_where, .int f_token, .int f_number, .int f_sign, .int f_word, .int f_wrong, .int f_open, .int f_lines, .int f_acts, .ref h_line, .ref h_act, .ref h_pile, .ref h_comes, .ref h_leaves, .ref h_tried, .ref h_met])), (h_all, .inl (cI, 53700, .inl r_all)), (h_tried, .inl (cI, 6, .inl r_tried))]
abbrev rmX11_costs : Room := { frames := 0, cells := 0, slots := 0, locals := 0 }
abbrev qX11_costs (dC : Nat → ClassId) (dI : Nat → Nat → Nat) (cI cZ cO cW : ClassId) (h h_all h_has h_line h_act h_pile h_comes h_leaves h_tried h_met : Nat) (f_size : Int32) (f_next : Int32) (f_where : Int32) (f_token : Int32) (f_number : Int32) (f_sign : Int32) (f_word : Int32) (f_wrong : Int32) (f_open : Int32) (f_lines : Int32) (f_acts : Int32) (r_all : Nat → Int32) (r_tried : Nat → Int32) (Q : Int32 → Prop) (A : Nat → Prop) : Array Value → State → Outcome → State → Prop := va_Qi (fun (r : Int32) (u : Unit) => Q r) (fun (u : Unit) (t : State) => va_P (dC, dI) vwCl (vX11_costs cI cZ h h_all h_has h_line h_act h_pile h_comes h_leaves h_tried h_met f_size f_next f_where f_token f_number f_sign f_word f_wrong f_open f_lines f_acts r_all r_tried) t.heap ∧ va_K (dC, dI) vwCl (tysA cI cZ cO cW) t ∧ va_D A (vX11_costs cI cZ h h_all h_has h_line h_act h_pile h_comes h_leaves h_tried h_met f_size f_next f_where f_token f_number f_sign f_word f_wrong f_open f_lines f_acts r_all r_tried)) A
def zsX11_costs : List Cond := Cond.code yX11_costs cX11_costs 10 (some .int) :: GW
set_option maxHeartbeats 4000000 in
set_option maxRecDepth 100000 in
theorem tX11_costs_150 {p : Program} {l : Launch} {e : Env} {s : State} {m : MethodId} {args : Array Value} {below : List Frame} {meth : Method} {c : Code} {dC : Nat → ClassId} {dI : Nat → Nat → Nat} {cI cZ cO cW : ClassId} {A : Nat → Prop} {h h_all h_has h_line h_act h_pile h_comes h_leaves h_tried h_met : Nat} {f_size f_next f_where f_token f_number f_sign f_word f_wrong f_open f_lines f_acts : Int32} {Q : Int32 → Prop} {K_10 : Int32 → Int32 → Int32 → Int32 → Int32 → (Nat → Int32) → (Nat → Int32) → Prop} (hC : Cx p s m args meth c cX11_costs (some .int) 10 GW RX11) (hK : va_K (dC, dI) vwCl (tysA cI cZ cO cW) s) (hA : ∀ q : Nat, s.heap.size ≤ q → A q) (hk_10 : ∀ (x1 : Int32) (x2 : Int32) (x3 : Int32) (x4 : Int32) (x5 : Int32) (r_all : (Nat → Int32)) (r_tried : (Nat → Int32)) (H : Heap) (locs : List Loc) (ls : Array Slot), K_10 x1 x2 x3 x4 x5 r_all r_tried → va_P (dC, dI) vwCl (vX11_costs cI cZ h h_all h_has h_line h_act h_pile h_comes h_leaves h_tried h_met f_size f_next f_where f_token f_number f_sign f_word f_wrong f_open f_lines f_acts r_all r_tried) H → va_D A (vX11_costs cI cZ h h_all h_has h_line h_act h_pile h_comes h_leaves h_tried h_met f_size f_next f_where f_token f_number f_sign f_word f_wrong f_open f_lines f_acts r_all r_tried) → va_S A s.heap H locs → lv_has ls 10 [(0, .ref h), (1, .int x1), (2, .int x2), (3, .int x3), (4, .int x4), (5, .int x5)] → W p l e rmX11_costs s m args below meth c H locs 0 0 (MQ below (qX11_costs dC dI cI cZ cO cW h h_all h_has h_line h_act h_pile h_comes h_leaves h_tried h_met f_size f_next f_where f_token f_number f_sign f_word f_wrong f_open f_lines f_acts r_all r_tried Q A) args s 0 0 A) (F0 m 10 ls [])) :
    ∀ (x1 : Int32) (x2 : Int32) (x3 : Int32) (x4 : Int32) (x5 : Int32) (r_all : (Nat → Int32)) (r_tried : (Nat → Int32)) (H : Heap) (locs : List Loc) (ls : Array Slot), wX11_costs_150 Q K_10 x1 x2 x3 x4 x5 r_all r_tried → va_P (dC, dI) vwCl (vX11_costs cI cZ h h_all h_has h_line h_act h_pile h_comes h_leaves h_tried h_met f_size f_next f_where f_token f_number f_sign f_word f_wrong f_open f_lines f_acts r_all r_tried) H → va_D A (vX11_costs cI cZ h h_all h_has h_line h_act h_pile h_comes h_leaves h_tried h_met f_size f_next f_where f_token f_number f_sign f_word f_wrong f_open f_lines f_acts r_all r_tried) → va_S A s.heap H locs → lv_has ls 10 [(0, .ref h), (1, .int x1), (2, .int x2), (3, .int x3), (4, .int x4), (5, .int x5)] → W p l e rmX11_costs s m args below meth c H locs 0 0 (MQ below (qX11_costs dC dI cI cZ cO cW h h_all h_has h_line h_act h_pile h_comes h_leaves h_tried h_met f_size f_next f_where f_token f_number f_sign f_word f_wrong f_open f_lines f_acts r_all r_tried Q A) args s 0 0 A) (F0 m 150 ls []) := by
  obtain ⟨hx, hb, hr, hml, hown, hts, hlocks⟩ := id hC
  intro x1 x2 x3 x4 x5 r_all r_tried H locs ls hw hP hD hS hl
  refine lv_iinc (v := (x5 + (1 : Int32))) (lv' := [(5, .int (x5 + (1 : Int32))), (0, .ref h), (1, .int x1), (2, .int x2), (3, .int x3), (4, .int x4)]) hx hb dX11_costs_150 hl (k := 5) rfl rfl (by decide) rfl (fun ls hl => ?_)
  refine lv_goto (tgt := 10) hx hb dX11_costs_153 (by decide) ?_
  exact hk_10 x1 x2 x3 x4 (x5 + (1 : Int32)) r_all r_tried _ _ ls hw (hP.sub [0, 1, 2] rfl) (hD.sub [0, 1, 2] (by decide) rfl) hS (lv_sub hl [1, 2, 3, 4, 5, 0] rfl)
set_option maxHeartbeats 4000000 in
set_option maxRecDepth 100000 in
theorem tX11_costs_89 {p : Program} {l : Launch} {e : Env} {s : State} {m : MethodId} {args : Array Value} {below : List Frame} {meth : Method} {c : Code} {dC : Nat → ClassId} {dI : Nat → Nat → Nat} {cI cZ cO cW : ClassId} {A : Nat → Prop} {h h_all h_has h_line h_act h_pile h_comes h_leaves h_tried h_met : Nat} {f_size f_next f_where f_token f_number f_sign f_word f_wrong f_open f_lines f_acts : Int32} {Q : Int32 → Prop} {K_10 : Int32 → Int32 → Int32 → Int32 → Int32 → (Nat → Int32) → (Nat → Int32) → Prop} (hC : Cx p s m args meth c cX11_costs (some .int) 10 GW RX11) (hK : va_K (dC, dI) vwCl (tysA cI cZ cO cW) s) (hA : ∀ q : Nat, s.heap.size ≤ q → A q) (hk_10 : ∀ (x1 : Int32) (x2 : Int32) (x3 : Int32) (x4 : Int32) (x5 : Int32) (r_all : (Nat → Int32)) (r_tried : (Nat → Int32)) (H : Heap) (locs : List Loc) (ls : Array Slot), K_10 x1 x2 x3 x4 x5 r_all r_tried → va_P (dC, dI) vwCl (vX11_costs cI cZ h h_all h_has h_line h_act h_pile h_comes h_leaves h_tried h_met f_size f_next f_where f_token f_number f_sign f_word f_wrong f_open f_lines f_acts r_all r_tried) H → va_D A (vX11_costs cI cZ h h_all h_has h_line h_act h_pile h_comes h_leaves h_tried h_met f_size f_next f_where f_token f_number f_sign f_word f_wrong f_open f_lines f_acts r_all r_tried) → va_S A s.heap H locs → lv_has ls 10 [(0, .ref h), (1, .int x1), (2, .int x2), (3, .int x3), (4, .int x4), (5, .int x5)] → W p l e rmX11_costs s m args below meth c H locs 0 0 (MQ below (qX11_costs dC dI cI cZ cO cW h h_all h_has h_line h_act h_pile h_comes h_leaves h_tried h_met f_size f_next f_where f_token f_number f_sign f_word f_wrong f_open f_lines f_acts r_all r_tried Q A) args s 0 0 A) (F0 m 10 ls [])) :
    ∀ (x1 : Int32) (x2 : Int32) (x3 : Int32) (x4 : Int32) (x5 : Int32) (x6 : Int32) (x7 : Int32) (s0 : Int32) (r_all : (Nat → Int32)) (r_tried : (Nat → Int32)) (H : Heap) (locs : List Loc) (ls : Array Slot), wX11_costs_89 Q K_10 x1 x2 x3 x4 x5 x6 x7 s0 r_all r_tried → va_P (dC, dI) vwCl (vX11_costs cI cZ h h_all h_has h_line h_act h_pile h_comes h_leaves h_tried h_met f_size f_next f_where f_token f_number f_sign f_word f_wrong f_open f_lines f_acts r_all r_tried) H → va_D A (vX11_costs cI cZ h h_all h_has h_line h_act h_pile h_comes h_leaves h_tried h_met f_size f_next f_where f_token f_number f_sign f_word f_wrong f_open f_lines f_acts r_all r_tried) → va_S A s.heap H locs → lv_has ls 10 [(0, .ref h), (1, .int x1), (2, .int x2), (3, .int x3), (4, .int x4), (5, .int x5), (6, .int x6), (7, .int x7)] → W p l e rmX11_costs s m args below meth c H locs 0 0 (MQ below (qX11_costs dC dI cI cZ cO cW h h_all h_has h_line h_act h_pile h_comes h_leaves h_tried h_met f_size f_next f_where f_token f_number f_sign f_word f_wrong f_open f_lines f_acts r_all r_tried Q A) args s 0 0 A) (F0 m 89 ls [.int s0]) := by
  obtain ⟨hx, hb, hr, hml, hown, hts, hlocks⟩ := id hC
  intro x1 x2 x3 x4 x5 x6 x7 s0 r_all r_tried H locs ls hw hP hD hS hl
  refine lv_istore (lv' := [(9, .int s0), (0, .ref h), (1, .int x1), (2, .int x2), (3, .int x3), (4, .int x4), (5, .int x5), (6, .int x6), (7, .int x7)]) hx hb dX11_costs_89 hl (by decide) rfl (fun ls hl => ?_)
  refine lv_iload hx hb dX11_costs_91 (lv_at hl 5 rfl) ?_
  refine lv_aload_n hx hb dX11_costs_93 rfl (lv_at hl 1 rfl) ?_
  refine va_get (D := (dC, dI)) (ci := 10) (v := .ref h_all) (C := RX11) (T := TX11) (N := 20) hx hb hts gu_X11 hown hK hP 0 rfl rfl 0 (by decide) (hts _ gw_607) (fun _ h9 => h9) rfl dX11_costs_94 ?_
  refine lv_iload hx hb dX11_costs_97 (lv_at hl 7 rfl) ?_
  refine lv_iconst (v := (2 : Int32)) hx hb dX11_costs_99 (by decide) ?_
  refine lv_iadd hx hb dX11_costs_100 ?_
  obtain ⟨h_1, hw⟩ := hw
  refine va_iald hx hb hK hP 1 0 rfl rfl h_1 dX11_costs_101 ?_
  refine lv_iload hx hb dX11_costs_102 (lv_at hl 0 rfl) ?_
  refine lv_aload_n hx hb dX11_costs_104 rfl (lv_at hl 1 rfl) ?_
  refine va_get (D := (dC, dI)) (ci := 10) (v := .ref h_all) (C := RX11) (T := TX11) (N := 20) hx hb hts gu_X11 hown hK hP 0 rfl rfl 0 (by decide) (hts _ gw_607) (fun _ h9 => h9) rfl dX11_costs_105 ?_
  refine lv_iload hx hb dX11_costs_108 (lv_at hl 7 rfl) ?_
  obtain ⟨h_2, hw⟩ := hw
  refine va_iald hx hb hK hP 1 0 rfl rfl h_2 dX11_costs_110 ?_
  refine lv_isub hx hb dX11_costs_111 ?_
  refine lv_imul hx hb dX11_costs_112 ?_
  refine lv_iadd hx hb dX11_costs_113 ?_
  refine lv_istore (lv' := [(4, .int (x4 + ((r_all (x6 + (2 : Int32)).toNatClampNeg) * (s0 - (r_all x6.toNatClampNeg))))), (9, .int s0), (0, .ref h), (1, .int x1), (2, .int x2), (3, .int x3), (5, .int x5), (6, .int x6), (7, .int x7)]) hx hb dX11_costs_114 hl (by decide) rfl (fun ls hl => ?_)
  refine lv_iload hx hb dX11_costs_116 (lv_at hl 8 rfl) ?_
  refine lv_if_eq (tgt := 137) hx hb dX11_costs_118 (by decide) (fun c_3 => ?_) (fun c_3 => ?_)
  · have hw := hw.1 c_3
    refine lv_iload hx hb dX11_costs_137 (lv_at hl 1 rfl) ?_
    refine lv_aload_n hx hb dX11_costs_139 rfl (lv_at hl 2 rfl) ?_
    refine va_get (D := (dC, dI)) (ci := 10) (v := .ref h_all) (C := RX11) (T := TX11) (N := 20) hx hb hts gu_X11 hown hK hP 0 rfl rfl 0 (by decide) (hts _ gw_607) (fun _ h9 => h9) rfl dX11_costs_140 ?_
    refine lv_iload hx hb dX11_costs_143 (lv_at hl 7 rfl) ?_
    refine lv_iconst (v := (1 : Int32)) hx hb dX11_costs_145 (by decide) ?_
    refine lv_iadd hx hb dX11_costs_146 ?_
    obtain ⟨h_4, hw⟩ := hw
    refine va_iald hx hb hK hP 1 0 rfl rfl h_4 dX11_costs_147 ?_
    refine lv_iadd hx hb dX11_costs_148 ?_
    refine lv_istore_n (lv' := [(2, .int (s0 + (r_all (x6 + (1 : Int32)).toNatClampNeg))), (4, .int (x4 + ((r_all (x6 + (2 : Int32)).toNatClampNeg) * (s0 - (r_all x6.toNatClampNeg))))), (9, .int s0), (0, .ref h), (1, .int x1), (3, .int x3), (5, .int x5), (6, .int x6), (7, .int x7)]) hx hb dX11_costs_149 rfl hl (by decide) rfl (fun ls hl => ?_)
    exact tX11_costs_150 hC hK hA hk_10 x1 (s0 + (r_all (x6 + (1 : Int32)).toNatClampNeg)) x3 (x4 + ((r_all (x6 + (2 : Int32)).toNatClampNeg) * (s0 - (r_all x6.toNatClampNeg)))) x5 r_all r_tried _ _ ls hw (hP.sub [0, 1, 2] rfl) (hD.sub [0, 1, 2] (by decide) rfl) hS (lv_sub hl [3, 4, 0, 5, 1, 6] rfl)
  · have hw := hw.2 c_3
    refine lv_iload hx hb dX11_costs_121 (lv_at hl 1 rfl) ?_
    refine lv_aload_n hx hb dX11_costs_123 rfl (lv_at hl 2 rfl) ?_
    refine va_get (D := (dC, dI)) (ci := 10) (v := .ref h_all) (C := RX11) (T := TX11) (N := 20) hx hb hts gu_X11 hown hK hP 0 rfl rfl 0 (by decide) (hts _ gw_607) (fun _ h9 => h9) rfl dX11_costs_124 ?_
    refine lv_iload hx hb dX11_costs_127 (lv_at hl 7 rfl) ?_
    refine lv_iconst (v := (1 : Int32)) hx hb dX11_costs_129 (by decide) ?_
    refine lv_iadd hx hb dX11_costs_130 ?_
    obtain ⟨h_5, hw⟩ := hw
    refine va_iald hx hb hK hP 1 0 rfl rfl h_5 dX11_costs_131 ?_
    refine lv_iadd hx hb dX11_costs_132 ?_
    refine lv_istore_n (lv' := [(3, .int (s0 + (r_all (x6 + (1 : Int32)).toNatClampNeg))), (4, .int (x4 + ((r_all (x6 + (2 : Int32)).toNatClampNeg) * (s0 - (r_all x6.toNatClampNeg))))), (9, .int s0), (0, .ref h), (1, .int x1), (2, .int x2), (5, .int x5), (6, .int x6), (7, .int x7)]) hx hb dX11_costs_133 rfl hl (by decide) rfl (fun ls hl => ?_)
    refine lv_goto (tgt := 150) hx hb dX11_costs_134 (by decide) ?_
    exact tX11_costs_150 hC hK hA hk_10 x1 x2 (s0 + (r_all (x6 + (1 : Int32)).toNatClampNeg)) (x4 + ((r_all (x6 + (2 : Int32)).toNatClampNeg) * (s0 - (r_all x6.toNatClampNeg)))) x5 r_all r_tried _ _ ls hw (hP.sub [0, 1, 2] rfl) (hD.sub [0, 1, 2] (by decide) rfl) hS (lv_sub hl [3, 4, 5, 0, 1, 6] rfl)
set_option maxHeartbeats 4000000 in
set_option maxRecDepth 100000 in
theorem tX11_costs_63 {p : Program} {l : Launch} {e : Env} {s : State} {m : MethodId} {args : Array Value} {below : List Frame} {meth : Method} {c : Code} {dC : Nat → ClassId} {dI : Nat → Nat → Nat} {cI cZ cO cW : ClassId} {A : Nat → Prop} {h h_all h_has h_line h_act h_pile h_comes h_leaves h_tried h_met : Nat} {f_size f_next f_where f_token f_number f_sign f_word f_wrong f_open f_lines f_acts : Int32} {Q : Int32 → Prop} {K_10 : Int32 → Int32 → Int32 → Int32 → Int32 → (Nat → Int32) → (Nat → Int32) → Prop} (hC : Cx p s m args meth c cX11_costs (some .int) 10 GW RX11) (hK : va_K (dC, dI) vwCl (tysA cI cZ cO cW) s) (hA : ∀ q : Nat, s.heap.size ≤ q → A q) (hk_10 : ∀ (x1 : Int32) (x2 : Int32) (x3 : Int32) (x4 : Int32) (x5 : Int32) (r_all : (Nat → Int32)) (r_tried : (Nat → Int32)) (H : Heap) (locs : List Loc) (ls : Array Slot), K_10 x1 x2 x3 x4 x5 r_all r_tried → va_P (dC, dI) vwCl (vX11_costs cI cZ h h_all h_has h_line h_act h_pile h_comes h_leaves h_tried h_met f_size f_next f_where f_token f_number f_sign f_word f_wrong f_open f_lines f_acts r_all r_tried) H → va_D A (vX11_costs cI cZ h h_all h_has h_line h_act h_pile h_comes h_leaves h_tried h_met f_size f_next f_where f_token f_number f_sign f_word f_wrong f_open f_lines f_acts r_all r_tried) → va_S A s.heap H locs → lv_has ls 10 [(0, .ref h), (1, .int x1), (2, .int x2), (3, .int x3), (4, .int x4), (5, .int x5)] → W p l e rmX11_costs s m args below meth c H locs 0 0 (MQ below (qX11_costs dC dI cI cZ cO cW h h_all h_has h_line h_act h_pile h_comes h_leaves h_tried h_met f_size f_next f_where f_token f_number f_sign f_word f_wrong f_open f_lines f_acts r_all r_tried Q A) args s 0 0 A) (F0 m 10 ls [])) :
    ∀ (x1 : Int32) (x2 : Int32) (x3 : Int32) (x4 : Int32) (x5 : Int32) (x6 : Int32) (x7 : Int32) (s0 : Int32) (r_all : (Nat → Int32)) (r_tried : (Nat → Int32)) (H : Heap) (locs : List Loc) (ls : Array Slot), wX11_costs_63 Q K_10 x1 x2 x3 x4 x5 x6 x7 s0 r_all r_tried → va_P (dC, dI) vwCl (vX11_costs cI cZ h h_all h_has h_line h_act h_pile h_comes h_leaves h_tried h_met f_size f_next f_where f_token f_number f_sign f_word f_wrong f_open f_lines f_acts r_all r_tried) H → va_D A (vX11_costs cI cZ h h_all h_has h_line h_act h_pile h_comes h_leaves h_tried h_met f_size f_next f_where f_token f_number f_sign f_word f_wrong f_open f_lines f_acts r_all r_tried) → va_S A s.heap H locs → lv_has ls 10 [(0, .ref h), (1, .int x1), (2, .int x2), (3, .int x3), (4, .int x4), (5, .int x5), (6, .int x6), (7, .int x7)] → W p l e rmX11_costs s m args below meth c H locs 0 0 (MQ below (qX11_costs dC dI cI cZ cO cW h h_all h_has h_line h_act h_pile h_comes h_leaves h_tried h_met f_size f_next f_where f_token f_number f_sign f_word f_wrong f_open f_lines f_acts r_all r_tried Q A) args s 0 0 A) (F0 m 63 ls [.int s0]) := by
  obtain ⟨hx, hb, hr, hml, hown, hts, hlocks⟩ := id hC
  intro x1 x2 x3 x4 x5 x6 x7 s0 r_all r_tried H locs ls hw hP hD hS hl
  refine lv_istore (lv' := [(8, .int s0), (0, .ref h), (1, .int x1), (2, .int x2), (3, .int x3), (4, .int x4), (5, .int x5), (6, .int x6), (7, .int x7)]) hx hb dX11_costs_63 hl (by decide) rfl (fun ls hl => ?_)
  refine lv_iload hx hb dX11_costs_65 (lv_at hl 0 rfl) ?_
  refine lv_aload_n hx hb dX11_costs_67 rfl (lv_at hl 1 rfl) ?_
  refine va_get (D := (dC, dI)) (ci := 10) (v := .ref h_all) (C := RX11) (T := TX11) (N := 20) hx hb hts gu_X11 hown hK hP 0 rfl rfl 0 (by decide) (hts _ gw_607) (fun _ h9 => h9) rfl dX11_costs_68 ?_
  refine lv_iload hx hb dX11_costs_71 (lv_at hl 7 rfl) ?_
  obtain ⟨h_6, hw⟩ := hw
  refine va_iald hx hb hK hP 1 0 rfl rfl h_6 dX11_costs_73 ?_
  refine lv_icmp_le (tgt := 82) hx hb dX11_costs_74 (by decide) (fun c_7 => ?_) (fun c_7 => ?_)
  · have hw := hw.1 c_7
    refine lv_aload_n hx hb dX11_costs_82 rfl (lv_at hl 1 rfl) ?_
    refine va_get (D := (dC, dI)) (ci := 10) (v := .ref h_all) (C := RX11) (T := TX11) (N := 20) hx hb hts gu_X11 hown hK hP 0 rfl rfl 0 (by decide) (hts _ gw_607) (fun _ h9 => h9) rfl dX11_costs_83 ?_
    refine lv_iload hx hb dX11_costs_86 (lv_at hl 7 rfl) ?_
    obtain ⟨h_8, hw⟩ := hw
    refine va_iald hx hb hK hP 1 0 rfl rfl h_8 dX11_costs_88 ?_
    exact tX11_costs_89 hC hK hA hk_10 x1 x2 x3 x4 x5 x6 x7 (r_all x6.toNatClampNeg) r_all r_tried _ _ ls hw (hP.sub [0, 1, 2] rfl) (hD.sub [0, 1, 2] (by decide) rfl) hS (lv_sub hl [1, 2, 3, 4, 5, 6, 7, 8] rfl)
  · have hw := hw.2 c_7
    refine lv_iload hx hb dX11_costs_77 (lv_at hl 0 rfl) ?_
    refine lv_goto (tgt := 89) hx hb dX11_costs_79 (by decide) ?_
    exact tX11_costs_89 hC hK hA hk_10 x1 x2 x3 x4 x5 x6 x7 s0 r_all r_tried _ _ ls hw (hP.sub [0, 1, 2] rfl) (hD.sub [0, 1, 2] (by decide) rfl) hS (lv_sub hl [1, 2, 3, 4, 5, 6, 7, 8] rfl)
set_option maxHeartbeats 4000000 in
set_option maxRecDepth 100000 in
theorem tX11_costs_51 {p : Program} {l : Launch} {e : Env} {s : State} {m : MethodId} {args : Array Value} {below : List Frame} {meth : Method} {c : Code} {dC : Nat → ClassId} {dI : Nat → Nat → Nat} {cI cZ cO cW : ClassId} {A : Nat → Prop} {h h_all h_has h_line h_act h_pile h_comes h_leaves h_tried h_met : Nat} {f_size f_next f_where f_token f_number f_sign f_word f_wrong f_open f_lines f_acts : Int32} {Q : Int32 → Prop} {K_10 : Int32 → Int32 → Int32 → Int32 → Int32 → (Nat → Int32) → (Nat → Int32) → Prop} (hC : Cx p s m args meth c cX11_costs (some .int) 10 GW RX11) (hK : va_K (dC, dI) vwCl (tysA cI cZ cO cW) s) (hA : ∀ q : Nat, s.heap.size ≤ q → A q) (hk_10 : ∀ (x1 : Int32) (x2 : Int32) (x3 : Int32) (x4 : Int32) (x5 : Int32) (r_all : (Nat → Int32)) (r_tried : (Nat → Int32)) (H : Heap) (locs : List Loc) (ls : Array Slot), K_10 x1 x2 x3 x4 x5 r_all r_tried → va_P (dC, dI) vwCl (vX11_costs cI cZ h h_all h_has h_line h_act h_pile h_comes h_leaves h_tried h_met f_size f_next f_where f_token f_number f_sign f_word f_wrong f_open f_lines f_acts r_all r_tried) H → va_D A (vX11_costs cI cZ h h_all h_has h_line h_act h_pile h_comes h_leaves h_tried h_met f_size f_next f_where f_token f_number f_sign f_word f_wrong f_open f_lines f_acts r_all r_tried) → va_S A s.heap H locs → lv_has ls 10 [(0, .ref h), (1, .int x1), (2, .int x2), (3, .int x3), (4, .int x4), (5, .int x5)] → W p l e rmX11_costs s m args below meth c H locs 0 0 (MQ below (qX11_costs dC dI cI cZ cO cW h h_all h_has h_line h_act h_pile h_comes h_leaves h_tried h_met f_size f_next f_where f_token f_number f_sign f_word f_wrong f_open f_lines f_acts r_all r_tried Q A) args s 0 0 A) (F0 m 10 ls [])) :
    ∀ (x1 : Int32) (x2 : Int32) (x3 : Int32) (x4 : Int32) (x5 : Int32) (x6 : Int32) (s0 : Int32) (r_all : (Nat → Int32)) (r_tried : (Nat → Int32)) (H : Heap) (locs : List Loc) (ls : Array Slot), wX11_costs_51 Q K_10 x1 x2 x3 x4 x5 x6 s0 r_all r_tried → va_P (dC, dI) vwCl (vX11_costs cI cZ h h_all h_has h_line h_act h_pile h_comes h_leaves h_tried h_met f_size f_next f_where f_token f_number f_sign f_word f_wrong f_open f_lines f_acts r_all r_tried) H → va_D A (vX11_costs cI cZ h h_all h_has h_line h_act h_pile h_comes h_leaves h_tried h_met f_size f_next f_where f_token f_number f_sign f_word f_wrong f_open f_lines f_acts r_all r_tried) → va_S A s.heap H locs → lv_has ls 10 [(0, .ref h), (1, .int x1), (2, .int x2), (3, .int x3), (4, .int x4), (5, .int x5), (6, .int x6)] → W p l e rmX11_costs s m args below meth c H locs 0 0 (MQ below (qX11_costs dC dI cI cZ cO cW h h_all h_has h_line h_act h_pile h_comes h_leaves h_tried h_met f_size f_next f_where f_token f_number f_sign f_word f_wrong f_open f_lines f_acts r_all r_tried Q A) args s 0 0 A) (F0 m 51 ls [.int s0]) := by
  obtain ⟨hx, hb, hr, hml, hown, hts, hlocks⟩ := id hC
  intro x1 x2 x3 x4 x5 x6 s0 r_all r_tried H locs ls hw hP hD hS hl
  refine lv_istore (lv' := [(7, .int s0), (0, .ref h), (1, .int x1), (2, .int x2), (3, .int x3), (4, .int x4), (5, .int x5), (6, .int x6)]) hx hb dX11_costs_51 hl (by decide) rfl (fun ls hl => ?_)
  refine lv_iload hx hb dX11_costs_53 (lv_at hl 0 rfl) ?_
  refine lv_if_eq (tgt := 62) hx hb dX11_costs_55 (by decide) (fun c_9 => ?_) (fun c_9 => ?_)
  · have hw := hw.1 c_9
    refine lv_iload_n hx hb dX11_costs_62 rfl (lv_at hl 3 rfl) ?_
    exact tX11_costs_63 hC hK hA hk_10 x1 x2 x3 x4 x5 x6 s0 x2 r_all r_tried _ _ ls hw (hP.sub [0, 1, 2] rfl) (hD.sub [0, 1, 2] (by decide) rfl) hS (lv_sub hl [1, 2, 3, 4, 5, 6, 7, 0] rfl)
  · have hw := hw.2 c_9
    refine lv_iload_n hx hb dX11_costs_58 rfl (lv_at hl 4 rfl) ?_
    refine lv_goto (tgt := 63) hx hb dX11_costs_59 (by decide) ?_
    exact tX11_costs_63 hC hK hA hk_10 x1 x2 x3 x4 x5 x6 s0 x3 r_all r_tried _ _ ls hw (hP.sub [0, 1, 2] rfl) (hD.sub [0, 1, 2] (by decide) rfl) hS (lv_sub hl [1, 2, 3, 4, 5, 6, 7, 0] rfl)
set_option maxHeartbeats 4000000 in
set_option maxRecDepth 100000 in
theorem tX11_costs_50 {p : Program} {l : Launch} {e : Env} {s : State} {m : MethodId} {args : Array Value} {below : List Frame} {meth : Method} {c : Code} {dC : Nat → ClassId} {dI : Nat → Nat → Nat} {cI cZ cO cW : ClassId} {A : Nat → Prop} {h h_all h_has h_line h_act h_pile h_comes h_leaves h_tried h_met : Nat} {f_size f_next f_where f_token f_number f_sign f_word f_wrong f_open f_lines f_acts : Int32} {Q : Int32 → Prop} {K_10 : Int32 → Int32 → Int32 → Int32 → Int32 → (Nat → Int32) → (Nat → Int32) → Prop} (hC : Cx p s m args meth c cX11_costs (some .int) 10 GW RX11) (hK : va_K (dC, dI) vwCl (tysA cI cZ cO cW) s) (hA : ∀ q : Nat, s.heap.size ≤ q → A q) (hk_10 : ∀ (x1 : Int32) (x2 : Int32) (x3 : Int32) (x4 : Int32) (x5 : Int32) (r_all : (Nat → Int32)) (r_tried : (Nat → Int32)) (H : Heap) (locs : List Loc) (ls : Array Slot), K_10 x1 x2 x3 x4 x5 r_all r_tried → va_P (dC, dI) vwCl (vX11_costs cI cZ h h_all h_has h_line h_act h_pile h_comes h_leaves h_tried h_met f_size f_next f_where f_token f_number f_sign f_word f_wrong f_open f_lines f_acts r_all r_tried) H → va_D A (vX11_costs cI cZ h h_all h_has h_line h_act h_pile h_comes h_leaves h_tried h_met f_size f_next f_where f_token f_number f_sign f_word f_wrong f_open f_lines f_acts r_all r_tried) → va_S A s.heap H locs → lv_has ls 10 [(0, .ref h), (1, .int x1), (2, .int x2), (3, .int x3), (4, .int x4), (5, .int x5)] → W p l e rmX11_costs s m args below meth c H locs 0 0 (MQ below (qX11_costs dC dI cI cZ cO cW h h_all h_has h_line h_act h_pile h_comes h_leaves h_tried h_met f_size f_next f_where f_token f_number f_sign f_word f_wrong f_open f_lines f_acts r_all r_tried Q A) args s 0 0 A) (F0 m 10 ls [])) :
    ∀ (x1 : Int32) (x2 : Int32) (x3 : Int32) (x4 : Int32) (x5 : Int32) (x6 : Int32) (r_all : (Nat → Int32)) (r_tried : (Nat → Int32)) (H : Heap) (locs : List Loc) (ls : Array Slot), wX11_costs_50 Q K_10 x1 x2 x3 x4 x5 x6 r_all r_tried → va_P (dC, dI) vwCl (vX11_costs cI cZ h h_all h_has h_line h_act h_pile h_comes h_leaves h_tried h_met f_size f_next f_where f_token f_number f_sign f_word f_wrong f_open f_lines f_acts r_all r_tried) H → va_D A (vX11_costs cI cZ h h_all h_has h_line h_act h_pile h_comes h_leaves h_tried h_met f_size f_next f_where f_token f_number f_sign f_word f_wrong f_open f_lines f_acts r_all r_tried) → va_S A s.heap H locs → lv_has ls 10 [(0, .ref h), (1, .int x1), (2, .int x2), (3, .int x3), (4, .int x4), (5, .int x5), (6, .int x6)] → W p l e rmX11_costs s m args below meth c H locs 0 0 (MQ below (qX11_costs dC dI cI cZ cO cW h h_all h_has h_line h_act h_pile h_comes h_leaves h_tried h_met f_size f_next f_where f_token f_number f_sign f_word f_wrong f_open f_lines f_acts r_all r_tried Q A) args s 0 0 A) (F0 m 50 ls []) := by
  obtain ⟨hx, hb, hr, hml, hown, hts, hlocks⟩ := id hC
  intro x1 x2 x3 x4 x5 x6 r_all r_tried H locs ls hw hP hD hS hl
  refine lv_iconst (v := (0 : Int32)) hx hb dX11_costs_50 (by decide) ?_
  exact tX11_costs_51 hC hK hA hk_10 x1 x2 x3 x4 x5 x6 (0 : Int32) r_all r_tried _ _ ls hw (hP.sub [0, 1, 2] rfl) (hD.sub [0, 1, 2] (by decide) rfl) hS (lv_sub hl [0, 1, 2, 3, 4, 5, 6] rfl)
set_option maxHeartbeats 4000000 in
set_option maxRecDepth 100000 in
theorem tX11_costs_10 {p : Program} {l : Launch} {e : Env} {s : State} {m : MethodId} {args : Array Value} {below : List Frame} {meth : Method} {c : Code} {dC : Nat → ClassId} {dI : Nat → Nat → Nat} {cI cZ cO cW : ClassId} {A : Nat → Prop} {h h_all h_has h_line h_act h_pile h_comes h_leaves h_tried h_met : Nat} {f_size f_next f_where f_token f_number f_sign f_word f_wrong f_open f_lines f_acts : Int32} {Q : Int32 → Prop}  (hC : Cx p s m args meth c cX11_costs (some .int) 10 GW RX11) (hK : va_K (dC, dI) vwCl (tysA cI cZ cO cW) s) (hA : ∀ q : Nat, s.heap.size ≤ q → A q) :
    ∀ (n : Nat) (x1 : Int32) (x2 : Int32) (x3 : Int32) (x4 : Int32) (x5 : Int32) (r_all : (Nat → Int32)) (r_tried : (Nat → Int32)) (H : Heap) (locs : List Loc) (ls : Array Slot), wX11_costs_10 Q  n x1 x2 x3 x4 x5 r_all r_tried → va_P (dC, dI) vwCl (vX11_costs cI cZ h h_all h_has h_line h_act h_pile h_comes h_leaves h_tried h_met f_size f_next f_where f_token f_number f_sign f_word f_wrong f_open f_lines f_acts r_all r_tried) H → va_D A (vX11_costs cI cZ h h_all h_has h_line h_act h_pile h_comes h_leaves h_tried h_met f_size f_next f_where f_token f_number f_sign f_word f_wrong f_open f_lines f_acts r_all r_tried) → va_S A s.heap H locs → lv_has ls 10 [(0, .ref h), (1, .int x1), (2, .int x2), (3, .int x3), (4, .int x4), (5, .int x5)] → W p l e rmX11_costs s m args below meth c H locs 0 0 (MQ below (qX11_costs dC dI cI cZ cO cW h h_all h_has h_line h_act h_pile h_comes h_leaves h_tried h_met f_size f_next f_where f_token f_number f_sign f_word f_wrong f_open f_lines f_acts r_all r_tried Q A) args s 0 0 A) (F0 m 10 ls []) := by
  obtain ⟨hx, hb, hr, hml, hown, hts, hlocks⟩ := id hC
  intro n
  induction n with
  | zero =>
    intro  x1 x2 x3 x4 x5 r_all r_tried H locs ls hw
    exact hw.elim
  | succ n ih =>
    intro  x1 x2 x3 x4 x5 r_all r_tried H locs ls hw hP hD hS hl
    refine lv_iload hx hb dX11_costs_10 (lv_at hl 5 rfl) ?_
    refine lv_aload_n hx hb dX11_costs_12 rfl (lv_at hl 0 rfl) ?_
    refine va_get (D := (dC, dI)) (ci := 10) (v := .ref h_all) (C := RX11) (T := TX11) (N := 20) hx hb hts gu_X11 hown hK hP 0 rfl rfl 0 (by decide) (hts _ gw_607) (fun _ h9 => h9) rfl dX11_costs_13 ?_
    refine lv_bipush (v := (7 : Int32)) hx hb dX11_costs_16 (by decide) ?_
    obtain ⟨h_10, hw⟩ := hw
    refine va_iald hx hb hK hP 1 0 rfl rfl h_10 dX11_costs_18 ?_
    refine lv_icmp_ge (tgt := 156) hx hb dX11_costs_19 (by decide) (fun c_11 => ?_) (fun c_11 => ?_)
    · have hw := hw.1 c_11
      refine lv_iload hx hb dX11_costs_156 (lv_at hl 4 rfl) ?_
      have hP9 := hP.sub (ws' := (vX11_costs cI cZ h h_all h_has h_line h_act h_pile h_comes h_leaves h_tried h_met f_size f_next f_where f_token f_number f_sign f_word f_wrong f_open f_lines f_acts r_all r_tried)) [0, 1, 2] rfl
      have hD9 := hD.sub (ws' := (vX11_costs cI cZ h h_all h_has h_line h_act h_pile h_comes h_leaves h_tried h_met f_size f_next f_where f_token f_number f_sign f_word f_wrong f_open f_lines f_acts r_all r_tried)) [0, 1, 2] (by decide) rfl
      exact W.iret (v := x4) hx hb hr (fun t ht hW => ⟨⟨x4, (), rfl, hw, by rw [ht]; exact hP9, va_K.moved hW.alike hK, hD9⟩, hS.F ht⟩) hS.2.2 dX11_costs_158
    · have hw := hw.2 c_11
      refine lv_bipush (v := (20 : Int32)) hx hb dX11_costs_22 (by decide) ?_
      refine lv_iconst (v := (3 : Int32)) hx hb dX11_costs_24 (by decide) ?_
      refine lv_aload_n hx hb dX11_costs_25 rfl (lv_at hl 0 rfl) ?_
      refine va_get (D := (dC, dI)) (ci := 10) (v := .ref h_tried) (C := RX11) (T := TX11) (N := 20) hx hb hts gu_X11 hown hK hP 0 rfl rfl 18 (by decide) (hts _ gw_617) (fun _ h9 => h9) rfl dX11_costs_26 ?_
      refine lv_iload hx hb dX11_costs_29 (lv_at hl 5 rfl) ?_
      obtain ⟨h_12, hw⟩ := hw
      refine va_iald hx hb hK hP 2 0 rfl rfl h_12 dX11_costs_31 ?_
      refine lv_imul hx hb dX11_costs_32 ?_
      refine lv_iadd hx hb dX11_costs_33 ?_
      refine lv_istore (lv' := [(6, .int ((20 : Int32) + ((3 : Int32) * (r_tried x5.toNatClampNeg)))), (0, .ref h), (1, .int x1), (2, .int x2), (3, .int x3), (4, .int x4), (5, .int x5)]) hx hb dX11_costs_34 hl (by decide) rfl (fun ls hl => ?_)
      refine lv_iload_n hx hb dX11_costs_36 rfl (lv_at hl 2 rfl) ?_
      refine lv_iconst (v := (2 : Int32)) hx hb dX11_costs_37 (by decide) ?_
      refine lv_icmp_ne (tgt := 50) hx hb dX11_costs_38 (by decide) (fun c_13 => ?_) (fun c_13 => ?_)
      · have hw := hw.1 c_13
        exact tX11_costs_50 hC hK hA ih x1 x2 x3 x4 x5 ((20 : Int32) + ((3 : Int32) * (r_tried x5.toNatClampNeg))) r_all r_tried _ _ ls hw (hP.sub [0, 1, 2] rfl) (hD.sub [0, 1, 2] (by decide) rfl) hS (lv_sub hl [1, 2, 3, 4, 5, 6, 0] rfl)
      · have hw := hw.2 c_13
        refine lv_iload_n hx hb dX11_costs_41 rfl (lv_at hl 4 rfl) ?_
        refine lv_iload_n hx hb dX11_costs_42 rfl (lv_at hl 3 rfl) ?_
        refine lv_icmp_ge (tgt := 50) hx hb dX11_costs_43 (by decide) (fun c_14 => ?_) (fun c_14 => ?_)
        · have hw := hw.1 c_14
          exact tX11_costs_50 hC hK hA ih x1 x2 x3 x4 x5 ((20 : Int32) + ((3 : Int32) * (r_tried x5.toNatClampNeg))) r_all r_tried _ _ ls hw (hP.sub [0, 1, 2] rfl) (hD.sub [0, 1, 2] (by decide) rfl) hS (lv_sub hl [1, 2, 3, 4, 5, 6, 0] rfl)
        · have hw := hw.2 c_14
          refine lv_iconst (v := (1 : Int32)) hx hb dX11_costs_46 (by decide) ?_
          refine lv_goto (tgt := 51) hx hb dX11_costs_47 (by decide) ?_
          exact tX11_costs_51 hC hK hA ih x1 x2 x3 x4 x5 ((20 : Int32) + ((3 : Int32) * (r_tried x5.toNatClampNeg))) (1 : Int32) r_all r_tried _ _ ls hw (hP.sub [0, 1, 2] rfl) (hD.sub [0, 1, 2] (by decide) rfl) hS (lv_sub hl [1, 2, 3, 4, 5, 6, 0] rfl)
set_option maxHeartbeats 4000000 in
set_option maxRecDepth 100000 in
theorem tX11_costs_e {p : Program} {l : Launch} {e : Env} {s : State} {m : MethodId} {args : Array Value} {below : List Frame} {meth : Method} {c : Code} {dC : Nat → ClassId} {dI : Nat → Nat → Nat} {cI cZ cO cW : ClassId} {A : Nat → Prop} {h h_all h_has h_line h_act h_pile h_comes h_leaves h_tried h_met : Nat} {f_size f_next f_where f_token f_number f_sign f_word f_wrong f_open f_lines f_acts : Int32} {Q : Int32 → Prop} (hC : Cx p s m args meth c cX11_costs (some .int) 10 GW RX11) (hK : va_K (dC, dI) vwCl (tysA cI cZ cO cW) s) (hA : ∀ q : Nat, s.heap.size ≤ q → A q) :
    ∀ (x1 : Int32) (r_all : Nat → Int32) (r_tried : Nat → Int32) (H : Heap) (locs : List Loc) (ls : Array Slot), wX11_costs Q x1 r_all r_tried → va_P (dC, dI) vwCl (vX11_costs cI cZ h h_all h_has h_line h_act h_pile h_comes h_leaves h_tried h_met f_size f_next f_where f_token f_number f_sign f_word f_wrong f_open f_lines f_acts r_all r_tried) H → va_D A (vX11_costs cI cZ h h_all h_has h_line h_act h_pile h_comes h_leaves h_tried h_met f_size f_next f_where f_token f_number f_sign f_word f_wrong f_open f_lines f_acts r_all r_tried) → va_S A s.heap H locs → lv_has ls 10 [(0, .ref h), (1, .int x1)] → W p l e rmX11_costs s m args below meth c H locs 0 0 (MQ below (qX11_costs dC dI cI cZ cO cW h h_all h_has h_line h_act h_pile h_comes h_leaves h_tried h_met f_size f_next f_where f_token f_number f_sign f_word f_wrong f_open f_lines f_acts r_all r_tried Q A) args s 0 0 A) (F0 m 0 ls []) := by
  obtain ⟨hx, hb, hr, hml, hown, hts, hlocks⟩ := id hC
  intro x1 r_all r_tried H locs ls hw hP hD hS hl
  refine lv_iconst (v := (0 : Int32)) hx hb dX11_costs_0 (by decide) ?_
  refine lv_istore_n (lv' := [(2, .int (0 : Int32)), (0, .ref h), (1, .int x1)]) hx hb dX11_costs_1 rfl hl (by decide) rfl (fun ls hl => ?_)
  refine lv_iconst (v := (0 : Int32)) hx hb dX11_costs_2 (by decide) ?_
  refine lv_istore_n (lv' := [(3, .int (0 : Int32)), (2, .int (0 : Int32)), (0, .ref h), (1, .int x1)]) hx hb dX11_costs_3 rfl hl (by decide) rfl (fun ls hl => ?_)
  refine lv_iconst (v := (0 : Int32)) hx hb dX11_costs_4 (by decide) ?_
  refine lv_istore (lv' := [(4, .int (0 : Int32)), (3, .int (0 : Int32)), (2, .int (0 : Int32)), (0, .ref h), (1, .int x1)]) hx hb dX11_costs_5 hl (by decide) rfl (fun ls hl => ?_)
  refine lv_iconst (v := (0 : Int32)) hx hb dX11_costs_7 (by decide) ?_
  refine lv_istore (lv' := [(5, .int (0 : Int32)), (4, .int (0 : Int32)), (3, .int (0 : Int32)), (2, .int (0 : Int32)), (0, .ref h), (1, .int x1)]) hx hb dX11_costs_8 hl (by decide) rfl (fun ls hl => ?_)
  obtain ⟨n_15, hw⟩ := hw
  exact tX11_costs_10 hC hK hA  n_15 x1 (0 : Int32) (0 : Int32) (0 : Int32) (0 : Int32) r_all r_tried _ _ ls hw (hP.sub [0, 1, 2] rfl) (hD.sub [0, 1, 2] (by decide) rfl) hS (lv_sub hl [4, 5, 3, 2, 1, 0] rfl)
set_option maxHeartbeats 4000000 in
set_option maxRecDepth 100000 in
theorem kX11_costs (l : Launch) (dC : Nat → ClassId) (dI : Nat → Nat → Nat) (cI cZ cO cW : ClassId) (h h_all h_has h_line h_act h_pile h_comes h_leaves h_tried h_met : Nat)  (sz : Nat) (f_size : Int32) (f_next : Int32) (f_where : Int32) (f_token : Int32) (f_number : Int32) (f_sign : Int32) (f_word : Int32) (f_wrong : Int32) (f_open : Int32) (f_lines : Int32) (f_acts : Int32) (r_all : Nat → Int32) (r_tried : Nat → Int32) (x1 : Int32) (Q : Int32 → Prop) (hw : wX11_costs Q x1 r_all r_tried) : Met l yX11_costs zsX11_costs rmX11_costs (va_Pc [.ref h, .int x1] (fun U => U.heap.size = sz ∧ va_P (dC, dI) vwCl (vX11_costs cI cZ h h_all h_has h_line h_act h_pile h_comes h_leaves h_tried h_met f_size f_next f_where f_token f_number f_sign f_word f_wrong f_open f_lines f_acts r_all r_tried) U.heap ∧ va_K (dC, dI) vwCl (tysA cI cZ cO cW) U ∧ va_D (fun _ => True) (vX11_costs cI cZ h h_all h_has h_line h_act h_pile h_comes h_leaves h_tried h_met f_size f_next f_where f_token f_number f_sign f_word f_wrong f_open f_lines f_acts r_all r_tried))) (qX11_costs dC dI cI cZ cO cW h h_all h_has h_line h_act h_pile h_comes h_leaves h_tried h_met f_size f_next f_where f_token f_number f_sign f_word f_wrong f_open f_lines f_acts r_all r_tried Q (va_A (vX11_costs cI cZ h h_all h_has h_line h_act h_pile h_comes h_leaves h_tried h_met f_size f_next f_where f_token f_number f_sign f_word f_wrong f_open f_lines f_acts r_all r_tried) sz)) 0 0 (va_A (vX11_costs cI cZ h h_all h_has h_line h_act h_pile h_comes h_leaves h_tried h_met f_size f_next f_where f_token f_number f_sign f_word f_wrong f_open f_lines f_acts r_all r_tried) sz) := by
  refine Met.ofW (cc := cX11_costs) (maxL := 10) (ret := (some .int)) (by decide) rfl ?_
  intro p e s m args below meth c s₁ B hml hv
  obtain ⟨rfl, hsz, hP, hK, hD0⟩ := hv
  subst hsz
  have hC : Cx p s m ([.ref h, .int x1] : List Value).toArray meth c cX11_costs (some .int) 10 GW RX11 := ⟨B.exec, B.bytes, B.returns, hml, findClass_of_methodNamed B.named, fun w h => atoms_spec (ws := zsX11_costs) B.pre w (List.mem_cons_of_mem _ h), B.notSynchronized⟩
  have hD := hD0.self (sz := s.heap.size)
  generalize hAe : va_A (vX11_costs cI cZ h h_all h_has h_line h_act h_pile h_comes h_leaves h_tried h_met f_size f_next f_where f_token f_number f_sign f_word f_wrong f_open f_lines f_acts r_all r_tried) s.heap.size = A at hD ⊢
  have hA : ∀ q : Nat, s.heap.size ≤ q → A q := fun q h => by rw [← hAe]; exact Or.inr h
  have hl := lv_entry ([.ref h, .int x1]) (n := 10) (Nat.le_of_ble_eq_true rfl)
  rw [lg_entry_eq]
  generalize (lg_sl ([.ref h, .int x1]) ++ List.replicate (10 - (lg_sl ([.ref h, .int x1])).length) Slot.unset).toArray = ls at hl ⊢
  exact tX11_costs_e hC hK hA x1 r_all r_tried _ _ ls hw hP hD va_S.rf hl

/-! X11_turns -/
def wX11_turns_157 (Q : Int32 → (Nat → Int32) → (Nat → Int32) → (Nat → Int32) → Prop) (K_46 : Int32 → Int32 → Int32 → Int32 → Int32 → (Nat → Int32) → (Nat → Int32) → (Nat → Int32) → Prop)  (x1 : Int32) (x2 : Int32) (x3 : Int32) (x4 : Int32) (x5 : Int32) (r_all : (Nat → Int32)) (r_met : (Nat → Int32)) (r_tried : (Nat → Int32)) : Prop :=
  (K_46 x1 x2 x3 x4 (x5 + (1 : Int32)) r_all r_met r_tried)
def wX11_turns_128 (Q : Int32 → (Nat → Int32) → (Nat → Int32) → (Nat → Int32) → Prop) (K_46 : Int32 → Int32 → Int32 → Int32 → Int32 → (Nat → Int32) → (Nat → Int32) → (Nat → Int32) → Prop)  : Nat → Int32 → Int32 → Int32 → Int32 → Int32 → Int32 → (Nat → Int32) → (Nat → Int32) → (Nat → Int32) → Prop
  | 0, _, _, _, _, _, _, _, _, _ => False
  | n + 1, x1, x2, x3, x4, x5, x8, r_all, r_met, r_tried => ((x2 ≤ x8 → (wX11_turns_157 Q K_46 x1 x2 x3 x4 x5 r_all r_met r_tried)) ∧ (¬ x2 ≤ x8 → (vp_in x8 6 ∧ (vp_in ((12 : Int32) + x8) 53700 ∧ (wX11_turns_128 Q K_46 n x1 x2 x3 x4 x5 (x8 + (1 : Int32)) (upd r_all ((12 : Int32) + x8).toNatClampNeg (r_tried x8.toNatClampNeg)) r_met r_tried)))))
def wX11_turns_121 (Q : Int32 → (Nat → Int32) → (Nat → Int32) → (Nat → Int32) → Prop) (K_46 : Int32 → Int32 → Int32 → Int32 → Int32 → (Nat → Int32) → (Nat → Int32) → (Nat → Int32) → Prop)  (x1 : Int32) (x2 : Int32) (x3 : Int32) (x5 : Int32) (x7 : Int32) (r_all : (Nat → Int32)) (r_met : (Nat → Int32)) (r_tried : (Nat → Int32)) : Prop :=
  (∃ j_, wX11_turns_128 Q K_46 j_ x1 x2 x3 x7 x5 (0 : Int32) r_all r_met r_tried)
def wX11_turns_61 (Q : Int32 → (Nat → Int32) → (Nat → Int32) → (Nat → Int32) → Prop) (K_46 : Int32 → Int32 → Int32 → Int32 → Int32 → (Nat → Int32) → (Nat → Int32) → (Nat → Int32) → Prop)  : Nat → Int32 → Int32 → Int32 → Int32 → Int32 → Int32 → Int32 → (Nat → Int32) → (Nat → Int32) → (Nat → Int32) → Prop
  | 0, _, _, _, _, _, _, _, _, _, _ => False
  | n + 1, x1, x2, x3, x4, x5, x6, x7, r_all, r_met, r_tried => ((x7 < 0 → (wX11_isOrder (fun r_7 r_met_6 => ((¬ r_7 = 0 → (wX11_costs (fun r_9 => ((x4 < 0 → (wX11_turns_121 Q K_46 x1 x2 x3 x5 r_9 r_all r_met_6 r_tried)) ∧ (¬ x4 < 0 → ((r_9 < x4 → (wX11_turns_121 Q K_46 x1 x2 x3 x5 r_9 r_all r_met_6 r_tried)) ∧ (¬ r_9 < x4 → (wX11_turns_157 Q K_46 x1 x2 x3 x4 x5 r_all r_met_6 r_tried)))))) x1 r_all r_tried)) ∧ (r_7 = 0 → (wX11_turns_157 Q K_46 x1 x2 x3 x4 x5 r_all r_met_6 r_tried)))) r_all r_met r_tried)) ∧ (¬ x7 < 0 → (¬ x2 = 0 ∧ (vp_in x7 6 ∧ (¬ x2 = 0 ∧ (wX11_turns_61 Q K_46 n x1 x2 x3 x4 x5 (x6 / x2) (x7 + (-1 : Int32)) r_all r_met (upd r_tried x7.toNatClampNeg (x6 - x6 / x2 * x2))))))))
def wX11_turns_46 (Q : Int32 → (Nat → Int32) → (Nat → Int32) → (Nat → Int32) → Prop)   : Nat → Int32 → Int32 → Int32 → Int32 → Int32 → (Nat → Int32) → (Nat → Int32) → (Nat → Int32) → Prop
  | 0, _, _, _, _, _, _, _, _ => False
  | n + 1, x1, x2, x3, x4, x5, r_all, r_met, r_tried => ((x3 ≤ x5 → (vp_in (8 : Int32) 53700 ∧ (Q x4 (upd r_all (8 : Int32).toNatClampNeg x2) r_met r_tried))) ∧ (¬ x3 ≤ x5 → (∃ j_, wX11_turns_61 Q (wX11_turns_46 Q n) j_ x1 x2 x3 x4 x5 x5 (x2 - (1 : Int32)) r_all r_met r_tried)))
def wX11_turns_24 (Q : Int32 → (Nat → Int32) → (Nat → Int32) → (Nat → Int32) → Prop)   : Nat → Int32 → Int32 → Int32 → Int32 → (Nat → Int32) → (Nat → Int32) → (Nat → Int32) → Prop
  | 0, _, _, _, _, _, _, _ => False
  | n + 1, x1, x2, x3, x4, r_all, r_met, r_tried => ((x2 ≤ x4 → (∃ j_, wX11_turns_46 Q j_ x1 x2 x3 (-1 : Int32) (0 : Int32) r_all r_met r_tried)) ∧ (¬ x2 ≤ x4 → (wX11_turns_24 Q n x1 x2 (x3 * x2) (x4 + (1 : Int32)) r_all r_met r_tried)))
def wX11_turns (Q : Int32 → (Nat → Int32) → (Nat → Int32) → (Nat → Int32) → Prop) (x1 : Int32) (r_all : Nat → Int32) (r_met : Nat → Int32) (r_tried : Nat → Int32) : Prop :=
  (wX11_isIn (fun r_20 => ((¬ r_20 = 0 → (vp_in (7 : Int32) 53700 ∧ (∃ j_, wX11_turns_24 Q j_ x1 (r_all (7 : Int32).toNatClampNeg) (1 : Int32) (0 : Int32) r_all r_met r_tried))) ∧ (r_20 = 0 → (Q (-1 : Int32) r_all r_met r_tried)))) x1 (1 : Int32) (2 : Int32))
abbrev vX11_turns (cI cZ : ClassId) (h h_all h_has h_line h_act h_pile h_comes h_leaves h_tried h_met : Nat) (f_size : Int32) (f_next : Int32) (f_where : Int32) (f_token : Int32) (f_number : Int32) (f_sign : Int32) (f_word : Int32) (f_wrong : Int32) (f_open : Int32) (f_lines : Int32) (f_acts : Int32) (r_all : Nat → Int32) (r_met : Nat → Int32) (r_tried : Nat → Int32) : va_W := [(h, .inr (10, [.ref h_all, .ref h_has, .int f_size, .int f_next, .int f_where, .int f_token, .int f_number, .int f_sign, .int f_word, .int f_wrong, .int f_open, .int f_lines, .int f_acts, .ref h_line, .ref h_act, .ref h_pile, .ref h_comes, .ref h_leaves, .ref h_tried, .ref h_met])), (h_all, .inl (cI, 53700, .inl r_all)), (h_met, .inl (cZ, 8, .inl r_met)), (h_tried, .inl (cI, 6, .inl r_tried))]
abbrev rmX11_turns : Room := { frames := 1, cells := 0, slots := 0, locals := 29 }
abbrev qX11_turns (dC : Nat → ClassId) (dI : Nat → Nat → Nat) (cI cZ cO cW : ClassId) (h h_all h_has h_line h_act h_pile h_comes h_leaves h_tried h_met : Nat) (f_size : Int32) (f_next : Int32) (f_where : Int32) (f_token : Int32) (f_number : Int32) (f_sign : Int32) (f_word : Int32) (f_wrong : Int32) (f_open : Int32) (f_lines : Int32) (f_acts : Int32) (Q : Int32 → (Nat → Int32) → (Nat → Int32) → (Nat → Int32) → Prop) (A : Nat → Prop) : Array Value → State → Outcome → State → Prop := va_Qi (fun (r : Int32) (u : (Nat → Int32) × (Nat → Int32) × (Nat → Int32)) => Q r u.1 u.2.1 u.2.2) (fun (u : (Nat → Int32) × (Nat → Int32) × (Nat → Int32)) (t : State) => va_P (dC, dI) vwCl (vX11_turns cI cZ h h_all h_has h_line h_act h_pile h_comes h_leaves h_tried h_met f_size f_next f_where f_token f_number f_sign f_word f_wrong f_open f_lines f_acts u.1 u.2.1 u.2.2) t.heap ∧ va_K (dC, dI) vwCl (tysA cI cZ cO cW) t ∧ va_D A (vX11_turns cI cZ h h_all h_has h_line h_act h_pile h_comes h_leaves h_tried h_met f_size f_next f_where f_token f_number f_sign f_word f_wrong f_open f_lines f_acts u.1 u.2.1 u.2.2)) A
def zsX11_turns : List Cond := Cond.code yX11_turns cX11_turns 9 (some .int) :: GW
set_option maxHeartbeats 4000000 in
set_option maxRecDepth 100000 in
theorem tX11_turns_157 {p : Program} {l : Launch} {e : Env} {s : State} {m : MethodId} {args : Array Value} {below : List Frame} {meth : Method} {c : Code} {dC : Nat → ClassId} {dI : Nat → Nat → Nat} {cI cZ cO cW : ClassId} {A : Nat → Prop} {h h_all h_has h_line h_act h_pile h_comes h_leaves h_tried h_met : Nat} {f_size f_next f_where f_token f_number f_sign f_word f_wrong f_open f_lines f_acts : Int32} {Q : Int32 → (Nat → Int32) → (Nat → Int32) → (Nat → Int32) → Prop} {K_46 : Int32 → Int32 → Int32 → Int32 → Int32 → (Nat → Int32) → (Nat → Int32) → (Nat → Int32) → Prop} (hC : Cx p s m args meth c cX11_turns (some .int) 9 GW RX11) (hK : va_K (dC, dI) vwCl (tysA cI cZ cO cW) s) (hA : ∀ q : Nat, s.heap.size ≤ q → A q) (hk_46 : ∀ (x1 : Int32) (x2 : Int32) (x3 : Int32) (x4 : Int32) (x5 : Int32) (r_all : (Nat → Int32)) (r_met : (Nat → Int32)) (r_tried : (Nat → Int32)) (H : Heap) (locs : List Loc) (ls : Array Slot), K_46 x1 x2 x3 x4 x5 r_all r_met r_tried → va_P (dC, dI) vwCl (vX11_turns cI cZ h h_all h_has h_line h_act h_pile h_comes h_leaves h_tried h_met f_size f_next f_where f_token f_number f_sign f_word f_wrong f_open f_lines f_acts r_all r_met r_tried) H → va_D A (vX11_turns cI cZ h h_all h_has h_line h_act h_pile h_comes h_leaves h_tried h_met f_size f_next f_where f_token f_number f_sign f_word f_wrong f_open f_lines f_acts r_all r_met r_tried) → va_S A s.heap H locs → lv_has ls 9 [(0, .ref h), (1, .int x1), (2, .int x2), (3, .int x3), (4, .int x4), (5, .int x5)] → W p l e rmX11_turns s m args below meth c H locs 0 0 (MQ below (qX11_turns dC dI cI cZ cO cW h h_all h_has h_line h_act h_pile h_comes h_leaves h_tried h_met f_size f_next f_where f_token f_number f_sign f_word f_wrong f_open f_lines f_acts Q A) args s 0 0 A) (F0 m 46 ls [])) :
    ∀ (x1 : Int32) (x2 : Int32) (x3 : Int32) (x4 : Int32) (x5 : Int32) (r_all : (Nat → Int32)) (r_met : (Nat → Int32)) (r_tried : (Nat → Int32)) (H : Heap) (locs : List Loc) (ls : Array Slot), wX11_turns_157 Q K_46 x1 x2 x3 x4 x5 r_all r_met r_tried → va_P (dC, dI) vwCl (vX11_turns cI cZ h h_all h_has h_line h_act h_pile h_comes h_leaves h_tried h_met f_size f_next f_where f_token f_number f_sign f_word f_wrong f_open f_lines f_acts r_all r_met r_tried) H → va_D A (vX11_turns cI cZ h h_all h_has h_line h_act h_pile h_comes h_leaves h_tried h_met f_size f_next f_where f_token f_number f_sign f_word f_wrong f_open f_lines f_acts r_all r_met r_tried) → va_S A s.heap H locs → lv_has ls 9 [(0, .ref h), (1, .int x1), (2, .int x2), (3, .int x3), (4, .int x4), (5, .int x5)] → W p l e rmX11_turns s m args below meth c H locs 0 0 (MQ below (qX11_turns dC dI cI cZ cO cW h h_all h_has h_line h_act h_pile h_comes h_leaves h_tried h_met f_size f_next f_where f_token f_number f_sign f_word f_wrong f_open f_lines f_acts Q A) args s 0 0 A) (F0 m 157 ls []) := by
  obtain ⟨hx, hb, hr, hml, hown, hts, hlocks⟩ := id hC
  intro x1 x2 x3 x4 x5 r_all r_met r_tried H locs ls hw hP hD hS hl
  refine lv_iinc (v := (x5 + (1 : Int32))) (lv' := [(5, .int (x5 + (1 : Int32))), (0, .ref h), (1, .int x1), (2, .int x2), (3, .int x3), (4, .int x4)]) hx hb dX11_turns_157 hl (k := 5) rfl rfl (by decide) rfl (fun ls hl => ?_)
  refine lv_goto (tgt := 46) hx hb dX11_turns_160 (by decide) ?_
  exact hk_46 x1 x2 x3 x4 (x5 + (1 : Int32)) r_all r_met r_tried _ _ ls hw (hP.sub [0, 1, 2, 3] rfl) (hD.sub [0, 1, 2, 3] (by decide) rfl) hS (lv_sub hl [1, 2, 3, 4, 5, 0] rfl)
set_option maxHeartbeats 4000000 in
set_option maxRecDepth 100000 in
theorem tX11_turns_128 {p : Program} {l : Launch} {e : Env} {s : State} {m : MethodId} {args : Array Value} {below : List Frame} {meth : Method} {c : Code} {dC : Nat → ClassId} {dI : Nat → Nat → Nat} {cI cZ cO cW : ClassId} {A : Nat → Prop} {h h_all h_has h_line h_act h_pile h_comes h_leaves h_tried h_met : Nat} {f_size f_next f_where f_token f_number f_sign f_word f_wrong f_open f_lines f_acts : Int32} {Q : Int32 → (Nat → Int32) → (Nat → Int32) → (Nat → Int32) → Prop} {K_46 : Int32 → Int32 → Int32 → Int32 → Int32 → (Nat → Int32) → (Nat → Int32) → (Nat → Int32) → Prop} (hC : Cx p s m args meth c cX11_turns (some .int) 9 GW RX11) (hK : va_K (dC, dI) vwCl (tysA cI cZ cO cW) s) (hA : ∀ q : Nat, s.heap.size ≤ q → A q) (hk_46 : ∀ (x1 : Int32) (x2 : Int32) (x3 : Int32) (x4 : Int32) (x5 : Int32) (r_all : (Nat → Int32)) (r_met : (Nat → Int32)) (r_tried : (Nat → Int32)) (H : Heap) (locs : List Loc) (ls : Array Slot), K_46 x1 x2 x3 x4 x5 r_all r_met r_tried → va_P (dC, dI) vwCl (vX11_turns cI cZ h h_all h_has h_line h_act h_pile h_comes h_leaves h_tried h_met f_size f_next f_where f_token f_number f_sign f_word f_wrong f_open f_lines f_acts r_all r_met r_tried) H → va_D A (vX11_turns cI cZ h h_all h_has h_line h_act h_pile h_comes h_leaves h_tried h_met f_size f_next f_where f_token f_number f_sign f_word f_wrong f_open f_lines f_acts r_all r_met r_tried) → va_S A s.heap H locs → lv_has ls 9 [(0, .ref h), (1, .int x1), (2, .int x2), (3, .int x3), (4, .int x4), (5, .int x5)] → W p l e rmX11_turns s m args below meth c H locs 0 0 (MQ below (qX11_turns dC dI cI cZ cO cW h h_all h_has h_line h_act h_pile h_comes h_leaves h_tried h_met f_size f_next f_where f_token f_number f_sign f_word f_wrong f_open f_lines f_acts Q A) args s 0 0 A) (F0 m 46 ls [])) :
    ∀ (n : Nat) (x1 : Int32) (x2 : Int32) (x3 : Int32) (x4 : Int32) (x5 : Int32) (x8 : Int32) (r_all : (Nat → Int32)) (r_met : (Nat → Int32)) (r_tried : (Nat → Int32)) (H : Heap) (locs : List Loc) (ls : Array Slot), wX11_turns_128 Q K_46 n x1 x2 x3 x4 x5 x8 r_all r_met r_tried → va_P (dC, dI) vwCl (vX11_turns cI cZ h h_all h_has h_line h_act h_pile h_comes h_leaves h_tried h_met f_size f_next f_where f_token f_number f_sign f_word f_wrong f_open f_lines f_acts r_all r_met r_tried) H → va_D A (vX11_turns cI cZ h h_all h_has h_line h_act h_pile h_comes h_leaves h_tried h_met f_size f_next f_where f_token f_number f_sign f_word f_wrong f_open f_lines f_acts r_all r_met r_tried) → va_S A s.heap H locs → lv_has ls 9 [(0, .ref h), (1, .int x1), (2, .int x2), (3, .int x3), (4, .int x4), (5, .int x5), (8, .int x8)] → W p l e rmX11_turns s m args below meth c H locs 0 0 (MQ below (qX11_turns dC dI cI cZ cO cW h h_all h_has h_line h_act h_pile h_comes h_leaves h_tried h_met f_size f_next f_where f_token f_number f_sign f_word f_wrong f_open f_lines f_acts Q A) args s 0 0 A) (F0 m 128 ls []) := by
  obtain ⟨hx, hb, hr, hml, hown, hts, hlocks⟩ := id hC
  intro n
  induction n with
  | zero =>
    intro  x1 x2 x3 x4 x5 x8 r_all r_met r_tried H locs ls hw
    exact hw.elim
  | succ n ih =>
    intro  x1 x2 x3 x4 x5 x8 r_all r_met r_tried H locs ls hw hP hD hS hl
    refine lv_iload hx hb dX11_turns_128 (lv_at hl 6 rfl) ?_
    refine lv_iload_n hx hb dX11_turns_130 rfl (lv_at hl 2 rfl) ?_
    refine lv_icmp_ge (tgt := 157) hx hb dX11_turns_131 (by decide) (fun c_1 => ?_) (fun c_1 => ?_)
    · have hw := hw.1 c_1
      exact tX11_turns_157 hC hK hA hk_46 x1 x2 x3 x4 x5 r_all r_met r_tried _ _ ls hw (hP.sub [0, 1, 2, 3] rfl) (hD.sub [0, 1, 2, 3] (by decide) rfl) hS (lv_sub hl [0, 1, 2, 3, 4, 5] rfl)
    · have hw := hw.2 c_1
      refine lv_aload_n hx hb dX11_turns_134 rfl (lv_at hl 0 rfl) ?_
      refine va_get (D := (dC, dI)) (ci := 10) (v := .ref h_all) (C := RX11) (T := TX11) (N := 20) hx hb hts gu_X11 hown hK hP 0 rfl rfl 0 (by decide) (hts _ gw_607) (fun _ h9 => h9) rfl dX11_turns_135 ?_
      refine lv_bipush (v := (12 : Int32)) hx hb dX11_turns_138 (by decide) ?_
      refine lv_iload hx hb dX11_turns_140 (lv_at hl 6 rfl) ?_
      refine lv_iadd hx hb dX11_turns_142 ?_
      refine lv_aload_n hx hb dX11_turns_143 rfl (lv_at hl 0 rfl) ?_
      refine va_get (D := (dC, dI)) (ci := 10) (v := .ref h_tried) (C := RX11) (T := TX11) (N := 20) hx hb hts gu_X11 hown hK hP 0 rfl rfl 18 (by decide) (hts _ gw_617) (fun _ h9 => h9) rfl dX11_turns_144 ?_
      refine lv_iload hx hb dX11_turns_147 (lv_at hl 6 rfl) ?_
      obtain ⟨h_2, hw⟩ := hw
      refine va_iald hx hb hK hP 3 0 rfl rfl h_2 dX11_turns_149 ?_
      obtain ⟨h_3, hw⟩ := hw
      refine va_iast hx hb hK hP hD hS 1 0 rfl rfl h_3 dX11_turns_150 (fun H locs hP hD hS => ?_)
      have hP : va_P (dC, dI) vwCl [(h, .inr (10, [.ref h_all, .ref h_has, .int f_size, .int f_next, .int f_where, .int f_token, .int f_number, .int f_sign, .int f_word, .int f_wrong, .int f_open, .int f_lines, .int f_acts, .ref h_line, .ref h_act, .ref h_pile, .ref h_comes, .ref h_leaves, .ref h_tried, .ref h_met])), (h_all, .inl (cI, 53700, .inl (upd r_all ((12 : Int32) + x8).toNatClampNeg (r_tried x8.toNatClampNeg)))), (h_met, .inl (cZ, 8, .inl r_met)), (h_tried, .inl (cI, 6, .inl r_tried))] _ := hP
      have hD : va_D A [(h, .inr (10, [.ref h_all, .ref h_has, .int f_size, .int f_next, .int f_where, .int f_token, .int f_number, .int f_sign, .int f_word, .int f_wrong, .int f_open, .int f_lines, .int f_acts, .ref h_line, .ref h_act, .ref h_pile, .ref h_comes, .ref h_leaves, .ref h_tried, .ref h_met])), (h_all, .inl (cI, 53700, .inl (upd r_all ((12 : Int32) + x8).toNatClampNeg (r_tried x8.toNatClampNeg)))), (h_met, .inl (cZ, 8, .inl r_met)), (h_tried, .inl (cI, 6, .inl r_tried))] := hD
      refine lv_iinc (v := (x8 + (1 : Int32))) (lv' := [(8, .int (x8 + (1 : Int32))), (0, .ref h), (1, .int x1), (2, .int x2), (3, .int x3), (4, .int x4), (5, .int x5)]) hx hb dX11_turns_151 hl (k := 6) rfl rfl (by decide) rfl (fun ls hl => ?_)
      refine lv_goto (tgt := 128) hx hb dX11_turns_154 (by decide) ?_
      exact ih x1 x2 x3 x4 x5 (x8 + (1 : Int32)) (upd r_all ((12 : Int32) + x8).toNatClampNeg (r_tried x8.toNatClampNeg)) r_met r_tried _ _ ls hw (hP.sub [0, 1, 2, 3] rfl) (hD.sub [0, 1, 2, 3] (by decide) rfl) hS (lv_sub hl [1, 2, 3, 4, 5, 6, 0] rfl)
set_option maxHeartbeats 4000000 in
set_option maxRecDepth 100000 in
theorem tX11_turns_121 {p : Program} {l : Launch} {e : Env} {s : State} {m : MethodId} {args : Array Value} {below : List Frame} {meth : Method} {c : Code} {dC : Nat → ClassId} {dI : Nat → Nat → Nat} {cI cZ cO cW : ClassId} {A : Nat → Prop} {h h_all h_has h_line h_act h_pile h_comes h_leaves h_tried h_met : Nat} {f_size f_next f_where f_token f_number f_sign f_word f_wrong f_open f_lines f_acts : Int32} {Q : Int32 → (Nat → Int32) → (Nat → Int32) → (Nat → Int32) → Prop} {K_46 : Int32 → Int32 → Int32 → Int32 → Int32 → (Nat → Int32) → (Nat → Int32) → (Nat → Int32) → Prop} (hC : Cx p s m args meth c cX11_turns (some .int) 9 GW RX11) (hK : va_K (dC, dI) vwCl (tysA cI cZ cO cW) s) (hA : ∀ q : Nat, s.heap.size ≤ q → A q) (hk_46 : ∀ (x1 : Int32) (x2 : Int32) (x3 : Int32) (x4 : Int32) (x5 : Int32) (r_all : (Nat → Int32)) (r_met : (Nat → Int32)) (r_tried : (Nat → Int32)) (H : Heap) (locs : List Loc) (ls : Array Slot), K_46 x1 x2 x3 x4 x5 r_all r_met r_tried → va_P (dC, dI) vwCl (vX11_turns cI cZ h h_all h_has h_line h_act h_pile h_comes h_leaves h_tried h_met f_size f_next f_where f_token f_number f_sign f_word f_wrong f_open f_lines f_acts r_all r_met r_tried) H → va_D A (vX11_turns cI cZ h h_all h_has h_line h_act h_pile h_comes h_leaves h_tried h_met f_size f_next f_where f_token f_number f_sign f_word f_wrong f_open f_lines f_acts r_all r_met r_tried) → va_S A s.heap H locs → lv_has ls 9 [(0, .ref h), (1, .int x1), (2, .int x2), (3, .int x3), (4, .int x4), (5, .int x5)] → W p l e rmX11_turns s m args below meth c H locs 0 0 (MQ below (qX11_turns dC dI cI cZ cO cW h h_all h_has h_line h_act h_pile h_comes h_leaves h_tried h_met f_size f_next f_where f_token f_number f_sign f_word f_wrong f_open f_lines f_acts Q A) args s 0 0 A) (F0 m 46 ls [])) :
    ∀ (x1 : Int32) (x2 : Int32) (x3 : Int32) (x5 : Int32) (x7 : Int32) (r_all : (Nat → Int32)) (r_met : (Nat → Int32)) (r_tried : (Nat → Int32)) (H : Heap) (locs : List Loc) (ls : Array Slot), wX11_turns_121 Q K_46 x1 x2 x3 x5 x7 r_all r_met r_tried → va_P (dC, dI) vwCl (vX11_turns cI cZ h h_all h_has h_line h_act h_pile h_comes h_leaves h_tried h_met f_size f_next f_where f_token f_number f_sign f_word f_wrong f_open f_lines f_acts r_all r_met r_tried) H → va_D A (vX11_turns cI cZ h h_all h_has h_line h_act h_pile h_comes h_leaves h_tried h_met f_size f_next f_where f_token f_number f_sign f_word f_wrong f_open f_lines f_acts r_all r_met r_tried) → va_S A s.heap H locs → lv_has ls 9 [(0, .ref h), (1, .int x1), (2, .int x2), (3, .int x3), (5, .int x5), (7, .int x7)] → W p l e rmX11_turns s m args below meth c H locs 0 0 (MQ below (qX11_turns dC dI cI cZ cO cW h h_all h_has h_line h_act h_pile h_comes h_leaves h_tried h_met f_size f_next f_where f_token f_number f_sign f_word f_wrong f_open f_lines f_acts Q A) args s 0 0 A) (F0 m 121 ls []) := by
  obtain ⟨hx, hb, hr, hml, hown, hts, hlocks⟩ := id hC
  intro x1 x2 x3 x5 x7 r_all r_met r_tried H locs ls hw hP hD hS hl
  refine lv_iload hx hb dX11_turns_121 (lv_at hl 5 rfl) ?_
  refine lv_istore (lv' := [(4, .int x7), (0, .ref h), (1, .int x1), (2, .int x2), (3, .int x3), (5, .int x5), (7, .int x7)]) hx hb dX11_turns_123 hl (by decide) rfl (fun ls hl => ?_)
  refine lv_iconst (v := (0 : Int32)) hx hb dX11_turns_125 (by decide) ?_
  refine lv_istore (lv' := [(8, .int (0 : Int32)), (4, .int x7), (0, .ref h), (1, .int x1), (2, .int x2), (3, .int x3), (5, .int x5), (7, .int x7)]) hx hb dX11_turns_126 hl (by decide) rfl (fun ls hl => ?_)
  obtain ⟨n_4, hw⟩ := hw
  exact tX11_turns_128 hC hK hA hk_46 n_4 x1 x2 x3 x7 x5 (0 : Int32) r_all r_met r_tried _ _ ls hw (hP.sub [0, 1, 2, 3] rfl) (hD.sub [0, 1, 2, 3] (by decide) rfl) hS (lv_sub hl [2, 3, 4, 5, 1, 6, 0] rfl)
set_option maxHeartbeats 4000000 in
set_option maxRecDepth 100000 in
theorem tX11_turns_61 {p : Program} {l : Launch} {e : Env} {s : State} {m : MethodId} {args : Array Value} {below : List Frame} {meth : Method} {c : Code} {dC : Nat → ClassId} {dI : Nat → Nat → Nat} {cI cZ cO cW : ClassId} {A : Nat → Prop} {h h_all h_has h_line h_act h_pile h_comes h_leaves h_tried h_met : Nat} {f_size f_next f_where f_token f_number f_sign f_word f_wrong f_open f_lines f_acts : Int32} {Q : Int32 → (Nat → Int32) → (Nat → Int32) → (Nat → Int32) → Prop} {K_46 : Int32 → Int32 → Int32 → Int32 → Int32 → (Nat → Int32) → (Nat → Int32) → (Nat → Int32) → Prop} (hC : Cx p s m args meth c cX11_turns (some .int) 9 GW RX11) (hK : va_K (dC, dI) vwCl (tysA cI cZ cO cW) s) (hA : ∀ q : Nat, s.heap.size ≤ q → A q) (hk_46 : ∀ (x1 : Int32) (x2 : Int32) (x3 : Int32) (x4 : Int32) (x5 : Int32) (r_all : (Nat → Int32)) (r_met : (Nat → Int32)) (r_tried : (Nat → Int32)) (H : Heap) (locs : List Loc) (ls : Array Slot), K_46 x1 x2 x3 x4 x5 r_all r_met r_tried → va_P (dC, dI) vwCl (vX11_turns cI cZ h h_all h_has h_line h_act h_pile h_comes h_leaves h_tried h_met f_size f_next f_where f_token f_number f_sign f_word f_wrong f_open f_lines f_acts r_all r_met r_tried) H → va_D A (vX11_turns cI cZ h h_all h_has h_line h_act h_pile h_comes h_leaves h_tried h_met f_size f_next f_where f_token f_number f_sign f_word f_wrong f_open f_lines f_acts r_all r_met r_tried) → va_S A s.heap H locs → lv_has ls 9 [(0, .ref h), (1, .int x1), (2, .int x2), (3, .int x3), (4, .int x4), (5, .int x5)] → W p l e rmX11_turns s m args below meth c H locs 0 0 (MQ below (qX11_turns dC dI cI cZ cO cW h h_all h_has h_line h_act h_pile h_comes h_leaves h_tried h_met f_size f_next f_where f_token f_number f_sign f_word f_wrong f_open f_lines f_acts Q A) args s 0 0 A) (F0 m 46 ls [])) :
    ∀ (n : Nat) (x1 : Int32) (x2 : Int32) (x3 : Int32) (x4 : Int32) (x5 : Int32) (x6 : Int32) (x7 : Int32) (r_all : (Nat → Int32)) (r_met : (Nat → Int32)) (r_tried : (Nat → Int32)) (H : Heap) (locs : List Loc) (ls : Array Slot), wX11_turns_61 Q K_46 n x1 x2 x3 x4 x5 x6 x7 r_all r_met r_tried → va_P (dC, dI) vwCl (vX11_turns cI cZ h h_all h_has h_line h_act h_pile h_comes h_leaves h_tried h_met f_size f_next f_where f_token f_number f_sign f_word f_wrong f_open f_lines f_acts r_all r_met r_tried) H → va_D A (vX11_turns cI cZ h h_all h_has h_line h_act h_pile h_comes h_leaves h_tried h_met f_size f_next f_where f_token f_number f_sign f_word f_wrong f_open f_lines f_acts r_all r_met r_tried) → va_S A s.heap H locs → lv_has ls 9 [(0, .ref h), (1, .int x1), (2, .int x2), (3, .int x3), (4, .int x4), (5, .int x5), (6, .int x6), (7, .int x7)] → W p l e rmX11_turns s m args below meth c H locs 0 0 (MQ below (qX11_turns dC dI cI cZ cO cW h h_all h_has h_line h_act h_pile h_comes h_leaves h_tried h_met f_size f_next f_where f_token f_number f_sign f_word f_wrong f_open f_lines f_acts Q A) args s 0 0 A) (F0 m 61 ls []) := by
  obtain ⟨hx, hb, hr, hml, hown, hts, hlocks⟩ := id hC
  intro n
  induction n with
  | zero =>
    intro  x1 x2 x3 x4 x5 x6 x7 r_all r_met r_tried H locs ls hw
    exact hw.elim
  | succ n ih =>
    intro  x1 x2 x3 x4 x5 x6 x7 r_all r_met r_tried H locs ls hw hP hD hS hl
    refine lv_iload hx hb dX11_turns_61 (lv_at hl 7 rfl) ?_
    refine lv_if_lt (tgt := 89) hx hb dX11_turns_63 (by decide) (fun c_5 => ?_) (fun c_5 => ?_)
    · have hw := hw.1 c_5
      refine lv_aload_n hx hb dX11_turns_89 rfl (lv_at hl 0 rfl) ?_
      have hPc := hP.sub (ws' := [(h, .inr (10, [.ref h_all, .ref h_has, .int f_size, .int f_next, .int f_where, .int f_token, .int f_number, .int f_sign, .int f_word, .int f_wrong, .int f_open, .int f_lines, .int f_acts, .ref h_line, .ref h_act, .ref h_pile, .ref h_comes, .ref h_leaves, .ref h_tried, .ref h_met])), (h_all, .inl (cI, 53700, .inl r_all)), (h_met, .inl (cZ, 8, .inl r_met)), (h_tried, .inl (cI, 6, .inl r_tried))]) [0, 1, 2, 3] rfl
      have hDc := hD.sub (ws' := [(h, .inr (10, [.ref h_all, .ref h_has, .int f_size, .int f_next, .int f_where, .int f_token, .int f_number, .int f_sign, .int f_word, .int f_wrong, .int f_open, .int f_lines, .int f_acts, .ref h_line, .ref h_act, .ref h_pile, .ref h_comes, .ref h_leaves, .ref h_tried, .ref h_met])), (h_all, .inl (cI, 53700, .inl r_all)), (h_met, .inl (cZ, 8, .inl r_met)), (h_tried, .inl (cI, 6, .inl r_tried))]) [0, 1, 2, 3] (by decide) rfl
      have hFc := va_free (wc := [(h, .inr (10, [.ref h_all, .ref h_has, .int f_size, .int f_next, .int f_where, .int f_token, .int f_number, .int f_sign, .int f_word, .int f_wrong, .int f_open, .int f_lines, .int f_acts, .ref h_line, .ref h_act, .ref h_pile, .ref h_comes, .ref h_leaves, .ref h_tried, .ref h_met])), (h_all, .inl (cI, 53700, .inl r_all)), (h_met, .inl (cZ, 8, .inl r_met)), (h_tried, .inl (cI, 6, .inl r_tried))]) hD hS hA [0, 1, 2, 3] rfl
      refine va_calli (va_runV (As := []) (rest := []) ⟨hx, hb, hml, hown, hts⟩ (kX11_isOrder l dC dI cI cZ cO cW h h_all h_has h_line h_act h_pile h_comes h_leaves h_tried h_met H.size f_size f_next f_where f_token f_number f_sign f_word f_wrong f_open f_lines f_acts r_all r_met r_tried _ hw) (cwV 0 hts (gV gw_842 gw_843 gw_844 gw_622 (gM gw_839)) rfl rfl rfl (by decide +kernel) ⟨Nat.le_of_ble_eq_true rfl, Nat.le_of_ble_eq_true rfl⟩) (pv_of hPc hK hDc (va_recv hK hPc (ci := 10) (q0 := 0) rfl rfl)) rfl rfl hl.1 rfl (lv_room (Nat.le_of_ble_eq_true rfl)) dX11_turns_90 ⟨Nat.zero_le _, Nat.zero_le _⟩) hS (fun q _ h => hFc q h) hFc (fun r_7 u t H locs ht hvm hw hB hz1 hk1 hS => ?_)
      obtain ⟨r_met_6, rfl⟩ : ∃ z, z = u := ⟨_, rfl⟩
      obtain ⟨hP, hD⟩ := af_join (wr := []) (w1 := [(h, .inr (10, [.ref h_all, .ref h_has, .int f_size, .int f_next, .int f_where, .int f_token, .int f_number, .int f_sign, .int f_word, .int f_wrong, .int f_open, .int f_lines, .int f_acts, .ref h_line, .ref h_act, .ref h_pile, .ref h_comes, .ref h_leaves, .ref h_tried, .ref h_met])), (h_all, .inl (cI, 53700, .inl r_all)), (h_met, .inl (cZ, 8, .inl r_met_6)), (h_tried, .inl (cI, 6, .inl r_tried))]) hB ht hP hD [0, 1, 2, 3] [] rfl rfl (by decide) (by decide) hk1 hFc
      have hP : va_P (dC, dI) vwCl [(h, .inr (10, [.ref h_all, .ref h_has, .int f_size, .int f_next, .int f_where, .int f_token, .int f_number, .int f_sign, .int f_word, .int f_wrong, .int f_open, .int f_lines, .int f_acts, .ref h_line, .ref h_act, .ref h_pile, .ref h_comes, .ref h_leaves, .ref h_tried, .ref h_met])), (h_all, .inl (cI, 53700, .inl r_all)), (h_met, .inl (cZ, 8, .inl r_met_6)), (h_tried, .inl (cI, 6, .inl r_tried))] _ := hP
      have hD : va_D A [(h, .inr (10, [.ref h_all, .ref h_has, .int f_size, .int f_next, .int f_where, .int f_token, .int f_number, .int f_sign, .int f_word, .int f_wrong, .int f_open, .int f_lines, .int f_acts, .ref h_line, .ref h_act, .ref h_pile, .ref h_comes, .ref h_leaves, .ref h_tried, .ref h_met])), (h_all, .inl (cI, 53700, .inl r_all)), (h_met, .inl (cZ, 8, .inl r_met_6)), (h_tried, .inl (cI, 6, .inl r_tried))] := hD
      refine lv_if_ne (tgt := 99) hx hb dX11_turns_93 (by decide) (fun c_8 => ?_) (fun c_8 => ?_)
      · have hw := hw.1 c_8
        refine lv_aload_n hx hb dX11_turns_99 rfl (lv_at hl 0 rfl) ?_
        refine lv_iload_n hx hb dX11_turns_100 rfl (lv_at hl 1 rfl) ?_
        have hPc := hP.sub (ws' := [(h, .inr (10, [.ref h_all, .ref h_has, .int f_size, .int f_next, .int f_where, .int f_token, .int f_number, .int f_sign, .int f_word, .int f_wrong, .int f_open, .int f_lines, .int f_acts, .ref h_line, .ref h_act, .ref h_pile, .ref h_comes, .ref h_leaves, .ref h_tried, .ref h_met])), (h_all, .inl (cI, 53700, .inl r_all)), (h_tried, .inl (cI, 6, .inl r_tried))]) [0, 1, 3] rfl
        have hDc := hD.sub (ws' := [(h, .inr (10, [.ref h_all, .ref h_has, .int f_size, .int f_next, .int f_where, .int f_token, .int f_number, .int f_sign, .int f_word, .int f_wrong, .int f_open, .int f_lines, .int f_acts, .ref h_line, .ref h_act, .ref h_pile, .ref h_comes, .ref h_leaves, .ref h_tried, .ref h_met])), (h_all, .inl (cI, 53700, .inl r_all)), (h_tried, .inl (cI, 6, .inl r_tried))]) [0, 1, 3] (by decide) rfl
        have hFc := va_free (wc := [(h, .inr (10, [.ref h_all, .ref h_has, .int f_size, .int f_next, .int f_where, .int f_token, .int f_number, .int f_sign, .int f_word, .int f_wrong, .int f_open, .int f_lines, .int f_acts, .ref h_line, .ref h_act, .ref h_pile, .ref h_comes, .ref h_leaves, .ref h_tried, .ref h_met])), (h_all, .inl (cI, 53700, .inl r_all)), (h_tried, .inl (cI, 6, .inl r_tried))]) hD hS hA [0, 1, 3] rfl
        refine va_calli (va_runV (As := [.int x1]) (rest := []) ⟨hx, hb, hml, hown, hts⟩ (kX11_costs l dC dI cI cZ cO cW h h_all h_has h_line h_act h_pile h_comes h_leaves h_tried h_met H.size f_size f_next f_where f_token f_number f_sign f_word f_wrong f_open f_lines f_acts r_all r_tried x1 _ hw) (cwV 1 hts (gV gw_845 gw_846 gw_847 gw_622 (gM gw_840)) rfl rfl rfl (by decide +kernel) ⟨Nat.le_of_ble_eq_true rfl, Nat.le_of_ble_eq_true rfl⟩) (pv_of hPc hK hDc (va_recv hK hPc (ci := 10) (q0 := 0) rfl rfl)) rfl rfl hl.1 rfl (lv_room (Nat.le_of_ble_eq_true rfl)) dX11_turns_101 ⟨Nat.zero_le _, Nat.zero_le _⟩) hS (fun q _ h => hFc q h) hFc (fun r_9 u t H locs ht hvm hw hB hz1 hk1 hS => ?_)
        obtain ⟨hP, hD⟩ := af_join (wr := [(h_met, .inl (cZ, 8, .inl r_met_6))]) (w1 := [(h, .inr (10, [.ref h_all, .ref h_has, .int f_size, .int f_next, .int f_where, .int f_token, .int f_number, .int f_sign, .int f_word, .int f_wrong, .int f_open, .int f_lines, .int f_acts, .ref h_line, .ref h_act, .ref h_pile, .ref h_comes, .ref h_leaves, .ref h_tried, .ref h_met])), (h_all, .inl (cI, 53700, .inl r_all)), (h_tried, .inl (cI, 6, .inl r_tried))]) hB ht hP hD [0, 1, 3] [2] rfl rfl (by decide) (by decide) hk1 hFc
        have hP : va_P (dC, dI) vwCl [(h_met, .inl (cZ, 8, .inl r_met_6)), (h, .inr (10, [.ref h_all, .ref h_has, .int f_size, .int f_next, .int f_where, .int f_token, .int f_number, .int f_sign, .int f_word, .int f_wrong, .int f_open, .int f_lines, .int f_acts, .ref h_line, .ref h_act, .ref h_pile, .ref h_comes, .ref h_leaves, .ref h_tried, .ref h_met])), (h_all, .inl (cI, 53700, .inl r_all)), (h_tried, .inl (cI, 6, .inl r_tried))] _ := hP
        have hD : va_D A [(h_met, .inl (cZ, 8, .inl r_met_6)), (h, .inr (10, [.ref h_all, .ref h_has, .int f_size, .int f_next, .int f_where, .int f_token, .int f_number, .int f_sign, .int f_word, .int f_wrong, .int f_open, .int f_lines, .int f_acts, .ref h_line, .ref h_act, .ref h_pile, .ref h_comes, .ref h_leaves, .ref h_tried, .ref h_met])), (h_all, .inl (cI, 53700, .inl r_all)), (h_tried, .inl (cI, 6, .inl r_tried))] := hD
        refine lv_istore (lv' := [(7, .int r_9), (0, .ref h), (1, .int x1), (2, .int x2), (3, .int x3), (4, .int x4), (5, .int x5), (6, .int x6)]) hx hb dX11_turns_104 hl (by decide) rfl (fun ls hl => ?_)
        refine lv_iload hx hb dX11_turns_106 (lv_at hl 5 rfl) ?_
        refine lv_if_lt (tgt := 121) hx hb dX11_turns_108 (by decide) (fun c_10 => ?_) (fun c_10 => ?_)
        · have hw := hw.1 c_10
          exact tX11_turns_121 hC hK hA hk_46 x1 x2 x3 x5 r_9 r_all r_met_6 r_tried _ _ ls hw (hP.sub [1, 2, 0, 3] rfl) (hD.sub [1, 2, 0, 3] (by decide) rfl) hS (lv_sub hl [1, 2, 3, 4, 6, 0] rfl)
        · have hw := hw.2 c_10
          refine lv_iload hx hb dX11_turns_111 (lv_at hl 0 rfl) ?_
          refine lv_iload hx hb dX11_turns_113 (lv_at hl 5 rfl) ?_
          refine lv_icmp_lt (tgt := 121) hx hb dX11_turns_115 (by decide) (fun c_11 => ?_) (fun c_11 => ?_)
          · have hw := hw.1 c_11
            exact tX11_turns_121 hC hK hA hk_46 x1 x2 x3 x5 r_9 r_all r_met_6 r_tried _ _ ls hw (hP.sub [1, 2, 0, 3] rfl) (hD.sub [1, 2, 0, 3] (by decide) rfl) hS (lv_sub hl [1, 2, 3, 4, 6, 0] rfl)
          · have hw := hw.2 c_11
            refine lv_goto (tgt := 157) hx hb dX11_turns_118 (by decide) ?_
            exact tX11_turns_157 hC hK hA hk_46 x1 x2 x3 x4 x5 r_all r_met_6 r_tried _ _ ls hw (hP.sub [1, 2, 0, 3] rfl) (hD.sub [1, 2, 0, 3] (by decide) rfl) hS (lv_sub hl [1, 2, 3, 4, 5, 6] rfl)
      · have hw := hw.2 c_8
        refine lv_goto (tgt := 157) hx hb dX11_turns_96 (by decide) ?_
        exact tX11_turns_157 hC hK hA hk_46 x1 x2 x3 x4 x5 r_all r_met_6 r_tried _ _ ls hw (hP.sub [0, 1, 2, 3] rfl) (hD.sub [0, 1, 2, 3] (by decide) rfl) hS (lv_sub hl [0, 1, 2, 3, 4, 5] rfl)
    · have hw := hw.2 c_5
      refine lv_aload_n hx hb dX11_turns_66 rfl (lv_at hl 0 rfl) ?_
      refine va_get (D := (dC, dI)) (ci := 10) (v := .ref h_tried) (C := RX11) (T := TX11) (N := 20) hx hb hts gu_X11 hown hK hP 0 rfl rfl 18 (by decide) (hts _ gw_617) (fun _ h9 => h9) rfl dX11_turns_67 ?_
      refine lv_iload hx hb dX11_turns_70 (lv_at hl 7 rfl) ?_
      refine lv_iload hx hb dX11_turns_72 (lv_at hl 6 rfl) ?_
      refine lv_iload_n hx hb dX11_turns_74 rfl (lv_at hl 2 rfl) ?_
      obtain ⟨h_14, hw⟩ := hw
      refine lv_irem hx hb dX11_turns_75 h_14 ?_
      obtain ⟨h_12, hw⟩ := hw
      refine va_iast hx hb hK hP hD hS 3 0 rfl rfl h_12 dX11_turns_76 (fun H locs hP hD hS => ?_)
      have hP : va_P (dC, dI) vwCl [(h, .inr (10, [.ref h_all, .ref h_has, .int f_size, .int f_next, .int f_where, .int f_token, .int f_number, .int f_sign, .int f_word, .int f_wrong, .int f_open, .int f_lines, .int f_acts, .ref h_line, .ref h_act, .ref h_pile, .ref h_comes, .ref h_leaves, .ref h_tried, .ref h_met])), (h_all, .inl (cI, 53700, .inl r_all)), (h_met, .inl (cZ, 8, .inl r_met)), (h_tried, .inl (cI, 6, .inl (upd r_tried x7.toNatClampNeg (x6 - x6 / x2 * x2))))] _ := hP
      have hD : va_D A [(h, .inr (10, [.ref h_all, .ref h_has, .int f_size, .int f_next, .int f_where, .int f_token, .int f_number, .int f_sign, .int f_word, .int f_wrong, .int f_open, .int f_lines, .int f_acts, .ref h_line, .ref h_act, .ref h_pile, .ref h_comes, .ref h_leaves, .ref h_tried, .ref h_met])), (h_all, .inl (cI, 53700, .inl r_all)), (h_met, .inl (cZ, 8, .inl r_met)), (h_tried, .inl (cI, 6, .inl (upd r_tried x7.toNatClampNeg (x6 - x6 / x2 * x2))))] := hD
      refine lv_iload hx hb dX11_turns_77 (lv_at hl 6 rfl) ?_
      refine lv_iload_n hx hb dX11_turns_79 rfl (lv_at hl 2 rfl) ?_
      obtain ⟨h_13, hw⟩ := hw
      refine lv_idiv hx hb dX11_turns_80 h_13 ?_
      refine lv_istore (lv' := [(6, .int (x6 / x2)), (0, .ref h), (1, .int x1), (2, .int x2), (3, .int x3), (4, .int x4), (5, .int x5), (7, .int x7)]) hx hb dX11_turns_81 hl (by decide) rfl (fun ls hl => ?_)
      refine lv_iinc (v := (x7 + (-1 : Int32))) (lv' := [(7, .int (x7 + (-1 : Int32))), (6, .int (x6 / x2)), (0, .ref h), (1, .int x1), (2, .int x2), (3, .int x3), (4, .int x4), (5, .int x5)]) hx hb dX11_turns_83 hl (k := 7) rfl rfl (by decide) rfl (fun ls hl => ?_)
      refine lv_goto (tgt := 61) hx hb dX11_turns_86 (by decide) ?_
      exact ih x1 x2 x3 x4 x5 (x6 / x2) (x7 + (-1 : Int32)) r_all r_met (upd r_tried x7.toNatClampNeg (x6 - x6 / x2 * x2)) _ _ ls hw (hP.sub [0, 1, 2, 3] rfl) (hD.sub [0, 1, 2, 3] (by decide) rfl) hS (lv_sub hl [2, 3, 4, 5, 6, 7, 1, 0] rfl)
set_option maxHeartbeats 4000000 in
set_option maxRecDepth 100000 in
theorem tX11_turns_46 {p : Program} {l : Launch} {e : Env} {s : State} {m : MethodId} {args : Array Value} {below : List Frame} {meth : Method} {c : Code} {dC : Nat → ClassId} {dI : Nat → Nat → Nat} {cI cZ cO cW : ClassId} {A : Nat → Prop} {h h_all h_has h_line h_act h_pile h_comes h_leaves h_tried h_met : Nat} {f_size f_next f_where f_token f_number f_sign f_word f_wrong f_open f_lines f_acts : Int32} {Q : Int32 → (Nat → Int32) → (Nat → Int32) → (Nat → Int32) → Prop}  (hC : Cx p s m args meth c cX11_turns (some .int) 9 GW RX11) (hK : va_K (dC, dI) vwCl (tysA cI cZ cO cW) s) (hA : ∀ q : Nat, s.heap.size ≤ q → A q) :
    ∀ (n : Nat) (x1 : Int32) (x2 : Int32) (x3 : Int32) (x4 : Int32) (x5 : Int32) (r_all : (Nat → Int32)) (r_met : (Nat → Int32)) (r_tried : (Nat → Int32)) (H : Heap) (locs : List Loc) (ls : Array Slot), wX11_turns_46 Q  n x1 x2 x3 x4 x5 r_all r_met r_tried → va_P (dC, dI) vwCl (vX11_turns cI cZ h h_all h_has h_line h_act h_pile h_comes h_leaves h_tried h_met f_size f_next f_where f_token f_number f_sign f_word f_wrong f_open f_lines f_acts r_all r_met r_tried) H → va_D A (vX11_turns cI cZ h h_all h_has h_line h_act h_pile h_comes h_leaves h_tried h_met f_size f_next f_where f_token f_number f_sign f_word f_wrong f_open f_lines f_acts r_all r_met r_tried) → va_S A s.heap H locs → lv_has ls 9 [(0, .ref h), (1, .int x1), (2, .int x2), (3, .int x3), (4, .int x4), (5, .int x5)] → W p l e rmX11_turns s m args below meth c H locs 0 0 (MQ below (qX11_turns dC dI cI cZ cO cW h h_all h_has h_line h_act h_pile h_comes h_leaves h_tried h_met f_size f_next f_where f_token f_number f_sign f_word f_wrong f_open f_lines f_acts Q A) args s 0 0 A) (F0 m 46 ls []) := by
  obtain ⟨hx, hb, hr, hml, hown, hts, hlocks⟩ := id hC
  intro n
  induction n with
  | zero =>
    intro  x1 x2 x3 x4 x5 r_all r_met r_tried H locs ls hw
    exact hw.elim
  | succ n ih =>
    intro  x1 x2 x3 x4 x5 r_all r_met r_tried H locs ls hw hP hD hS hl
    refine lv_iload hx hb dX11_turns_46 (lv_at hl 5 rfl) ?_
    refine lv_iload_n hx hb dX11_turns_48 rfl (lv_at hl 3 rfl) ?_
    refine lv_icmp_ge (tgt := 163) hx hb dX11_turns_49 (by decide) (fun c_15 => ?_) (fun c_15 => ?_)
    · have hw := hw.1 c_15
      refine lv_aload_n hx hb dX11_turns_163 rfl (lv_at hl 0 rfl) ?_
      refine va_get (D := (dC, dI)) (ci := 10) (v := .ref h_all) (C := RX11) (T := TX11) (N := 20) hx hb hts gu_X11 hown hK hP 0 rfl rfl 0 (by decide) (hts _ gw_607) (fun _ h9 => h9) rfl dX11_turns_164 ?_
      refine lv_bipush (v := (8 : Int32)) hx hb dX11_turns_167 (by decide) ?_
      refine lv_iload_n hx hb dX11_turns_169 rfl (lv_at hl 2 rfl) ?_
      obtain ⟨h_16, hw⟩ := hw
      refine va_iast hx hb hK hP hD hS 1 0 rfl rfl h_16 dX11_turns_170 (fun H locs hP hD hS => ?_)
      have hP : va_P (dC, dI) vwCl [(h, .inr (10, [.ref h_all, .ref h_has, .int f_size, .int f_next, .int f_where, .int f_token, .int f_number, .int f_sign, .int f_word, .int f_wrong, .int f_open, .int f_lines, .int f_acts, .ref h_line, .ref h_act, .ref h_pile, .ref h_comes, .ref h_leaves, .ref h_tried, .ref h_met])), (h_all, .inl (cI, 53700, .inl (upd r_all (8 : Int32).toNatClampNeg x2))), (h_met, .inl (cZ, 8, .inl r_met)), (h_tried, .inl (cI, 6, .inl r_tried))] _ := hP
      have hD : va_D A [(h, .inr (10, [.ref h_all, .ref h_has, .int f_size, .int f_next, .int f_where, .int f_token, .int f_number, .int f_sign, .int f_word, .int f_wrong, .int f_open, .int f_lines, .int f_acts, .ref h_line, .ref h_act, .ref h_pile, .ref h_comes, .ref h_leaves, .ref h_tried, .ref h_met])), (h_all, .inl (cI, 53700, .inl (upd r_all (8 : Int32).toNatClampNeg x2))), (h_met, .inl (cZ, 8, .inl r_met)), (h_tried, .inl (cI, 6, .inl r_tried))] := hD
      refine lv_iload hx hb dX11_turns_171 (lv_at hl 4 rfl) ?_
      have hP9 := hP.sub (ws' := (vX11_turns cI cZ h h_all h_has h_line h_act h_pile h_comes h_leaves h_tried h_met f_size f_next f_where f_token f_number f_sign f_word f_wrong f_open f_lines f_acts (upd r_all (8 : Int32).toNatClampNeg x2) r_met r_tried)) [0, 1, 2, 3] rfl
      have hD9 := hD.sub (ws' := (vX11_turns cI cZ h h_all h_has h_line h_act h_pile h_comes h_leaves h_tried h_met f_size f_next f_where f_token f_number f_sign f_word f_wrong f_open f_lines f_acts (upd r_all (8 : Int32).toNatClampNeg x2) r_met r_tried)) [0, 1, 2, 3] (by decide) rfl
      exact W.iret (v := x4) hx hb hr (fun t ht hW => ⟨⟨x4, ((upd r_all (8 : Int32).toNatClampNeg x2), r_met, r_tried), rfl, hw, by rw [ht]; exact hP9, va_K.moved hW.alike hK, hD9⟩, hS.F ht⟩) hS.2.2 dX11_turns_173
    · have hw := hw.2 c_15
      refine lv_iload hx hb dX11_turns_52 (lv_at hl 5 rfl) ?_
      refine lv_istore (lv' := [(6, .int x5), (0, .ref h), (1, .int x1), (2, .int x2), (3, .int x3), (4, .int x4), (5, .int x5)]) hx hb dX11_turns_54 hl (by decide) rfl (fun ls hl => ?_)
      refine lv_iload_n hx hb dX11_turns_56 rfl (lv_at hl 3 rfl) ?_
      refine lv_iconst (v := (1 : Int32)) hx hb dX11_turns_57 (by decide) ?_
      refine lv_isub hx hb dX11_turns_58 ?_
      refine lv_istore (lv' := [(7, .int (x2 - (1 : Int32))), (6, .int x5), (0, .ref h), (1, .int x1), (2, .int x2), (3, .int x3), (4, .int x4), (5, .int x5)]) hx hb dX11_turns_59 hl (by decide) rfl (fun ls hl => ?_)
      obtain ⟨n_17, hw⟩ := hw
      exact tX11_turns_61 hC hK hA ih n_17 x1 x2 x3 x4 x5 x5 (x2 - (1 : Int32)) r_all r_met r_tried _ _ ls hw (hP.sub [0, 1, 2, 3] rfl) (hD.sub [0, 1, 2, 3] (by decide) rfl) hS (lv_sub hl [2, 3, 4, 5, 6, 7, 1, 0] rfl)
set_option maxHeartbeats 4000000 in
set_option maxRecDepth 100000 in
theorem tX11_turns_24 {p : Program} {l : Launch} {e : Env} {s : State} {m : MethodId} {args : Array Value} {below : List Frame} {meth : Method} {c : Code} {dC : Nat → ClassId} {dI : Nat → Nat → Nat} {cI cZ cO cW : ClassId} {A : Nat → Prop} {h h_all h_has h_line h_act h_pile h_comes h_leaves h_tried h_met : Nat} {f_size f_next f_where f_token f_number f_sign f_word f_wrong f_open f_lines f_acts : Int32} {Q : Int32 → (Nat → Int32) → (Nat → Int32) → (Nat → Int32) → Prop}  (hC : Cx p s m args meth c cX11_turns (some .int) 9 GW RX11) (hK : va_K (dC, dI) vwCl (tysA cI cZ cO cW) s) (hA : ∀ q : Nat, s.heap.size ≤ q → A q) :
    ∀ (n : Nat) (x1 : Int32) (x2 : Int32) (x3 : Int32) (x4 : Int32) (r_all : (Nat → Int32)) (r_met : (Nat → Int32)) (r_tried : (Nat → Int32)) (H : Heap) (locs : List Loc) (ls : Array Slot), wX11_turns_24 Q  n x1 x2 x3 x4 r_all r_met r_tried → va_P (dC, dI) vwCl (vX11_turns cI cZ h h_all h_has h_line h_act h_pile h_comes h_leaves h_tried h_met f_size f_next f_where f_token f_number f_sign f_word f_wrong f_open f_lines f_acts r_all r_met r_tried) H → va_D A (vX11_turns cI cZ h h_all h_has h_line h_act h_pile h_comes h_leaves h_tried h_met f_size f_next f_where f_token f_number f_sign f_word f_wrong f_open f_lines f_acts r_all r_met r_tried) → va_S A s.heap H locs → lv_has ls 9 [(0, .ref h), (1, .int x1), (2, .int x2), (3, .int x3), (4, .int x4)] → W p l e rmX11_turns s m args below meth c H locs 0 0 (MQ below (qX11_turns dC dI cI cZ cO cW h h_all h_has h_line h_act h_pile h_comes h_leaves h_tried h_met f_size f_next f_where f_token f_number f_sign f_word f_wrong f_open f_lines f_acts Q A) args s 0 0 A) (F0 m 24 ls []) := by
  obtain ⟨hx, hb, hr, hml, hown, hts, hlocks⟩ := id hC
  intro n
  induction n with
  | zero =>
    intro  x1 x2 x3 x4 r_all r_met r_tried H locs ls hw
    exact hw.elim
  | succ n ih =>
    intro  x1 x2 x3 x4 r_all r_met r_tried H locs ls hw hP hD hS hl
    refine lv_iload hx hb dX11_turns_24 (lv_at hl 4 rfl) ?_
    refine lv_iload_n hx hb dX11_turns_26 rfl (lv_at hl 2 rfl) ?_
    refine lv_icmp_ge (tgt := 40) hx hb dX11_turns_27 (by decide) (fun c_18 => ?_) (fun c_18 => ?_)
    · have hw := hw.1 c_18
      refine lv_iconst (v := (-1 : Int32)) hx hb dX11_turns_40 (by decide) ?_
      refine lv_istore (lv' := [(4, .int (-1 : Int32)), (0, .ref h), (1, .int x1), (2, .int x2), (3, .int x3)]) hx hb dX11_turns_41 hl (by decide) rfl (fun ls hl => ?_)
      refine lv_iconst (v := (0 : Int32)) hx hb dX11_turns_43 (by decide) ?_
      refine lv_istore (lv' := [(5, .int (0 : Int32)), (4, .int (-1 : Int32)), (0, .ref h), (1, .int x1), (2, .int x2), (3, .int x3)]) hx hb dX11_turns_44 hl (by decide) rfl (fun ls hl => ?_)
      obtain ⟨n_19, hw⟩ := hw
      exact tX11_turns_46 hC hK hA  n_19 x1 x2 x3 (-1 : Int32) (0 : Int32) r_all r_met r_tried _ _ ls hw (hP.sub [0, 1, 2, 3] rfl) (hD.sub [0, 1, 2, 3] (by decide) rfl) hS (lv_sub hl [2, 3, 4, 5, 1, 0] rfl)
    · have hw := hw.2 c_18
      refine lv_iload_n hx hb dX11_turns_30 rfl (lv_at hl 3 rfl) ?_
      refine lv_iload_n hx hb dX11_turns_31 rfl (lv_at hl 2 rfl) ?_
      refine lv_imul hx hb dX11_turns_32 ?_
      refine lv_istore_n (lv' := [(3, .int (x3 * x2)), (0, .ref h), (1, .int x1), (2, .int x2), (4, .int x4)]) hx hb dX11_turns_33 rfl hl (by decide) rfl (fun ls hl => ?_)
      refine lv_iinc (v := (x4 + (1 : Int32))) (lv' := [(4, .int (x4 + (1 : Int32))), (3, .int (x3 * x2)), (0, .ref h), (1, .int x1), (2, .int x2)]) hx hb dX11_turns_34 hl (k := 4) rfl rfl (by decide) rfl (fun ls hl => ?_)
      refine lv_goto (tgt := 24) hx hb dX11_turns_37 (by decide) ?_
      exact ih x1 x2 (x3 * x2) (x4 + (1 : Int32)) r_all r_met r_tried _ _ ls hw (hP.sub [0, 1, 2, 3] rfl) (hD.sub [0, 1, 2, 3] (by decide) rfl) hS (lv_sub hl [2, 3, 4, 1, 0] rfl)
set_option maxHeartbeats 4000000 in
set_option maxRecDepth 100000 in
theorem tX11_turns_e {p : Program} {l : Launch} {e : Env} {s : State} {m : MethodId} {args : Array Value} {below : List Frame} {meth : Method} {c : Code} {dC : Nat → ClassId} {dI : Nat → Nat → Nat} {cI cZ cO cW : ClassId} {A : Nat → Prop} {h h_all h_has h_line h_act h_pile h_comes h_leaves h_tried h_met : Nat} {f_size f_next f_where f_token f_number f_sign f_word f_wrong f_open f_lines f_acts : Int32} {Q : Int32 → (Nat → Int32) → (Nat → Int32) → (Nat → Int32) → Prop} (hC : Cx p s m args meth c cX11_turns (some .int) 9 GW RX11) (hK : va_K (dC, dI) vwCl (tysA cI cZ cO cW) s) (hA : ∀ q : Nat, s.heap.size ≤ q → A q) :
    ∀ (x1 : Int32) (r_all : Nat → Int32) (r_met : Nat → Int32) (r_tried : Nat → Int32) (H : Heap) (locs : List Loc) (ls : Array Slot), wX11_turns Q x1 r_all r_met r_tried → va_P (dC, dI) vwCl (vX11_turns cI cZ h h_all h_has h_line h_act h_pile h_comes h_leaves h_tried h_met f_size f_next f_where f_token f_number f_sign f_word f_wrong f_open f_lines f_acts r_all r_met r_tried) H → va_D A (vX11_turns cI cZ h h_all h_has h_line h_act h_pile h_comes h_leaves h_tried h_met f_size f_next f_where f_token f_number f_sign f_word f_wrong f_open f_lines f_acts r_all r_met r_tried) → va_S A s.heap H locs → lv_has ls 9 [(0, .ref h), (1, .int x1)] → W p l e rmX11_turns s m args below meth c H locs 0 0 (MQ below (qX11_turns dC dI cI cZ cO cW h h_all h_has h_line h_act h_pile h_comes h_leaves h_tried h_met f_size f_next f_where f_token f_number f_sign f_word f_wrong f_open f_lines f_acts Q A) args s 0 0 A) (F0 m 0 ls []) := by
  obtain ⟨hx, hb, hr, hml, hown, hts, hlocks⟩ := id hC
  intro x1 r_all r_met r_tried H locs ls hw hP hD hS hl
  refine lv_iload_n hx hb dX11_turns_0 rfl (lv_at hl 1 rfl) ?_
  refine lv_iconst (v := (1 : Int32)) hx hb dX11_turns_1 (by decide) ?_
  refine lv_iconst (v := (2 : Int32)) hx hb dX11_turns_2 (by decide) ?_
  have hPc := hP.sub (ws' := []) [] rfl
  have hDc := hD.sub (ws' := []) [] (by decide) rfl
  have hFc := va_free (wc := []) hD hS hA [] rfl
  refine va_calli (va_runS (As := [.int x1, .int (1 : Int32), .int (2 : Int32)]) (rest := []) ⟨hx, hb, hml, hown, hts⟩ (kX11_isIn l dC dI cI cZ cO cW H.size x1 (1 : Int32) (2 : Int32) _ hw) (va_cwS 3 hts (gS gw_625 gw_626 gw_622 (gM gw_623)) rfl rfl rfl (by decide +kernel) ⟨Nat.le_of_ble_eq_true rfl, Nat.le_of_ble_eq_true rfl⟩) (ps_of hPc hK hDc) rfl rfl hl.1 rfl (lv_room (Nat.le_of_ble_eq_true rfl)) dX11_turns_3 ⟨Nat.zero_le _, Nat.zero_le _⟩) hS (fun q _ h => hFc q h) hFc (fun r_20 u t H locs ht hvm hw hB hz1 hk1 hS => ?_)
  obtain ⟨hP, hD⟩ := af_join (wr := [(h, .inr (10, [.ref h_all, .ref h_has, .int f_size, .int f_next, .int f_where, .int f_token, .int f_number, .int f_sign, .int f_word, .int f_wrong, .int f_open, .int f_lines, .int f_acts, .ref h_line, .ref h_act, .ref h_pile, .ref h_comes, .ref h_leaves, .ref h_tried, .ref h_met])), (h_all, .inl (cI, 53700, .inl r_all)), (h_met, .inl (cZ, 8, .inl r_met)), (h_tried, .inl (cI, 6, .inl r_tried))]) (w1 := []) hB ht hP hD [] [0, 1, 2, 3] rfl rfl (by decide) (by decide) hk1 hFc
  have hP : va_P (dC, dI) vwCl [(h, .inr (10, [.ref h_all, .ref h_has, .int f_size, .int f_next, .int f_where, .int f_token, .int f_number, .int f_sign, .int f_word, .int f_wrong, .int f_open, .int f_lines, .int f_acts, .ref h_line, .ref h_act, .ref h_pile, .ref h_comes, .ref h_leaves, .ref h_tried, .ref h_met])), (h_all, .inl (cI, 53700, .inl r_all)), (h_met, .inl (cZ, 8, .inl r_met)), (h_tried, .inl (cI, 6, .inl r_tried))] _ := hP
  have hD : va_D A [(h, .inr (10, [.ref h_all, .ref h_has, .int f_size, .int f_next, .int f_where, .int f_token, .int f_number, .int f_sign, .int f_word, .int f_wrong, .int f_open, .int f_lines, .int f_acts, .ref h_line, .ref h_act, .ref h_pile, .ref h_comes, .ref h_leaves, .ref h_tried, .ref h_met])), (h_all, .inl (cI, 53700, .inl r_all)), (h_met, .inl (cZ, 8, .inl r_met)), (h_tried, .inl (cI, 6, .inl r_tried))] := hD
  refine lv_if_ne (tgt := 11) hx hb dX11_turns_6 (by decide) (fun c_21 => ?_) (fun c_21 => ?_)
  · have hw := hw.1 c_21
    refine lv_aload_n hx hb dX11_turns_11 rfl (lv_at hl 0 rfl) ?_
    refine va_get (D := (dC, dI)) (ci := 10) (v := .ref h_all) (C := RX11) (T := TX11) (N := 20) hx hb hts gu_X11 hown hK hP 0 rfl rfl 0 (by decide) (hts _ gw_607) (fun _ h9 => h9) rfl dX11_turns_12 ?_
    refine lv_bipush (v := (7 : Int32)) hx hb dX11_turns_15 (by decide) ?_
    obtain ⟨h_22, hw⟩ := hw
    refine va_iald hx hb hK hP 1 0 rfl rfl h_22 dX11_turns_17 ?_
    refine lv_istore_n (lv' := [(2, .int (r_all (7 : Int32).toNatClampNeg)), (0, .ref h), (1, .int x1)]) hx hb dX11_turns_18 rfl hl (by decide) rfl (fun ls hl => ?_)
    refine lv_iconst (v := (1 : Int32)) hx hb dX11_turns_19 (by decide) ?_
    refine lv_istore_n (lv' := [(3, .int (1 : Int32)), (2, .int (r_all (7 : Int32).toNatClampNeg)), (0, .ref h), (1, .int x1)]) hx hb dX11_turns_20 rfl hl (by decide) rfl (fun ls hl => ?_)
    refine lv_iconst (v := (0 : Int32)) hx hb dX11_turns_21 (by decide) ?_
    refine lv_istore (lv' := [(4, .int (0 : Int32)), (3, .int (1 : Int32)), (2, .int (r_all (7 : Int32).toNatClampNeg)), (0, .ref h), (1, .int x1)]) hx hb dX11_turns_22 hl (by decide) rfl (fun ls hl => ?_)
    obtain ⟨n_23, hw⟩ := hw
    exact tX11_turns_24 hC hK hA  n_23 x1 (r_all (7 : Int32).toNatClampNeg) (1 : Int32) (0 : Int32) r_all r_met r_tried _ _ ls hw (hP.sub [0, 1, 2, 3] rfl) (hD.sub [0, 1, 2, 3] (by decide) rfl) hS (lv_sub hl [3, 4, 2, 1, 0] rfl)
  · have hw := hw.2 c_21
    refine lv_iconst (v := (-1 : Int32)) hx hb dX11_turns_9 (by decide) ?_
    have hP9 := hP.sub (ws' := (vX11_turns cI cZ h h_all h_has h_line h_act h_pile h_comes h_leaves h_tried h_met f_size f_next f_where f_token f_number f_sign f_word f_wrong f_open f_lines f_acts r_all r_met r_tried)) [0, 1, 2, 3] rfl
    have hD9 := hD.sub (ws' := (vX11_turns cI cZ h h_all h_has h_line h_act h_pile h_comes h_leaves h_tried h_met f_size f_next f_where f_token f_number f_sign f_word f_wrong f_open f_lines f_acts r_all r_met r_tried)) [0, 1, 2, 3] (by decide) rfl
    exact W.iret (v := (-1 : Int32)) hx hb hr (fun t ht hW => ⟨⟨(-1 : Int32), (r_all, r_met, r_tried), rfl, hw, by rw [ht]; exact hP9, va_K.moved hW.alike hK, hD9⟩, hS.F ht⟩) hS.2.2 dX11_turns_10
set_option maxHeartbeats 4000000 in
set_option maxRecDepth 100000 in
theorem kX11_turns (l : Launch) (dC : Nat → ClassId) (dI : Nat → Nat → Nat) (cI cZ cO cW : ClassId) (h h_all h_has h_line h_act h_pile h_comes h_leaves h_tried h_met : Nat)  (sz : Nat) (f_size : Int32) (f_next : Int32) (f_where : Int32) (f_token : Int32) (f_number : Int32) (f_sign : Int32) (f_word : Int32) (f_wrong : Int32) (f_open : Int32) (f_lines : Int32) (f_acts : Int32) (r_all : Nat → Int32) (r_met : Nat → Int32) (r_tried : Nat → Int32) (x1 : Int32) (Q : Int32 → (Nat → Int32) → (Nat → Int32) → (Nat → Int32) → Prop) (hw : wX11_turns Q x1 r_all r_met r_tried) : Met l yX11_turns zsX11_turns rmX11_turns (va_Pc [.ref h, .int x1] (fun U => U.heap.size = sz ∧ va_P (dC, dI) vwCl (vX11_turns cI cZ h h_all h_has h_line h_act h_pile h_comes h_leaves h_tried h_met f_size f_next f_where f_token f_number f_sign f_word f_wrong f_open f_lines f_acts r_all r_met r_tried) U.heap ∧ va_K (dC, dI) vwCl (tysA cI cZ cO cW) U ∧ va_D (fun _ => True) (vX11_turns cI cZ h h_all h_has h_line h_act h_pile h_comes h_leaves h_tried h_met f_size f_next f_where f_token f_number f_sign f_word f_wrong f_open f_lines f_acts r_all r_met r_tried))) (qX11_turns dC dI cI cZ cO cW h h_all h_has h_line h_act h_pile h_comes h_leaves h_tried h_met f_size f_next f_where f_token f_number f_sign f_word f_wrong f_open f_lines f_acts Q (va_A (vX11_turns cI cZ h h_all h_has h_line h_act h_pile h_comes h_leaves h_tried h_met f_size f_next f_where f_token f_number f_sign f_word f_wrong f_open f_lines f_acts r_all r_met r_tried) sz)) 0 0 (va_A (vX11_turns cI cZ h h_all h_has h_line h_act h_pile h_comes h_leaves h_tried h_met f_size f_next f_where f_token f_number f_sign f_word f_wrong f_open f_lines f_acts r_all r_met r_tried) sz) := by
  refine Met.ofW (cc := cX11_turns) (maxL := 9) (ret := (some .int)) (by decide) rfl ?_
  intro p e s m args below meth c s₁ B hml hv
  obtain ⟨rfl, hsz, hP, hK, hD0⟩ := hv
  subst hsz
  have hC : Cx p s m ([.ref h, .int x1] : List Value).toArray meth c cX11_turns (some .int) 9 GW RX11 := ⟨B.exec, B.bytes, B.returns, hml, findClass_of_methodNamed B.named, fun w h => atoms_spec (ws := zsX11_turns) B.pre w (List.mem_cons_of_mem _ h), B.notSynchronized⟩
  have hD := hD0.self (sz := s.heap.size)
  generalize hAe : va_A (vX11_turns cI cZ h h_all h_has h_line h_act h_pile h_comes h_leaves h_tried h_met f_size f_next f_where f_token f_number f_sign f_word f_wrong f_open f_lines f_acts r_all r_met r_tried) s.heap.size = A at hD ⊢
  have hA : ∀ q : Nat, s.heap.size ≤ q → A q := fun q h => by rw [← hAe]; exact Or.inr h
  have hl := lv_entry ([.ref h, .int x1]) (n := 9) (Nat.le_of_ble_eq_true rfl)
  rw [lg_entry_eq]
  generalize (lg_sl ([.ref h, .int x1]) ++ List.replicate (9 - (lg_sl ([.ref h, .int x1])).length) Slot.unset).toArray = ls at hl ⊢
  exact tX11_turns_e hC hK hA x1 r_all r_met r_tried _ _ ls hw hP hD va_S.rf hl

/-! X11_cost -/
def wX11_cost_13 (Q : Int32 → (Nat → Int32) → (Nat → Int32) → Prop)   : Nat → Int32 → Int32 → Int32 → (Nat → Int32) → (Nat → Int32) → (Nat → Int32) → Prop
  | 0, _, _, _, _, _, _ => False
  | n + 1, x1, x2, x3, r_all, r_met, r_tried => (((6 : Int32) ≤ x3 → (wX11_isOrder (fun r_3 r_met_2 => ((r_3 = 0 → (Q (-1 : Int32) r_met_2 r_tried)) ∧ (¬ r_3 = 0 → (wX11_costs (fun r_5 => (Q r_5 r_met_2 r_tried)) x2 r_all r_tried)))) r_all r_met r_tried)) ∧ (¬ (6 : Int32) ≤ x3 → (vp_in x3 6 ∧ (wX11_cost_13 Q n x1 x2 (x3 + (1 : Int32)) r_all r_met (upd r_tried x3.toNatClampNeg ((x1 >>> (((3 : Int32) * x3) &&& 31)) &&& (7 : Int32)))))))
def wX11_cost (Q : Int32 → (Nat → Int32) → (Nat → Int32) → Prop) (x1 : Int32) (x2 : Int32) (r_all : Nat → Int32) (r_met : Nat → Int32) (r_tried : Nat → Int32) : Prop :=
  (wX11_isIn (fun r_7 => ((¬ r_7 = 0 → (∃ j_, wX11_cost_13 Q j_ x1 x2 (0 : Int32) r_all r_met r_tried)) ∧ (r_7 = 0 → (Q (-1 : Int32) r_met r_tried)))) x2 (1 : Int32) (2 : Int32))
abbrev vX11_cost (cI cZ : ClassId) (h h_all h_has h_line h_act h_pile h_comes h_leaves h_tried h_met : Nat) (f_size : Int32) (f_next : Int32) (f_where : Int32) (f_token : Int32) (f_number : Int32) (f_sign : Int32) (f_word : Int32) (f_wrong : Int32) (f_open : Int32) (f_lines : Int32) (f_acts : Int32) (r_all : Nat → Int32) (r_met : Nat → Int32) (r_tried : Nat → Int32) : va_W := [(h, .inr (10, [.ref h_all, .ref h_has, .int f_size, .int f_next, .int f_where, .int f_token, .int f_number, .int f_sign, .int f_word, .int f_wrong, .int f_open, .int f_lines, .int f_acts, .ref h_line, .ref h_act, .ref h_pile, .ref h_comes, .ref h_leaves, .ref h_tried, .ref h_met])), (h_all, .inl (cI, 53700, .inl r_all)), (h_met, .inl (cZ, 8, .inl r_met)), (h_tried, .inl (cI, 6, .inl r_tried))]
abbrev rmX11_cost : Room := { frames := 1, cells := 0, slots := 0, locals := 29 }
abbrev qX11_cost (dC : Nat → ClassId) (dI : Nat → Nat → Nat) (cI cZ cO cW : ClassId) (h h_all h_has h_line h_act h_pile h_comes h_leaves h_tried h_met : Nat) (f_size : Int32) (f_next : Int32) (f_where : Int32) (f_token : Int32) (f_number : Int32) (f_sign : Int32) (f_word : Int32) (f_wrong : Int32) (f_open : Int32) (f_lines : Int32) (f_acts : Int32) (r_all : Nat → Int32) (Q : Int32 → (Nat → Int32) → (Nat → Int32) → Prop) (A : Nat → Prop) : Array Value → State → Outcome → State → Prop := va_Qi (fun (r : Int32) (u : (Nat → Int32) × (Nat → Int32)) => Q r u.1 u.2) (fun (u : (Nat → Int32) × (Nat → Int32)) (t : State) => va_P (dC, dI) vwCl (vX11_cost cI cZ h h_all h_has h_line h_act h_pile h_comes h_leaves h_tried h_met f_size f_next f_where f_token f_number f_sign f_word f_wrong f_open f_lines f_acts r_all u.1 u.2) t.heap ∧ va_K (dC, dI) vwCl (tysA cI cZ cO cW) t ∧ va_D A (vX11_cost cI cZ h h_all h_has h_line h_act h_pile h_comes h_leaves h_tried h_met f_size f_next f_where f_token f_number f_sign f_word f_wrong f_open f_lines f_acts r_all u.1 u.2)) A
def zsX11_cost : List Cond := Cond.code yX11_cost cX11_cost 4 (some .int) :: GW
set_option maxHeartbeats 4000000 in
set_option maxRecDepth 100000 in
theorem tX11_cost_13 {p : Program} {l : Launch} {e : Env} {s : State} {m : MethodId} {args : Array Value} {below : List Frame} {meth : Method} {c : Code} {dC : Nat → ClassId} {dI : Nat → Nat → Nat} {cI cZ cO cW : ClassId} {A : Nat → Prop} {h h_all h_has h_line h_act h_pile h_comes h_leaves h_tried h_met : Nat} {f_size f_next f_where f_token f_number f_sign f_word f_wrong f_open f_lines f_acts : Int32} {Q : Int32 → (Nat → Int32) → (Nat → Int32) → Prop}  (hC : Cx p s m args meth c cX11_cost (some .int) 4 GW RX11) (hK : va_K (dC, dI) vwCl (tysA cI cZ cO cW) s) (hA : ∀ q : Nat, s.heap.size ≤ q → A q) :
    ∀ (n : Nat) (x1 : Int32) (x2 : Int32) (x3 : Int32) (r_all : (Nat → Int32)) (r_met : (Nat → Int32)) (r_tried : (Nat → Int32)) (H : Heap) (locs : List Loc) (ls : Array Slot), wX11_cost_13 Q  n x1 x2 x3 r_all r_met r_tried → va_P (dC, dI) vwCl (vX11_cost cI cZ h h_all h_has h_line h_act h_pile h_comes h_leaves h_tried h_met f_size f_next f_where f_token f_number f_sign f_word f_wrong f_open f_lines f_acts r_all r_met r_tried) H → va_D A (vX11_cost cI cZ h h_all h_has h_line h_act h_pile h_comes h_leaves h_tried h_met f_size f_next f_where f_token f_number f_sign f_word f_wrong f_open f_lines f_acts r_all r_met r_tried) → va_S A s.heap H locs → lv_has ls 4 [(0, .ref h), (1, .int x1), (2, .int x2), (3, .int x3)] → W p l e rmX11_cost s m args below meth c H locs 0 0 (MQ below (qX11_cost dC dI cI cZ cO cW h h_all h_has h_line h_act h_pile h_comes h_leaves h_tried h_met f_size f_next f_where f_token f_number f_sign f_word f_wrong f_open f_lines f_acts r_all Q A) args s 0 0 A) (F0 m 13 ls []) := by
  obtain ⟨hx, hb, hr, hml, hown, hts, hlocks⟩ := id hC
  intro n
  induction n with
  | zero =>
    intro  x1 x2 x3 r_all r_met r_tried H locs ls hw
    exact hw.elim
  | succ n ih =>
    intro  x1 x2 x3 r_all r_met r_tried H locs ls hw hP hD hS hl
    refine lv_iload_n hx hb dX11_cost_13 rfl (lv_at hl 3 rfl) ?_
    refine lv_bipush (v := (6 : Int32)) hx hb dX11_cost_14 (by decide) ?_
    refine lv_icmp_ge (tgt := 39) hx hb dX11_cost_16 (by decide) (fun c_1 => ?_) (fun c_1 => ?_)
    · have hw := hw.1 c_1
      refine lv_aload_n hx hb dX11_cost_39 rfl (lv_at hl 0 rfl) ?_
      have hPc := hP.sub (ws' := [(h, .inr (10, [.ref h_all, .ref h_has, .int f_size, .int f_next, .int f_where, .int f_token, .int f_number, .int f_sign, .int f_word, .int f_wrong, .int f_open, .int f_lines, .int f_acts, .ref h_line, .ref h_act, .ref h_pile, .ref h_comes, .ref h_leaves, .ref h_tried, .ref h_met])), (h_all, .inl (cI, 53700, .inl r_all)), (h_met, .inl (cZ, 8, .inl r_met)), (h_tried, .inl (cI, 6, .inl r_tried))]) [0, 1, 2, 3] rfl
      have hDc := hD.sub (ws' := [(h, .inr (10, [.ref h_all, .ref h_has, .int f_size, .int f_next, .int f_where, .int f_token, .int f_number, .int f_sign, .int f_word, .int f_wrong, .int f_open, .int f_lines, .int f_acts, .ref h_line, .ref h_act, .ref h_pile, .ref h_comes, .ref h_leaves, .ref h_tried, .ref h_met])), (h_all, .inl (cI, 53700, .inl r_all)), (h_met, .inl (cZ, 8, .inl r_met)), (h_tried, .inl (cI, 6, .inl r_tried))]) [0, 1, 2, 3] (by decide) rfl
      have hFc := va_free (wc := [(h, .inr (10, [.ref h_all, .ref h_has, .int f_size, .int f_next, .int f_where, .int f_token, .int f_number, .int f_sign, .int f_word, .int f_wrong, .int f_open, .int f_lines, .int f_acts, .ref h_line, .ref h_act, .ref h_pile, .ref h_comes, .ref h_leaves, .ref h_tried, .ref h_met])), (h_all, .inl (cI, 53700, .inl r_all)), (h_met, .inl (cZ, 8, .inl r_met)), (h_tried, .inl (cI, 6, .inl r_tried))]) hD hS hA [0, 1, 2, 3] rfl
      refine va_calli (va_runV (As := []) (rest := []) ⟨hx, hb, hml, hown, hts⟩ (kX11_isOrder l dC dI cI cZ cO cW h h_all h_has h_line h_act h_pile h_comes h_leaves h_tried h_met H.size f_size f_next f_where f_token f_number f_sign f_word f_wrong f_open f_lines f_acts r_all r_met r_tried _ hw) (cwV 0 hts (gV gw_842 gw_843 gw_844 gw_622 (gM gw_839)) rfl rfl rfl (by decide +kernel) ⟨Nat.le_of_ble_eq_true rfl, Nat.le_of_ble_eq_true rfl⟩) (pv_of hPc hK hDc (va_recv hK hPc (ci := 10) (q0 := 0) rfl rfl)) rfl rfl hl.1 rfl (lv_room (Nat.le_of_ble_eq_true rfl)) dX11_cost_40 ⟨Nat.zero_le _, Nat.zero_le _⟩) hS (fun q _ h => hFc q h) hFc (fun r_3 u t H locs ht hvm hw hB hz1 hk1 hS => ?_)
      obtain ⟨r_met_2, rfl⟩ : ∃ z, z = u := ⟨_, rfl⟩
      obtain ⟨hP, hD⟩ := af_join (wr := []) (w1 := [(h, .inr (10, [.ref h_all, .ref h_has, .int f_size, .int f_next, .int f_where, .int f_token, .int f_number, .int f_sign, .int f_word, .int f_wrong, .int f_open, .int f_lines, .int f_acts, .ref h_line, .ref h_act, .ref h_pile, .ref h_comes, .ref h_leaves, .ref h_tried, .ref h_met])), (h_all, .inl (cI, 53700, .inl r_all)), (h_met, .inl (cZ, 8, .inl r_met_2)), (h_tried, .inl (cI, 6, .inl r_tried))]) hB ht hP hD [0, 1, 2, 3] [] rfl rfl (by decide) (by decide) hk1 hFc
      have hP : va_P (dC, dI) vwCl [(h, .inr (10, [.ref h_all, .ref h_has, .int f_size, .int f_next, .int f_where, .int f_token, .int f_number, .int f_sign, .int f_word, .int f_wrong, .int f_open, .int f_lines, .int f_acts, .ref h_line, .ref h_act, .ref h_pile, .ref h_comes, .ref h_leaves, .ref h_tried, .ref h_met])), (h_all, .inl (cI, 53700, .inl r_all)), (h_met, .inl (cZ, 8, .inl r_met_2)), (h_tried, .inl (cI, 6, .inl r_tried))] _ := hP
      have hD : va_D A [(h, .inr (10, [.ref h_all, .ref h_has, .int f_size, .int f_next, .int f_where, .int f_token, .int f_number, .int f_sign, .int f_word, .int f_wrong, .int f_open, .int f_lines, .int f_acts, .ref h_line, .ref h_act, .ref h_pile, .ref h_comes, .ref h_leaves, .ref h_tried, .ref h_met])), (h_all, .inl (cI, 53700, .inl r_all)), (h_met, .inl (cZ, 8, .inl r_met_2)), (h_tried, .inl (cI, 6, .inl r_tried))] := hD
      refine lv_if_eq (tgt := 54) hx hb dX11_cost_43 (by decide) (fun c_4 => ?_) (fun c_4 => ?_)
      · have hw := hw.1 c_4
        refine lv_iconst (v := (-1 : Int32)) hx hb dX11_cost_54 (by decide) ?_
        have hP9 := hP.sub (ws' := (vX11_cost cI cZ h h_all h_has h_line h_act h_pile h_comes h_leaves h_tried h_met f_size f_next f_where f_token f_number f_sign f_word f_wrong f_open f_lines f_acts r_all r_met_2 r_tried)) [0, 1, 2, 3] rfl
        have hD9 := hD.sub (ws' := (vX11_cost cI cZ h h_all h_has h_line h_act h_pile h_comes h_leaves h_tried h_met f_size f_next f_where f_token f_number f_sign f_word f_wrong f_open f_lines f_acts r_all r_met_2 r_tried)) [0, 1, 2, 3] (by decide) rfl
        exact W.iret (v := (-1 : Int32)) hx hb hr (fun t ht hW => ⟨⟨(-1 : Int32), (r_met_2, r_tried), rfl, hw, by rw [ht]; exact hP9, va_K.moved hW.alike hK, hD9⟩, hS.F ht⟩) hS.2.2 dX11_cost_55
      · have hw := hw.2 c_4
        refine lv_aload_n hx hb dX11_cost_46 rfl (lv_at hl 0 rfl) ?_
        refine lv_iload_n hx hb dX11_cost_47 rfl (lv_at hl 2 rfl) ?_
        have hPc := hP.sub (ws' := [(h, .inr (10, [.ref h_all, .ref h_has, .int f_size, .int f_next, .int f_where, .int f_token, .int f_number, .int f_sign, .int f_word, .int f_wrong, .int f_open, .int f_lines, .int f_acts, .ref h_line, .ref h_act, .ref h_pile, .ref h_comes, .ref h_leaves, .ref h_tried, .ref h_met])), (h_all, .inl (cI, 53700, .inl r_all)), (h_tried, .inl (cI, 6, .inl r_tried))]) [0, 1, 3] rfl
        have hDc := hD.sub (ws' := [(h, .inr (10, [.ref h_all, .ref h_has, .int f_size, .int f_next, .int f_where, .int f_token, .int f_number, .int f_sign, .int f_word, .int f_wrong, .int f_open, .int f_lines, .int f_acts, .ref h_line, .ref h_act, .ref h_pile, .ref h_comes, .ref h_leaves, .ref h_tried, .ref h_met])), (h_all, .inl (cI, 53700, .inl r_all)), (h_tried, .inl (cI, 6, .inl r_tried))]) [0, 1, 3] (by decide) rfl
        have hFc := va_free (wc := [(h, .inr (10, [.ref h_all, .ref h_has, .int f_size, .int f_next, .int f_where, .int f_token, .int f_number, .int f_sign, .int f_word, .int f_wrong, .int f_open, .int f_lines, .int f_acts, .ref h_line, .ref h_act, .ref h_pile, .ref h_comes, .ref h_leaves, .ref h_tried, .ref h_met])), (h_all, .inl (cI, 53700, .inl r_all)), (h_tried, .inl (cI, 6, .inl r_tried))]) hD hS hA [0, 1, 3] rfl
        refine va_calli (va_runV (As := [.int x2]) (rest := []) ⟨hx, hb, hml, hown, hts⟩ (kX11_costs l dC dI cI cZ cO cW h h_all h_has h_line h_act h_pile h_comes h_leaves h_tried h_met H.size f_size f_next f_where f_token f_number f_sign f_word f_wrong f_open f_lines f_acts r_all r_tried x2 _ hw) (cwV 1 hts (gV gw_845 gw_846 gw_847 gw_622 (gM gw_840)) rfl rfl rfl (by decide +kernel) ⟨Nat.le_of_ble_eq_true rfl, Nat.le_of_ble_eq_true rfl⟩) (pv_of hPc hK hDc (va_recv hK hPc (ci := 10) (q0 := 0) rfl rfl)) rfl rfl hl.1 rfl (lv_room (Nat.le_of_ble_eq_true rfl)) dX11_cost_48 ⟨Nat.zero_le _, Nat.zero_le _⟩) hS (fun q _ h => hFc q h) hFc (fun r_5 u t H locs ht hvm hw hB hz1 hk1 hS => ?_)
        obtain ⟨hP, hD⟩ := af_join (wr := [(h_met, .inl (cZ, 8, .inl r_met_2))]) (w1 := [(h, .inr (10, [.ref h_all, .ref h_has, .int f_size, .int f_next, .int f_where, .int f_token, .int f_number, .int f_sign, .int f_word, .int f_wrong, .int f_open, .int f_lines, .int f_acts, .ref h_line, .ref h_act, .ref h_pile, .ref h_comes, .ref h_leaves, .ref h_tried, .ref h_met])), (h_all, .inl (cI, 53700, .inl r_all)), (h_tried, .inl (cI, 6, .inl r_tried))]) hB ht hP hD [0, 1, 3] [2] rfl rfl (by decide) (by decide) hk1 hFc
        have hP : va_P (dC, dI) vwCl [(h_met, .inl (cZ, 8, .inl r_met_2)), (h, .inr (10, [.ref h_all, .ref h_has, .int f_size, .int f_next, .int f_where, .int f_token, .int f_number, .int f_sign, .int f_word, .int f_wrong, .int f_open, .int f_lines, .int f_acts, .ref h_line, .ref h_act, .ref h_pile, .ref h_comes, .ref h_leaves, .ref h_tried, .ref h_met])), (h_all, .inl (cI, 53700, .inl r_all)), (h_tried, .inl (cI, 6, .inl r_tried))] _ := hP
        have hD : va_D A [(h_met, .inl (cZ, 8, .inl r_met_2)), (h, .inr (10, [.ref h_all, .ref h_has, .int f_size, .int f_next, .int f_where, .int f_token, .int f_number, .int f_sign, .int f_word, .int f_wrong, .int f_open, .int f_lines, .int f_acts, .ref h_line, .ref h_act, .ref h_pile, .ref h_comes, .ref h_leaves, .ref h_tried, .ref h_met])), (h_all, .inl (cI, 53700, .inl r_all)), (h_tried, .inl (cI, 6, .inl r_tried))] := hD
        refine lv_goto (tgt := 55) hx hb dX11_cost_51 (by decide) ?_
        have hP9 := hP.sub (ws' := (vX11_cost cI cZ h h_all h_has h_line h_act h_pile h_comes h_leaves h_tried h_met f_size f_next f_where f_token f_number f_sign f_word f_wrong f_open f_lines f_acts r_all r_met_2 r_tried)) [1, 2, 0, 3] rfl
        have hD9 := hD.sub (ws' := (vX11_cost cI cZ h h_all h_has h_line h_act h_pile h_comes h_leaves h_tried h_met f_size f_next f_where f_token f_number f_sign f_word f_wrong f_open f_lines f_acts r_all r_met_2 r_tried)) [1, 2, 0, 3] (by decide) rfl
        exact W.iret (v := r_5) hx hb hr (fun t ht hW => ⟨⟨r_5, (r_met_2, r_tried), rfl, hw, by rw [ht]; exact hP9, va_K.moved hW.alike hK, hD9⟩, hS.F ht⟩) hS.2.2 dX11_cost_55
    · have hw := hw.2 c_1
      refine lv_aload_n hx hb dX11_cost_19 rfl (lv_at hl 0 rfl) ?_
      refine va_get (D := (dC, dI)) (ci := 10) (v := .ref h_tried) (C := RX11) (T := TX11) (N := 20) hx hb hts gu_X11 hown hK hP 0 rfl rfl 18 (by decide) (hts _ gw_617) (fun _ h9 => h9) rfl dX11_cost_20 ?_
      refine lv_iload_n hx hb dX11_cost_23 rfl (lv_at hl 3 rfl) ?_
      refine lv_iload_n hx hb dX11_cost_24 rfl (lv_at hl 1 rfl) ?_
      refine lv_iconst (v := (3 : Int32)) hx hb dX11_cost_25 (by decide) ?_
      refine lv_iload_n hx hb dX11_cost_26 rfl (lv_at hl 3 rfl) ?_
      refine lv_imul hx hb dX11_cost_27 ?_
      refine lv_ishr hx hb dX11_cost_28 ?_
      refine lv_bipush (v := (7 : Int32)) hx hb dX11_cost_29 (by decide) ?_
      refine lv_iand hx hb dX11_cost_31 ?_
      obtain ⟨h_6, hw⟩ := hw
      refine va_iast hx hb hK hP hD hS 3 0 rfl rfl h_6 dX11_cost_32 (fun H locs hP hD hS => ?_)
      have hP : va_P (dC, dI) vwCl [(h, .inr (10, [.ref h_all, .ref h_has, .int f_size, .int f_next, .int f_where, .int f_token, .int f_number, .int f_sign, .int f_word, .int f_wrong, .int f_open, .int f_lines, .int f_acts, .ref h_line, .ref h_act, .ref h_pile, .ref h_comes, .ref h_leaves, .ref h_tried, .ref h_met])), (h_all, .inl (cI, 53700, .inl r_all)), (h_met, .inl (cZ, 8, .inl r_met)), (h_tried, .inl (cI, 6, .inl (upd r_tried x3.toNatClampNeg ((x1 >>> (((3 : Int32) * x3) &&& 31)) &&& (7 : Int32)))))] _ := hP
      have hD : va_D A [(h, .inr (10, [.ref h_all, .ref h_has, .int f_size, .int f_next, .int f_where, .int f_token, .int f_number, .int f_sign, .int f_word, .int f_wrong, .int f_open, .int f_lines, .int f_acts, .ref h_line, .ref h_act, .ref h_pile, .ref h_comes, .ref h_leaves, .ref h_tried, .ref h_met])), (h_all, .inl (cI, 53700, .inl r_all)), (h_met, .inl (cZ, 8, .inl r_met)), (h_tried, .inl (cI, 6, .inl (upd r_tried x3.toNatClampNeg ((x1 >>> (((3 : Int32) * x3) &&& 31)) &&& (7 : Int32)))))] := hD
      refine lv_iinc (v := (x3 + (1 : Int32))) (lv' := [(3, .int (x3 + (1 : Int32))), (0, .ref h), (1, .int x1), (2, .int x2)]) hx hb dX11_cost_33 hl (k := 3) rfl rfl (by decide) rfl (fun ls hl => ?_)
      refine lv_goto (tgt := 13) hx hb dX11_cost_36 (by decide) ?_
      exact ih x1 x2 (x3 + (1 : Int32)) r_all r_met (upd r_tried x3.toNatClampNeg ((x1 >>> (((3 : Int32) * x3) &&& 31)) &&& (7 : Int32))) _ _ ls hw (hP.sub [0, 1, 2, 3] rfl) (hD.sub [0, 1, 2, 3] (by decide) rfl) hS (lv_sub hl [1, 2, 3, 0] rfl)
set_option maxHeartbeats 4000000 in
set_option maxRecDepth 100000 in
theorem tX11_cost_e {p : Program} {l : Launch} {e : Env} {s : State} {m : MethodId} {args : Array Value} {below : List Frame} {meth : Method} {c : Code} {dC : Nat → ClassId} {dI : Nat → Nat → Nat} {cI cZ cO cW : ClassId} {A : Nat → Prop} {h h_all h_has h_line h_act h_pile h_comes h_leaves h_tried h_met : Nat} {f_size f_next f_where f_token f_number f_sign f_word f_wrong f_open f_lines f_acts : Int32} {Q : Int32 → (Nat → Int32) → (Nat → Int32) → Prop} (hC : Cx p s m args meth c cX11_cost (some .int) 4 GW RX11) (hK : va_K (dC, dI) vwCl (tysA cI cZ cO cW) s) (hA : ∀ q : Nat, s.heap.size ≤ q → A q) :
    ∀ (x1 : Int32) (x2 : Int32) (r_all : Nat → Int32) (r_met : Nat → Int32) (r_tried : Nat → Int32) (H : Heap) (locs : List Loc) (ls : Array Slot), wX11_cost Q x1 x2 r_all r_met r_tried → va_P (dC, dI) vwCl (vX11_cost cI cZ h h_all h_has h_line h_act h_pile h_comes h_leaves h_tried h_met f_size f_next f_where f_token f_number f_sign f_word f_wrong f_open f_lines f_acts r_all r_met r_tried) H → va_D A (vX11_cost cI cZ h h_all h_has h_line h_act h_pile h_comes h_leaves h_tried h_met f_size f_next f_where f_token f_number f_sign f_word f_wrong f_open f_lines f_acts r_all r_met r_tried) → va_S A s.heap H locs → lv_has ls 4 [(0, .ref h), (1, .int x1), (2, .int x2)] → W p l e rmX11_cost s m args below meth c H locs 0 0 (MQ below (qX11_cost dC dI cI cZ cO cW h h_all h_has h_line h_act h_pile h_comes h_leaves h_tried h_met f_size f_next f_where f_token f_number f_sign f_word f_wrong f_open f_lines f_acts r_all Q A) args s 0 0 A) (F0 m 0 ls []) := by
  obtain ⟨hx, hb, hr, hml, hown, hts, hlocks⟩ := id hC
  intro x1 x2 r_all r_met r_tried H locs ls hw hP hD hS hl
  refine lv_iload_n hx hb dX11_cost_0 rfl (lv_at hl 2 rfl) ?_
  refine lv_iconst (v := (1 : Int32)) hx hb dX11_cost_1 (by decide) ?_
  refine lv_iconst (v := (2 : Int32)) hx hb dX11_cost_2 (by decide) ?_
  have hPc := hP.sub (ws' := []) [] rfl
  have hDc := hD.sub (ws' := []) [] (by decide) rfl
  have hFc := va_free (wc := []) hD hS hA [] rfl
  refine va_calli (va_runS (As := [.int x2, .int (1 : Int32), .int (2 : Int32)]) (rest := []) ⟨hx, hb, hml, hown, hts⟩ (kX11_isIn l dC dI cI cZ cO cW H.size x2 (1 : Int32) (2 : Int32) _ hw) (va_cwS 3 hts (gS gw_625 gw_626 gw_622 (gM gw_623)) rfl rfl rfl (by decide +kernel) ⟨Nat.le_of_ble_eq_true rfl, Nat.le_of_ble_eq_true rfl⟩) (ps_of hPc hK hDc) rfl rfl hl.1 rfl (lv_room (Nat.le_of_ble_eq_true rfl)) dX11_cost_3 ⟨Nat.zero_le _, Nat.zero_le _⟩) hS (fun q _ h => hFc q h) hFc (fun r_7 u t H locs ht hvm hw hB hz1 hk1 hS => ?_)
  obtain ⟨hP, hD⟩ := af_join (wr := [(h, .inr (10, [.ref h_all, .ref h_has, .int f_size, .int f_next, .int f_where, .int f_token, .int f_number, .int f_sign, .int f_word, .int f_wrong, .int f_open, .int f_lines, .int f_acts, .ref h_line, .ref h_act, .ref h_pile, .ref h_comes, .ref h_leaves, .ref h_tried, .ref h_met])), (h_all, .inl (cI, 53700, .inl r_all)), (h_met, .inl (cZ, 8, .inl r_met)), (h_tried, .inl (cI, 6, .inl r_tried))]) (w1 := []) hB ht hP hD [] [0, 1, 2, 3] rfl rfl (by decide) (by decide) hk1 hFc
  have hP : va_P (dC, dI) vwCl [(h, .inr (10, [.ref h_all, .ref h_has, .int f_size, .int f_next, .int f_where, .int f_token, .int f_number, .int f_sign, .int f_word, .int f_wrong, .int f_open, .int f_lines, .int f_acts, .ref h_line, .ref h_act, .ref h_pile, .ref h_comes, .ref h_leaves, .ref h_tried, .ref h_met])), (h_all, .inl (cI, 53700, .inl r_all)), (h_met, .inl (cZ, 8, .inl r_met)), (h_tried, .inl (cI, 6, .inl r_tried))] _ := hP
  have hD : va_D A [(h, .inr (10, [.ref h_all, .ref h_has, .int f_size, .int f_next, .int f_where, .int f_token, .int f_number, .int f_sign, .int f_word, .int f_wrong, .int f_open, .int f_lines, .int f_acts, .ref h_line, .ref h_act, .ref h_pile, .ref h_comes, .ref h_leaves, .ref h_tried, .ref h_met])), (h_all, .inl (cI, 53700, .inl r_all)), (h_met, .inl (cZ, 8, .inl r_met)), (h_tried, .inl (cI, 6, .inl r_tried))] := hD
  refine lv_if_ne (tgt := 11) hx hb dX11_cost_6 (by decide) (fun c_8 => ?_) (fun c_8 => ?_)
  · have hw := hw.1 c_8
    refine lv_iconst (v := (0 : Int32)) hx hb dX11_cost_11 (by decide) ?_
    refine lv_istore_n (lv' := [(3, .int (0 : Int32)), (0, .ref h), (1, .int x1), (2, .int x2)]) hx hb dX11_cost_12 rfl hl (by decide) rfl (fun ls hl => ?_)
    obtain ⟨n_9, hw⟩ := hw
    exact tX11_cost_13 hC hK hA  n_9 x1 x2 (0 : Int32) r_all r_met r_tried _ _ ls hw (hP.sub [0, 1, 2, 3] rfl) (hD.sub [0, 1, 2, 3] (by decide) rfl) hS (lv_sub hl [1, 2, 3, 0] rfl)
  · have hw := hw.2 c_8
    refine lv_iconst (v := (-1 : Int32)) hx hb dX11_cost_9 (by decide) ?_
    have hP9 := hP.sub (ws' := (vX11_cost cI cZ h h_all h_has h_line h_act h_pile h_comes h_leaves h_tried h_met f_size f_next f_where f_token f_number f_sign f_word f_wrong f_open f_lines f_acts r_all r_met r_tried)) [0, 1, 2, 3] rfl
    have hD9 := hD.sub (ws' := (vX11_cost cI cZ h h_all h_has h_line h_act h_pile h_comes h_leaves h_tried h_met f_size f_next f_where f_token f_number f_sign f_word f_wrong f_open f_lines f_acts r_all r_met r_tried)) [0, 1, 2, 3] (by decide) rfl
    exact W.iret (v := (-1 : Int32)) hx hb hr (fun t ht hW => ⟨⟨(-1 : Int32), (r_met, r_tried), rfl, hw, by rw [ht]; exact hP9, va_K.moved hW.alike hK, hD9⟩, hS.F ht⟩) hS.2.2 dX11_cost_10
set_option maxHeartbeats 4000000 in
set_option maxRecDepth 100000 in
theorem kX11_cost (l : Launch) (dC : Nat → ClassId) (dI : Nat → Nat → Nat) (cI cZ cO cW : ClassId) (h h_all h_has h_line h_act h_pile h_comes h_leaves h_tried h_met : Nat)  (sz : Nat) (f_size : Int32) (f_next : Int32) (f_where : Int32) (f_token : Int32) (f_number : Int32) (f_sign : Int32) (f_word : Int32) (f_wrong : Int32) (f_open : Int32) (f_lines : Int32) (f_acts : Int32) (r_all : Nat → Int32) (r_met : Nat → Int32) (r_tried : Nat → Int32) (x1 : Int32) (x2 : Int32) (Q : Int32 → (Nat → Int32) → (Nat → Int32) → Prop) (hw : wX11_cost Q x1 x2 r_all r_met r_tried) : Met l yX11_cost zsX11_cost rmX11_cost (va_Pc [.ref h, .int x1, .int x2] (fun U => U.heap.size = sz ∧ va_P (dC, dI) vwCl (vX11_cost cI cZ h h_all h_has h_line h_act h_pile h_comes h_leaves h_tried h_met f_size f_next f_where f_token f_number f_sign f_word f_wrong f_open f_lines f_acts r_all r_met r_tried) U.heap ∧ va_K (dC, dI) vwCl (tysA cI cZ cO cW) U ∧ va_D (fun _ => True) (vX11_cost cI cZ h h_all h_has h_line h_act h_pile h_comes h_leaves h_tried h_met f_size f_next f_where f_token f_number f_sign f_word f_wrong f_open f_lines f_acts r_all r_met r_tried))) (qX11_cost dC dI cI cZ cO cW h h_all h_has h_line h_act h_pile h_comes h_leaves h_tried h_met f_size f_next f_where f_token f_number f_sign f_word f_wrong f_open f_lines f_acts r_all Q (va_A (vX11_cost cI cZ h h_all h_has h_line h_act h_pile h_comes h_leaves h_tried h_met f_size f_next f_where f_token f_number f_sign f_word f_wrong f_open f_lines f_acts r_all r_met r_tried) sz)) 0 0 (va_A (vX11_cost cI cZ h h_all h_has h_line h_act h_pile h_comes h_leaves h_tried h_met f_size f_next f_where f_token f_number f_sign f_word f_wrong f_open f_lines f_acts r_all r_met r_tried) sz) := by
  refine Met.ofW (cc := cX11_cost) (maxL := 4) (ret := (some .int)) (by decide) rfl ?_
  intro p e s m args below meth c s₁ B hml hv
  obtain ⟨rfl, hsz, hP, hK, hD0⟩ := hv
  subst hsz
  have hC : Cx p s m ([.ref h, .int x1, .int x2] : List Value).toArray meth c cX11_cost (some .int) 4 GW RX11 := ⟨B.exec, B.bytes, B.returns, hml, findClass_of_methodNamed B.named, fun w h => atoms_spec (ws := zsX11_cost) B.pre w (List.mem_cons_of_mem _ h), B.notSynchronized⟩
  have hD := hD0.self (sz := s.heap.size)
  generalize hAe : va_A (vX11_cost cI cZ h h_all h_has h_line h_act h_pile h_comes h_leaves h_tried h_met f_size f_next f_where f_token f_number f_sign f_word f_wrong f_open f_lines f_acts r_all r_met r_tried) s.heap.size = A at hD ⊢
  have hA : ∀ q : Nat, s.heap.size ≤ q → A q := fun q h => by rw [← hAe]; exact Or.inr h
  have hl := lv_entry ([.ref h, .int x1, .int x2]) (n := 4) (Nat.le_of_ble_eq_true rfl)
  rw [lg_entry_eq]
  generalize (lg_sl ([.ref h, .int x1, .int x2]) ++ List.replicate (4 - (lg_sl ([.ref h, .int x1, .int x2])).length) Slot.unset).toArray = ls at hl ⊢
  exact tX11_cost_e hC hK hA x1 x2 r_all r_met r_tried _ _ ls hw hP hD va_S.rf hl
