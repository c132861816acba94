theorem dX11_isIn_0 : decode cX11_isIn 0 = .ok (.iload_n 0, 1) := by decide +kernel
theorem dX11_isIn_1 : decode cX11_isIn 1 = .ok (.iload_n 1, 1) := by decide +kernel
theorem dX11_isIn_2 : decode cX11_isIn 2 = .ok (.if_icmp .lt 12, 3) := by decide +kernel
theorem dX11_isIn_5 : decode cX11_isIn 5 = .ok (.iload_n 0, 1) := by decide +kernel
theorem dX11_isIn_6 : decode cX11_isIn 6 = .ok (.iload_n 2, 1) := by decide +kernel
theorem dX11_isIn_7 : decode cX11_isIn 7 = .ok (.if_icmp .gt 7, 3) := by decide +kernel
theorem dX11_isIn_10 : decode cX11_isIn 10 = .ok (.iconst 1, 1) := by decide +kernel
theorem dX11_isIn_11 : decode cX11_isIn 11 = .ok (.goto 4, 3) := by decide +kernel
theorem dX11_isIn_14 : decode cX11_isIn 14 = .ok (.iconst 0, 1) := by decide +kernel
theorem dX11_isIn_15 : decode cX11_isIn 15 = .ok (.ireturn, 1) := by decide +kernel

theorem dX11_begins_0 : decode cX11_begins 0 = .ok (.aload_n 0, 1) := by decide +kernel
theorem dX11_begins_1 : decode cX11_begins 1 = .ok (.getfield 8, 3) := by decide +kernel
theorem dX11_begins_4 : decode cX11_begins 4 = .ok (.iconst 0, 1) := by decide +kernel
theorem dX11_begins_5 : decode cX11_begins 5 = .ok (.iload_n 1, 1) := by decide +kernel
theorem dX11_begins_6 : decode cX11_begins 6 = .ok (.iastore, 1) := by decide +kernel
theorem dX11_begins_7 : decode cX11_begins 7 = .ok (.aload_n 0, 1) := by decide +kernel
theorem dX11_begins_8 : decode cX11_begins 8 = .ok (.getfield 8, 3) := by decide +kernel
theorem dX11_begins_11 : decode cX11_begins 11 = .ok (.iconst 1, 1) := by decide +kernel
theorem dX11_begins_12 : decode cX11_begins 12 = .ok (.iload_n 2, 1) := by decide +kernel
theorem dX11_begins_13 : decode cX11_begins 13 = .ok (.iastore, 1) := by decide +kernel
theorem dX11_begins_14 : decode cX11_begins 14 = .ok (.aload_n 0, 1) := by decide +kernel
theorem dX11_begins_15 : decode cX11_begins 15 = .ok (.getfield 8, 3) := by decide +kernel
theorem dX11_begins_18 : decode cX11_begins 18 = .ok (.iconst 2, 1) := by decide +kernel
theorem dX11_begins_19 : decode cX11_begins 19 = .ok (.iconst 0, 1) := by decide +kernel
theorem dX11_begins_20 : decode cX11_begins 20 = .ok (.iastore, 1) := by decide +kernel
theorem dX11_begins_21 : decode cX11_begins 21 = .ok (.aload_n 0, 1) := by decide +kernel
theorem dX11_begins_22 : decode cX11_begins 22 = .ok (.getfield 8, 3) := by decide +kernel
theorem dX11_begins_25 : decode cX11_begins 25 = .ok (.iconst 3, 1) := by decide +kernel
theorem dX11_begins_26 : decode cX11_begins 26 = .ok (.iconst 0, 1) := by decide +kernel
theorem dX11_begins_27 : decode cX11_begins 27 = .ok (.iastore, 1) := by decide +kernel
theorem dX11_begins_28 : decode cX11_begins 28 = .ok (.aload_n 0, 1) := by decide +kernel
theorem dX11_begins_29 : decode cX11_begins 29 = .ok (.getfield 8, 3) := by decide +kernel
theorem dX11_begins_32 : decode cX11_begins 32 = .ok (.iconst 4, 1) := by decide +kernel
theorem dX11_begins_33 : decode cX11_begins 33 = .ok (.iconst 0, 1) := by decide +kernel
theorem dX11_begins_34 : decode cX11_begins 34 = .ok (.iastore, 1) := by decide +kernel
theorem dX11_begins_35 : decode cX11_begins 35 = .ok (.aload_n 0, 1) := by decide +kernel
theorem dX11_begins_36 : decode cX11_begins 36 = .ok (.getfield 8, 3) := by decide +kernel
theorem dX11_begins_39 : decode cX11_begins 39 = .ok (.iconst 5, 1) := by decide +kernel
theorem dX11_begins_40 : decode cX11_begins 40 = .ok (.iconst 0, 1) := by decide +kernel
theorem dX11_begins_41 : decode cX11_begins 41 = .ok (.iastore, 1) := by decide +kernel
theorem dX11_begins_42 : decode cX11_begins 42 = .ok (.aload_n 0, 1) := by decide +kernel
theorem dX11_begins_43 : decode cX11_begins 43 = .ok (.getfield 8, 3) := by decide +kernel
theorem dX11_begins_46 : decode cX11_begins 46 = .ok (.bipush 6, 2) := by decide +kernel
theorem dX11_begins_48 : decode cX11_begins 48 = .ok (.iconst 0, 1) := by decide +kernel
theorem dX11_begins_49 : decode cX11_begins 49 = .ok (.iastore, 1) := by decide +kernel
theorem dX11_begins_50 : decode cX11_begins 50 = .ok (.iconst 0, 1) := by decide +kernel
theorem dX11_begins_51 : decode cX11_begins 51 = .ok (.istore_n 3, 1) := by decide +kernel
theorem dX11_begins_52 : decode cX11_begins 52 = .ok (.iload_n 3, 1) := by decide +kernel
theorem dX11_begins_53 : decode cX11_begins 53 = .ok (.bipush 64, 2) := by decide +kernel
theorem dX11_begins_55 : decode cX11_begins 55 = .ok (.if_icmp .ge 58, 3) := by decide +kernel
theorem dX11_begins_58 : decode cX11_begins 58 = .ok (.iconst 0, 1) := by decide +kernel
theorem dX11_begins_59 : decode cX11_begins 59 = .ok (.istore 4, 2) := by decide +kernel
theorem dX11_begins_61 : decode cX11_begins 61 = .ok (.iload 4, 2) := by decide +kernel
theorem dX11_begins_63 : decode cX11_begins 63 = .ok (.iconst 5, 1) := by decide +kernel
theorem dX11_begins_64 : decode cX11_begins 64 = .ok (.if_icmp .ge 43, 3) := by decide +kernel
theorem dX11_begins_67 : decode cX11_begins 67 = .ok (.aload_n 0, 1) := by decide +kernel
theorem dX11_begins_68 : decode cX11_begins 68 = .ok (.getfield 8, 3) := by decide +kernel
theorem dX11_begins_71 : decode cX11_begins 71 = .ok (.bipush 40, 2) := by decide +kernel
theorem dX11_begins_73 : decode cX11_begins 73 = .ok (.iconst 5, 1) := by decide +kernel
theorem dX11_begins_74 : decode cX11_begins 74 = .ok (.iload_n 3, 1) := by decide +kernel
theorem dX11_begins_75 : decode cX11_begins 75 = .ok (.imul, 1) := by decide +kernel
theorem dX11_begins_76 : decode cX11_begins 76 = .ok (.iadd, 1) := by decide +kernel
theorem dX11_begins_77 : decode cX11_begins 77 = .ok (.iload 4, 2) := by decide +kernel
theorem dX11_begins_79 : decode cX11_begins 79 = .ok (.iadd, 1) := by decide +kernel
theorem dX11_begins_80 : decode cX11_begins 80 = .ok (.iload 4, 2) := by decide +kernel
theorem dX11_begins_82 : decode cX11_begins 82 = .ok (.ifCond .ne 7, 3) := by decide +kernel
theorem dX11_begins_85 : decode cX11_begins 85 = .ok (.iconst 1, 1) := by decide +kernel
theorem dX11_begins_86 : decode cX11_begins 86 = .ok (.goto 14, 3) := by decide +kernel
theorem dX11_begins_89 : decode cX11_begins 89 = .ok (.iload 4, 2) := by decide +kernel
theorem dX11_begins_91 : decode cX11_begins 91 = .ok (.iconst 3, 1) := by decide +kernel
theorem dX11_begins_92 : decode cX11_begins 92 = .ok (.if_icmp .ne 7, 3) := by decide +kernel
theorem dX11_begins_95 : decode cX11_begins 95 = .ok (.iconst (-1), 1) := by decide +kernel
theorem dX11_begins_96 : decode cX11_begins 96 = .ok (.goto 4, 3) := by decide +kernel
theorem dX11_begins_99 : decode cX11_begins 99 = .ok (.iconst 0, 1) := by decide +kernel
theorem dX11_begins_100 : decode cX11_begins 100 = .ok (.iastore, 1) := by decide +kernel
theorem dX11_begins_101 : decode cX11_begins 101 = .ok (.iinc 4 1, 3) := by decide +kernel
theorem dX11_begins_104 : decode cX11_begins 104 = .ok (.goto (-43), 3) := by decide +kernel
theorem dX11_begins_107 : decode cX11_begins 107 = .ok (.iinc 3 1, 3) := by decide +kernel
theorem dX11_begins_110 : decode cX11_begins 110 = .ok (.goto (-58), 3) := by decide +kernel
theorem dX11_begins_113 : decode cX11_begins 113 = .ok (.iconst 0, 1) := by decide +kernel
theorem dX11_begins_114 : decode cX11_begins 114 = .ok (.istore_n 3, 1) := by decide +kernel
theorem dX11_begins_115 : decode cX11_begins 115 = .ok (.iload_n 3, 1) := by decide +kernel
theorem dX11_begins_116 : decode cX11_begins 116 = .ok (.sipush 3000, 3) := by decide +kernel
theorem dX11_begins_119 : decode cX11_begins 119 = .ok (.if_icmp .ge 20, 3) := by decide +kernel
theorem dX11_begins_122 : decode cX11_begins 122 = .ok (.aload_n 0, 1) := by decide +kernel
theorem dX11_begins_123 : decode cX11_begins 123 = .ok (.getfield 8, 3) := by decide +kernel
theorem dX11_begins_126 : decode cX11_begins 126 = .ok (.sipush 460, 3) := by decide +kernel
theorem dX11_begins_129 : decode cX11_begins 129 = .ok (.iload_n 3, 1) := by decide +kernel
theorem dX11_begins_130 : decode cX11_begins 130 = .ok (.iadd, 1) := by decide +kernel
theorem dX11_begins_131 : decode cX11_begins 131 = .ok (.iconst 0, 1) := by decide +kernel
theorem dX11_begins_132 : decode cX11_begins 132 = .ok (.iastore, 1) := by decide +kernel
theorem dX11_begins_133 : decode cX11_begins 133 = .ok (.iinc 3 1, 3) := by decide +kernel
theorem dX11_begins_136 : decode cX11_begins 136 = .ok (.goto (-21), 3) := by decide +kernel
theorem dX11_begins_139 : decode cX11_begins 139 = .ok (.return_, 1) := by decide +kernel

theorem dX11_gulf_0 : decode cX11_gulf 0 = .ok (.iload_n 1, 1) := by decide +kernel
theorem dX11_gulf_1 : decode cX11_gulf 1 = .ok (.iconst 1, 1) := by decide +kernel
theorem dX11_gulf_2 : decode cX11_gulf 2 = .ok (.bipush 8, 2) := by decide +kernel
theorem dX11_gulf_4 : decode cX11_gulf 4 = .ok (.invokestatic 43, 3) := by decide +kernel
theorem dX11_gulf_7 : decode cX11_gulf 7 = .ok (.ifCond .eq 13, 3) := by decide +kernel
theorem dX11_gulf_10 : decode cX11_gulf 10 = .ok (.iload_n 2, 1) := by decide +kernel
theorem dX11_gulf_11 : decode cX11_gulf 11 = .ok (.iconst 1, 1) := by decide +kernel
theorem dX11_gulf_12 : decode cX11_gulf 12 = .ok (.bipush 8, 2) := by decide +kernel
theorem dX11_gulf_14 : decode cX11_gulf 14 = .ok (.invokestatic 43, 3) := by decide +kernel
theorem dX11_gulf_17 : decode cX11_gulf 17 = .ok (.ifCond .ne 5, 3) := by decide +kernel
theorem dX11_gulf_20 : decode cX11_gulf 20 = .ok (.iconst 0, 1) := by decide +kernel
theorem dX11_gulf_21 : decode cX11_gulf 21 = .ok (.ireturn, 1) := by decide +kernel
theorem dX11_gulf_22 : decode cX11_gulf 22 = .ok (.aload_n 0, 1) := by decide +kernel
theorem dX11_gulf_23 : decode cX11_gulf 23 = .ok (.iload_n 1, 1) := by decide +kernel
theorem dX11_gulf_24 : decode cX11_gulf 24 = .ok (.iload_n 2, 1) := by decide +kernel
theorem dX11_gulf_25 : decode cX11_gulf 25 = .ok (.invokevirtual 39, 3) := by decide +kernel
theorem dX11_gulf_28 : decode cX11_gulf 28 = .ok (.iconst 1, 1) := by decide +kernel
theorem dX11_gulf_29 : decode cX11_gulf 29 = .ok (.ireturn, 1) := by decide +kernel

theorem dX11_isCell_0 : decode cX11_isCell 0 = .ok (.iload_n 1, 1) := by decide +kernel
theorem dX11_isCell_1 : decode cX11_isCell 1 = .ok (.iconst 0, 1) := by decide +kernel
theorem dX11_isCell_2 : decode cX11_isCell 2 = .ok (.aload_n 0, 1) := by decide +kernel
theorem dX11_isCell_3 : decode cX11_isCell 3 = .ok (.getfield 8, 3) := by decide +kernel
theorem dX11_isCell_6 : decode cX11_isCell 6 = .ok (.iconst 0, 1) := by decide +kernel
theorem dX11_isCell_7 : decode cX11_isCell 7 = .ok (.iaload, 1) := by decide +kernel
theorem dX11_isCell_8 : decode cX11_isCell 8 = .ok (.iconst 1, 1) := by decide +kernel
theorem dX11_isCell_9 : decode cX11_isCell 9 = .ok (.isub, 1) := by decide +kernel
theorem dX11_isCell_10 : decode cX11_isCell 10 = .ok (.invokestatic 43, 3) := by decide +kernel
theorem dX11_isCell_13 : decode cX11_isCell 13 = .ok (.ifCond .eq 23, 3) := by decide +kernel
theorem dX11_isCell_16 : decode cX11_isCell 16 = .ok (.iload_n 2, 1) := by decide +kernel
theorem dX11_isCell_17 : decode cX11_isCell 17 = .ok (.iconst 0, 1) := by decide +kernel
theorem dX11_isCell_18 : decode cX11_isCell 18 = .ok (.aload_n 0, 1) := by decide +kernel
theorem dX11_isCell_19 : decode cX11_isCell 19 = .ok (.getfield 8, 3) := by decide +kernel
theorem dX11_isCell_22 : decode cX11_isCell 22 = .ok (.iconst 1, 1) := by decide +kernel
theorem dX11_isCell_23 : decode cX11_isCell 23 = .ok (.iaload, 1) := by decide +kernel
theorem dX11_isCell_24 : decode cX11_isCell 24 = .ok (.iconst 1, 1) := by decide +kernel
theorem dX11_isCell_25 : decode cX11_isCell 25 = .ok (.isub, 1) := by decide +kernel
theorem dX11_isCell_26 : decode cX11_isCell 26 = .ok (.invokestatic 43, 3) := by decide +kernel
theorem dX11_isCell_29 : decode cX11_isCell 29 = .ok (.ifCond .eq 7, 3) := by decide +kernel
theorem dX11_isCell_32 : decode cX11_isCell 32 = .ok (.iconst 1, 1) := by decide +kernel
theorem dX11_isCell_33 : decode cX11_isCell 33 = .ok (.goto 4, 3) := by decide +kernel
theorem dX11_isCell_36 : decode cX11_isCell 36 = .ok (.iconst 0, 1) := by decide +kernel
theorem dX11_isCell_37 : decode cX11_isCell 37 = .ok (.ireturn, 1) := by decide +kernel

theorem dX11_of_0 : decode cX11_of 0 = .ok (.aload_n 0, 1) := by decide +kernel
theorem dX11_of_1 : decode cX11_of 1 = .ok (.getfield 8, 3) := by decide +kernel
theorem dX11_of_4 : decode cX11_of 4 = .ok (.bipush 40, 2) := by decide +kernel
theorem dX11_of_6 : decode cX11_of 6 = .ok (.iconst 5, 1) := by decide +kernel
theorem dX11_of_7 : decode cX11_of 7 = .ok (.bipush 8, 2) := by decide +kernel
theorem dX11_of_9 : decode cX11_of 9 = .ok (.iload_n 1, 1) := by decide +kernel
theorem dX11_of_10 : decode cX11_of 10 = .ok (.imul, 1) := by decide +kernel
theorem dX11_of_11 : decode cX11_of 11 = .ok (.iload_n 2, 1) := by decide +kernel
theorem dX11_of_12 : decode cX11_of 12 = .ok (.iadd, 1) := by decide +kernel
theorem dX11_of_13 : decode cX11_of 13 = .ok (.imul, 1) := by decide +kernel
theorem dX11_of_14 : decode cX11_of 14 = .ok (.iadd, 1) := by decide +kernel
theorem dX11_of_15 : decode cX11_of 15 = .ok (.iload_n 3, 1) := by decide +kernel
theorem dX11_of_16 : decode cX11_of 16 = .ok (.iadd, 1) := by decide +kernel
theorem dX11_of_17 : decode cX11_of 17 = .ok (.iaload, 1) := by decide +kernel
theorem dX11_of_18 : decode cX11_of 18 = .ok (.ireturn, 1) := by decide +kernel

theorem dX11_sets_0 : decode cX11_sets 0 = .ok (.aload_n 0, 1) := by decide +kernel
theorem dX11_sets_1 : decode cX11_sets 1 = .ok (.getfield 8, 3) := by decide +kernel
theorem dX11_sets_4 : decode cX11_sets 4 = .ok (.bipush 40, 2) := by decide +kernel
theorem dX11_sets_6 : decode cX11_sets 6 = .ok (.iconst 5, 1) := by decide +kernel
theorem dX11_sets_7 : decode cX11_sets 7 = .ok (.bipush 8, 2) := by decide +kernel
theorem dX11_sets_9 : decode cX11_sets 9 = .ok (.iload_n 1, 1) := by decide +kernel
theorem dX11_sets_10 : decode cX11_sets 10 = .ok (.imul, 1) := by decide +kernel
theorem dX11_sets_11 : decode cX11_sets 11 = .ok (.iload_n 2, 1) := by decide +kernel
theorem dX11_sets_12 : decode cX11_sets 12 = .ok (.iadd, 1) := by decide +kernel
theorem dX11_sets_13 : decode cX11_sets 13 = .ok (.imul, 1) := by decide +kernel
theorem dX11_sets_14 : decode cX11_sets 14 = .ok (.iadd, 1) := by decide +kernel
theorem dX11_sets_15 : decode cX11_sets 15 = .ok (.iload_n 3, 1) := by decide +kernel
theorem dX11_sets_16 : decode cX11_sets 16 = .ok (.iadd, 1) := by decide +kernel
theorem dX11_sets_17 : decode cX11_sets 17 = .ok (.iload 4, 2) := by decide +kernel
theorem dX11_sets_19 : decode cX11_sets 19 = .ok (.iastore, 1) := by decide +kernel
theorem dX11_sets_20 : decode cX11_sets 20 = .ok (.return_, 1) := by decide +kernel

theorem dX11_isSea_0 : decode cX11_isSea 0 = .ok (.aload_n 0, 1) := by decide +kernel
theorem dX11_isSea_1 : decode cX11_isSea 1 = .ok (.iload_n 1, 1) := by decide +kernel
theorem dX11_isSea_2 : decode cX11_isSea 2 = .ok (.iload_n 2, 1) := by decide +kernel
theorem dX11_isSea_3 : decode cX11_isSea 3 = .ok (.invokevirtual 47, 3) := by decide +kernel
theorem dX11_isSea_6 : decode cX11_isSea 6 = .ok (.ifCond .eq 18, 3) := by decide +kernel
theorem dX11_isSea_9 : decode cX11_isSea 9 = .ok (.aload_n 0, 1) := by decide +kernel
theorem dX11_isSea_10 : decode cX11_isSea 10 = .ok (.iload_n 1, 1) := by decide +kernel
theorem dX11_isSea_11 : decode cX11_isSea 11 = .ok (.iload_n 2, 1) := by decide +kernel
theorem dX11_isSea_12 : decode cX11_isSea 12 = .ok (.iconst 0, 1) := by decide +kernel
theorem dX11_isSea_13 : decode cX11_isSea 13 = .ok (.invokevirtual 51, 3) := by decide +kernel
theorem dX11_isSea_16 : decode cX11_isSea 16 = .ok (.iconst 1, 1) := by decide +kernel
theorem dX11_isSea_17 : decode cX11_isSea 17 = .ok (.if_icmp .ne 7, 3) := by decide +kernel
theorem dX11_isSea_20 : decode cX11_isSea 20 = .ok (.iconst 1, 1) := by decide +kernel
theorem dX11_isSea_21 : decode cX11_isSea 21 = .ok (.goto 4, 3) := by decide +kernel
theorem dX11_isSea_24 : decode cX11_isSea 24 = .ok (.iconst 0, 1) := by decide +kernel
theorem dX11_isSea_25 : decode cX11_isSea 25 = .ok (.ireturn, 1) := by decide +kernel

theorem dX11_its_0 : decode cX11_its 0 = .ok (.aload_n 0, 1) := by decide +kernel
theorem dX11_its_1 : decode cX11_its 1 = .ok (.getfield 8, 3) := by decide +kernel
theorem dX11_its_4 : decode cX11_its 4 = .ok (.sipush 360, 3) := by decide +kernel
theorem dX11_its_7 : decode cX11_its 7 = .ok (.bipush 12, 2) := by decide +kernel
theorem dX11_its_9 : decode cX11_its 9 = .ok (.iload_n 1, 1) := by decide +kernel
theorem dX11_its_10 : decode cX11_its 10 = .ok (.imul, 1) := by decide +kernel
theorem dX11_its_11 : decode cX11_its 11 = .ok (.iadd, 1) := by decide +kernel
theorem dX11_its_12 : decode cX11_its 12 = .ok (.iload_n 2, 1) := by decide +kernel
theorem dX11_its_13 : decode cX11_its 13 = .ok (.iadd, 1) := by decide +kernel
theorem dX11_its_14 : decode cX11_its 14 = .ok (.iaload, 1) := by decide +kernel
theorem dX11_its_15 : decode cX11_its 15 = .ok (.ireturn, 1) := by decide +kernel

theorem dX11_ships_0 : decode cX11_ships 0 = .ok (.aload_n 0, 1) := by decide +kernel
theorem dX11_ships_1 : decode cX11_ships 1 = .ok (.getfield 8, 3) := by decide +kernel
theorem dX11_ships_4 : decode cX11_ships 4 = .ok (.sipush 360, 3) := by decide +kernel
theorem dX11_ships_7 : decode cX11_ships 7 = .ok (.bipush 12, 2) := by decide +kernel
theorem dX11_ships_9 : decode cX11_ships 9 = .ok (.iload_n 1, 1) := by decide +kernel
theorem dX11_ships_10 : decode cX11_ships 10 = .ok (.imul, 1) := by decide +kernel
theorem dX11_ships_11 : decode cX11_ships 11 = .ok (.iadd, 1) := by decide +kernel
theorem dX11_ships_12 : decode cX11_ships 12 = .ok (.iload_n 2, 1) := by decide +kernel
theorem dX11_ships_13 : decode cX11_ships 13 = .ok (.iadd, 1) := by decide +kernel
theorem dX11_ships_14 : decode cX11_ships 14 = .ok (.iload_n 3, 1) := by decide +kernel
theorem dX11_ships_15 : decode cX11_ships 15 = .ok (.iastore, 1) := by decide +kernel
theorem dX11_ships_16 : decode cX11_ships 16 = .ok (.return_, 1) := by decide +kernel

theorem dX11_shipAt_0 : decode cX11_shipAt 0 = .ok (.iconst 0, 1) := by decide +kernel
theorem dX11_shipAt_1 : decode cX11_shipAt 1 = .ok (.istore_n 3, 1) := by decide +kernel
theorem dX11_shipAt_2 : decode cX11_shipAt 2 = .ok (.iload_n 3, 1) := by decide +kernel
theorem dX11_shipAt_3 : decode cX11_shipAt 3 = .ok (.aload_n 0, 1) := by decide +kernel
theorem dX11_shipAt_4 : decode cX11_shipAt 4 = .ok (.getfield 8, 3) := by decide +kernel
theorem dX11_shipAt_7 : decode cX11_shipAt 7 = .ok (.iconst 2, 1) := by decide +kernel
theorem dX11_shipAt_8 : decode cX11_shipAt 8 = .ok (.iaload, 1) := by decide +kernel
theorem dX11_shipAt_9 : decode cX11_shipAt 9 = .ok (.if_icmp .ge 31, 3) := by decide +kernel
theorem dX11_shipAt_12 : decode cX11_shipAt 12 = .ok (.aload_n 0, 1) := by decide +kernel
theorem dX11_shipAt_13 : decode cX11_shipAt 13 = .ok (.iload_n 3, 1) := by decide +kernel
theorem dX11_shipAt_14 : decode cX11_shipAt 14 = .ok (.iconst 2, 1) := by decide +kernel
theorem dX11_shipAt_15 : decode cX11_shipAt 15 = .ok (.invokevirtual 55, 3) := by decide +kernel
theorem dX11_shipAt_18 : decode cX11_shipAt 18 = .ok (.iload_n 1, 1) := by decide +kernel
theorem dX11_shipAt_19 : decode cX11_shipAt 19 = .ok (.if_icmp .ne 15, 3) := by decide +kernel
theorem dX11_shipAt_22 : decode cX11_shipAt 22 = .ok (.aload_n 0, 1) := by decide +kernel
theorem dX11_shipAt_23 : decode cX11_shipAt 23 = .ok (.iload_n 3, 1) := by decide +kernel
theorem dX11_shipAt_24 : decode cX11_shipAt 24 = .ok (.iconst 3, 1) := by decide +kernel
theorem dX11_shipAt_25 : decode cX11_shipAt 25 = .ok (.invokevirtual 55, 3) := by decide +kernel
theorem dX11_shipAt_28 : decode cX11_shipAt 28 = .ok (.iload_n 2, 1) := by decide +kernel
theorem dX11_shipAt_29 : decode cX11_shipAt 29 = .ok (.if_icmp .ne 5, 3) := by decide +kernel
theorem dX11_shipAt_32 : decode cX11_shipAt 32 = .ok (.iload_n 3, 1) := by decide +kernel
theorem dX11_shipAt_33 : decode cX11_shipAt 33 = .ok (.ireturn, 1) := by decide +kernel
theorem dX11_shipAt_34 : decode cX11_shipAt 34 = .ok (.iinc 3 1, 3) := by decide +kernel
theorem dX11_shipAt_37 : decode cX11_shipAt 37 = .ok (.goto (-35), 3) := by decide +kernel
theorem dX11_shipAt_40 : decode cX11_shipAt 40 = .ok (.iconst (-1), 1) := by decide +kernel
theorem dX11_shipAt_41 : decode cX11_shipAt 41 = .ok (.ireturn, 1) := by decide +kernel

theorem dX11_land_0 : decode cX11_land 0 = .ok (.aload_n 0, 1) := by decide +kernel
theorem dX11_land_1 : decode cX11_land 1 = .ok (.iload_n 1, 1) := by decide +kernel
theorem dX11_land_2 : decode cX11_land 2 = .ok (.iload_n 2, 1) := by decide +kernel
theorem dX11_land_3 : decode cX11_land 3 = .ok (.invokevirtual 47, 3) := by decide +kernel
theorem dX11_land_6 : decode cX11_land 6 = .ok (.ifCond .eq 31, 3) := by decide +kernel
theorem dX11_land_9 : decode cX11_land 9 = .ok (.aload_n 0, 1) := by decide +kernel
theorem dX11_land_10 : decode cX11_land 10 = .ok (.iload_n 1, 1) := by decide +kernel
theorem dX11_land_11 : decode cX11_land 11 = .ok (.iload_n 2, 1) := by decide +kernel
theorem dX11_land_12 : decode cX11_land 12 = .ok (.iconst 0, 1) := by decide +kernel
theorem dX11_land_13 : decode cX11_land 13 = .ok (.invokevirtual 51, 3) := by decide +kernel
theorem dX11_land_16 : decode cX11_land 16 = .ok (.ifCond .ne 7, 3) := by decide +kernel
theorem dX11_land_19 : decode cX11_land 19 = .ok (.iconst 1, 1) := by decide +kernel
theorem dX11_land_20 : decode cX11_land 20 = .ok (.goto 4, 3) := by decide +kernel
theorem dX11_land_23 : decode cX11_land 23 = .ok (.iconst 0, 1) := by decide +kernel
theorem dX11_land_24 : decode cX11_land 24 = .ok (.iload_n 3, 1) := by decide +kernel
theorem dX11_land_25 : decode cX11_land 25 = .ok (.if_icmp .eq 12, 3) := by decide +kernel
theorem dX11_land_28 : decode cX11_land 28 = .ok (.aload_n 0, 1) := by decide +kernel
theorem dX11_land_29 : decode cX11_land 29 = .ok (.iload_n 1, 1) := by decide +kernel
theorem dX11_land_30 : decode cX11_land 30 = .ok (.iload_n 2, 1) := by decide +kernel
theorem dX11_land_31 : decode cX11_land 31 = .ok (.invokevirtual 59, 3) := by decide +kernel
theorem dX11_land_34 : decode cX11_land 34 = .ok (.ifCond .lt 5, 3) := by decide +kernel
theorem dX11_land_37 : decode cX11_land 37 = .ok (.iconst 0, 1) := by decide +kernel
theorem dX11_land_38 : decode cX11_land 38 = .ok (.ireturn, 1) := by decide +kernel
theorem dX11_land_39 : decode cX11_land 39 = .ok (.aload_n 0, 1) := by decide +kernel
theorem dX11_land_40 : decode cX11_land 40 = .ok (.getfield 8, 3) := by decide +kernel
theorem dX11_land_43 : decode cX11_land 43 = .ok (.iconst 4, 1) := by decide +kernel
theorem dX11_land_44 : decode cX11_land 44 = .ok (.dup2, 1) := by decide +kernel
theorem dX11_land_45 : decode cX11_land 45 = .ok (.iaload, 1) := by decide +kernel
theorem dX11_land_46 : decode cX11_land 46 = .ok (.aload_n 0, 1) := by decide +kernel
theorem dX11_land_47 : decode cX11_land 47 = .ok (.iload_n 1, 1) := by decide +kernel
theorem dX11_land_48 : decode cX11_land 48 = .ok (.iload_n 2, 1) := by decide +kernel
theorem dX11_land_49 : decode cX11_land 49 = .ok (.iconst 1, 1) := by decide +kernel
theorem dX11_land_50 : decode cX11_land 50 = .ok (.invokevirtual 51, 3) := by decide +kernel
theorem dX11_land_53 : decode cX11_land 53 = .ok (.aload_n 0, 1) := by decide +kernel
theorem dX11_land_54 : decode cX11_land 54 = .ok (.iload_n 1, 1) := by decide +kernel
theorem dX11_land_55 : decode cX11_land 55 = .ok (.iload_n 2, 1) := by decide +kernel
theorem dX11_land_56 : decode cX11_land 56 = .ok (.iconst 2, 1) := by decide +kernel
theorem dX11_land_57 : decode cX11_land 57 = .ok (.invokevirtual 51, 3) := by decide +kernel
theorem dX11_land_60 : decode cX11_land 60 = .ok (.iadd, 1) := by decide +kernel
theorem dX11_land_61 : decode cX11_land 61 = .ok (.isub, 1) := by decide +kernel
theorem dX11_land_62 : decode cX11_land 62 = .ok (.iastore, 1) := by decide +kernel
theorem dX11_land_63 : decode cX11_land 63 = .ok (.iconst 0, 1) := by decide +kernel
theorem dX11_land_64 : decode cX11_land 64 = .ok (.istore 4, 2) := by decide +kernel
theorem dX11_land_66 : decode cX11_land 66 = .ok (.iload 4, 2) := by decide +kernel
theorem dX11_land_68 : decode cX11_land 68 = .ok (.iconst 5, 1) := by decide +kernel
theorem dX11_land_69 : decode cX11_land 69 = .ok (.if_icmp .ge 45, 3) := by decide +kernel
theorem dX11_land_72 : decode cX11_land 72 = .ok (.aload_n 0, 1) := by decide +kernel
theorem dX11_land_73 : decode cX11_land 73 = .ok (.iload_n 1, 1) := by decide +kernel
theorem dX11_land_74 : decode cX11_land 74 = .ok (.iload_n 2, 1) := by decide +kernel
theorem dX11_land_75 : decode cX11_land 75 = .ok (.iload 4, 2) := by decide +kernel
theorem dX11_land_77 : decode cX11_land 77 = .ok (.iload 4, 2) := by decide +kernel
theorem dX11_land_79 : decode cX11_land 79 = .ok (.ifCond .ne 15, 3) := by decide +kernel
theorem dX11_land_82 : decode cX11_land 82 = .ok (.iload_n 3, 1) := by decide +kernel
theorem dX11_land_83 : decode cX11_land 83 = .ok (.ifCond .eq 7, 3) := by decide +kernel
theorem dX11_land_86 : decode cX11_land 86 = .ok (.iconst 0, 1) := by decide +kernel
theorem dX11_land_87 : decode cX11_land 87 = .ok (.goto 18, 3) := by decide +kernel
theorem dX11_land_90 : decode cX11_land 90 = .ok (.iconst 1, 1) := by decide +kernel
theorem dX11_land_91 : decode cX11_land 91 = .ok (.goto 14, 3) := by decide +kernel
theorem dX11_land_94 : decode cX11_land 94 = .ok (.iload 4, 2) := by decide +kernel
theorem dX11_land_96 : decode cX11_land 96 = .ok (.iconst 3, 1) := by decide +kernel
theorem dX11_land_97 : decode cX11_land 97 = .ok (.if_icmp .ne 7, 3) := by decide +kernel
theorem dX11_land_100 : decode cX11_land 100 = .ok (.iconst (-1), 1) := by decide +kernel
theorem dX11_land_101 : decode cX11_land 101 = .ok (.goto 4, 3) := by decide +kernel
theorem dX11_land_104 : decode cX11_land 104 = .ok (.iconst 0, 1) := by decide +kernel
theorem dX11_land_105 : decode cX11_land 105 = .ok (.invokevirtual 62, 3) := by decide +kernel
theorem dX11_land_108 : decode cX11_land 108 = .ok (.iinc 4 1, 3) := by decide +kernel
theorem dX11_land_111 : decode cX11_land 111 = .ok (.goto (-45), 3) := by decide +kernel
theorem dX11_land_114 : decode cX11_land 114 = .ok (.iconst 1, 1) := by decide +kernel
theorem dX11_land_115 : decode cX11_land 115 = .ok (.ireturn, 1) := by decide +kernel

theorem dX11_ice_0 : decode cX11_ice 0 = .ok (.aload_n 0, 1) := by decide +kernel
theorem dX11_ice_1 : decode cX11_ice 1 = .ok (.iload_n 1, 1) := by decide +kernel
theorem dX11_ice_2 : decode cX11_ice 2 = .ok (.iload_n 2, 1) := by decide +kernel
theorem dX11_ice_3 : decode cX11_ice 3 = .ok (.invokevirtual 66, 3) := by decide +kernel
theorem dX11_ice_6 : decode cX11_ice 6 = .ok (.ifCond .eq 24, 3) := by decide +kernel
theorem dX11_ice_9 : decode cX11_ice 9 = .ok (.iload_n 3, 1) := by decide +kernel
theorem dX11_ice_10 : decode cX11_ice 10 = .ok (.iconst 0, 1) := by decide +kernel
theorem dX11_ice_11 : decode cX11_ice 11 = .ok (.bipush 100, 2) := by decide +kernel
theorem dX11_ice_13 : decode cX11_ice 13 = .ok (.invokestatic 43, 3) := by decide +kernel
theorem dX11_ice_16 : decode cX11_ice 16 = .ok (.ifCond .eq 14, 3) := by decide +kernel
theorem dX11_ice_19 : decode cX11_ice 19 = .ok (.iload 4, 2) := by decide +kernel
theorem dX11_ice_21 : decode cX11_ice 21 = .ok (.iconst 0, 1) := by decide +kernel
theorem dX11_ice_22 : decode cX11_ice 22 = .ok (.bipush 100, 2) := by decide +kernel
theorem dX11_ice_24 : decode cX11_ice 24 = .ok (.invokestatic 43, 3) := by decide +kernel
theorem dX11_ice_27 : decode cX11_ice 27 = .ok (.ifCond .ne 5, 3) := by decide +kernel
theorem dX11_ice_30 : decode cX11_ice 30 = .ok (.iconst 0, 1) := by decide +kernel
theorem dX11_ice_31 : decode cX11_ice 31 = .ok (.ireturn, 1) := by decide +kernel
theorem dX11_ice_32 : decode cX11_ice 32 = .ok (.aload_n 0, 1) := by decide +kernel
theorem dX11_ice_33 : decode cX11_ice 33 = .ok (.getfield 8, 3) := by decide +kernel
theorem dX11_ice_36 : decode cX11_ice 36 = .ok (.iconst 4, 1) := by decide +kernel
theorem dX11_ice_37 : decode cX11_ice 37 = .ok (.dup2, 1) := by decide +kernel
theorem dX11_ice_38 : decode cX11_ice 38 = .ok (.iaload, 1) := by decide +kernel
theorem dX11_ice_39 : decode cX11_ice 39 = .ok (.iload_n 3, 1) := by decide +kernel
theorem dX11_ice_40 : decode cX11_ice 40 = .ok (.iload 4, 2) := by decide +kernel
theorem dX11_ice_42 : decode cX11_ice 42 = .ok (.iadd, 1) := by decide +kernel
theorem dX11_ice_43 : decode cX11_ice 43 = .ok (.aload_n 0, 1) := by decide +kernel
theorem dX11_ice_44 : decode cX11_ice 44 = .ok (.iload_n 1, 1) := by decide +kernel
theorem dX11_ice_45 : decode cX11_ice 45 = .ok (.iload_n 2, 1) := by decide +kernel
theorem dX11_ice_46 : decode cX11_ice 46 = .ok (.iconst 1, 1) := by decide +kernel
theorem dX11_ice_47 : decode cX11_ice 47 = .ok (.invokevirtual 51, 3) := by decide +kernel
theorem dX11_ice_50 : decode cX11_ice 50 = .ok (.isub, 1) := by decide +kernel
theorem dX11_ice_51 : decode cX11_ice 51 = .ok (.aload_n 0, 1) := by decide +kernel
theorem dX11_ice_52 : decode cX11_ice 52 = .ok (.iload_n 1, 1) := by decide +kernel
theorem dX11_ice_53 : decode cX11_ice 53 = .ok (.iload_n 2, 1) := by decide +kernel
theorem dX11_ice_54 : decode cX11_ice 54 = .ok (.iconst 2, 1) := by decide +kernel
theorem dX11_ice_55 : decode cX11_ice 55 = .ok (.invokevirtual 51, 3) := by decide +kernel
theorem dX11_ice_58 : decode cX11_ice 58 = .ok (.isub, 1) := by decide +kernel
theorem dX11_ice_59 : decode cX11_ice 59 = .ok (.iadd, 1) := by decide +kernel
theorem dX11_ice_60 : decode cX11_ice 60 = .ok (.iastore, 1) := by decide +kernel
theorem dX11_ice_61 : decode cX11_ice 61 = .ok (.aload_n 0, 1) := by decide +kernel
theorem dX11_ice_62 : decode cX11_ice 62 = .ok (.iload_n 1, 1) := by decide +kernel
theorem dX11_ice_63 : decode cX11_ice 63 = .ok (.iload_n 2, 1) := by decide +kernel
theorem dX11_ice_64 : decode cX11_ice 64 = .ok (.iconst 1, 1) := by decide +kernel
theorem dX11_ice_65 : decode cX11_ice 65 = .ok (.iload_n 3, 1) := by decide +kernel
theorem dX11_ice_66 : decode cX11_ice 66 = .ok (.invokevirtual 62, 3) := by decide +kernel
theorem dX11_ice_69 : decode cX11_ice 69 = .ok (.aload_n 0, 1) := by decide +kernel
theorem dX11_ice_70 : decode cX11_ice 70 = .ok (.iload_n 1, 1) := by decide +kernel
theorem dX11_ice_71 : decode cX11_ice 71 = .ok (.iload_n 2, 1) := by decide +kernel
theorem dX11_ice_72 : decode cX11_ice 72 = .ok (.iconst 2, 1) := by decide +kernel
theorem dX11_ice_73 : decode cX11_ice 73 = .ok (.iload 4, 2) := by decide +kernel
theorem dX11_ice_75 : decode cX11_ice 75 = .ok (.invokevirtual 62, 3) := by decide +kernel
theorem dX11_ice_78 : decode cX11_ice 78 = .ok (.aload_n 0, 1) := by decide +kernel
theorem dX11_ice_79 : decode cX11_ice 79 = .ok (.iload_n 1, 1) := by decide +kernel
theorem dX11_ice_80 : decode cX11_ice 80 = .ok (.iload_n 2, 1) := by decide +kernel
theorem dX11_ice_81 : decode cX11_ice 81 = .ok (.iconst 3, 1) := by decide +kernel
theorem dX11_ice_82 : decode cX11_ice 82 = .ok (.iconst (-1), 1) := by decide +kernel
theorem dX11_ice_83 : decode cX11_ice 83 = .ok (.invokevirtual 62, 3) := by decide +kernel
theorem dX11_ice_86 : decode cX11_ice 86 = .ok (.aload_n 0, 1) := by decide +kernel
theorem dX11_ice_87 : decode cX11_ice 87 = .ok (.iload_n 1, 1) := by decide +kernel
theorem dX11_ice_88 : decode cX11_ice 88 = .ok (.iload_n 2, 1) := by decide +kernel
theorem dX11_ice_89 : decode cX11_ice 89 = .ok (.iconst 4, 1) := by decide +kernel
theorem dX11_ice_90 : decode cX11_ice 90 = .ok (.iload 5, 2) := by decide +kernel
theorem dX11_ice_92 : decode cX11_ice 92 = .ok (.ifCond .eq 7, 3) := by decide +kernel
theorem dX11_ice_95 : decode cX11_ice 95 = .ok (.iconst 1, 1) := by decide +kernel
theorem dX11_ice_96 : decode cX11_ice 96 = .ok (.goto 4, 3) := by decide +kernel
theorem dX11_ice_99 : decode cX11_ice 99 = .ok (.iconst 0, 1) := by decide +kernel
theorem dX11_ice_100 : decode cX11_ice 100 = .ok (.invokevirtual 62, 3) := by decide +kernel
theorem dX11_ice_103 : decode cX11_ice 103 = .ok (.iconst 1, 1) := by decide +kernel
theorem dX11_ice_104 : decode cX11_ice 104 = .ok (.ireturn, 1) := by decide +kernel

theorem dX11_weather_0 : decode cX11_weather 0 = .ok (.iload_n 1, 1) := by decide +kernel
theorem dX11_weather_1 : decode cX11_weather 1 = .ok (.aload_n 0, 1) := by decide +kernel
theorem dX11_weather_2 : decode cX11_weather 2 = .ok (.getfield 8, 3) := by decide +kernel
theorem dX11_weather_5 : decode cX11_weather 5 = .ok (.iconst 3, 1) := by decide +kernel
theorem dX11_weather_6 : decode cX11_weather 6 = .ok (.iaload, 1) := by decide +kernel
theorem dX11_weather_7 : decode cX11_weather 7 = .ok (.sipush 999, 3) := by decide +kernel
theorem dX11_weather_10 : decode cX11_weather 10 = .ok (.invokestatic 43, 3) := by decide +kernel
theorem dX11_weather_13 : decode cX11_weather 13 = .ok (.ifCond .eq 48, 3) := by decide +kernel
theorem dX11_weather_16 : decode cX11_weather 16 = .ok (.iload_n 2, 1) := by decide +kernel
theorem dX11_weather_17 : decode cX11_weather 17 = .ok (.iconst 1, 1) := by decide +kernel
theorem dX11_weather_18 : decode cX11_weather 18 = .ok (.sipush 1000, 3) := by decide +kernel
theorem dX11_weather_21 : decode cX11_weather 21 = .ok (.iload_n 1, 1) := by decide +kernel
theorem dX11_weather_22 : decode cX11_weather 22 = .ok (.isub, 1) := by decide +kernel
theorem dX11_weather_23 : decode cX11_weather 23 = .ok (.invokestatic 43, 3) := by decide +kernel
theorem dX11_weather_26 : decode cX11_weather 26 = .ok (.ifCond .eq 35, 3) := by decide +kernel
theorem dX11_weather_29 : decode cX11_weather 29 = .ok (.iload_n 3, 1) := by decide +kernel
theorem dX11_weather_30 : decode cX11_weather 30 = .ok (.bipush (-40), 2) := by decide +kernel
theorem dX11_weather_32 : decode cX11_weather 32 = .ok (.bipush 40, 2) := by decide +kernel
theorem dX11_weather_34 : decode cX11_weather 34 = .ok (.invokestatic 43, 3) := by decide +kernel
theorem dX11_weather_37 : decode cX11_weather 37 = .ok (.ifCond .eq 24, 3) := by decide +kernel
theorem dX11_weather_40 : decode cX11_weather 40 = .ok (.iload 4, 2) := by decide +kernel
theorem dX11_weather_42 : decode cX11_weather 42 = .ok (.iconst 0, 1) := by decide +kernel
theorem dX11_weather_43 : decode cX11_weather 43 = .ok (.iconst 3, 1) := by decide +kernel
theorem dX11_weather_44 : decode cX11_weather 44 = .ok (.invokestatic 43, 3) := by decide +kernel
theorem dX11_weather_47 : decode cX11_weather 47 = .ok (.ifCond .eq 14, 3) := by decide +kernel
theorem dX11_weather_50 : decode cX11_weather 50 = .ok (.iload 5, 2) := by decide +kernel
theorem dX11_weather_52 : decode cX11_weather 52 = .ok (.iconst 0, 1) := by decide +kernel
theorem dX11_weather_53 : decode cX11_weather 53 = .ok (.bipush 50, 2) := by decide +kernel
theorem dX11_weather_55 : decode cX11_weather 55 = .ok (.invokestatic 43, 3) := by decide +kernel
theorem dX11_weather_58 : decode cX11_weather 58 = .ok (.ifCond .ne 5, 3) := by decide +kernel
theorem dX11_weather_61 : decode cX11_weather 61 = .ok (.iconst 0, 1) := by decide +kernel
theorem dX11_weather_62 : decode cX11_weather 62 = .ok (.ireturn, 1) := by decide +kernel
theorem dX11_weather_63 : decode cX11_weather 63 = .ok (.iload_n 1, 1) := by decide +kernel
theorem dX11_weather_64 : decode cX11_weather 64 = .ok (.istore 6, 2) := by decide +kernel
theorem dX11_weather_66 : decode cX11_weather 66 = .ok (.iload 6, 2) := by decide +kernel
theorem dX11_weather_68 : decode cX11_weather 68 = .ok (.iload_n 1, 1) := by decide +kernel
theorem dX11_weather_69 : decode cX11_weather 69 = .ok (.iload_n 2, 1) := by decide +kernel
theorem dX11_weather_70 : decode cX11_weather 70 = .ok (.iadd, 1) := by decide +kernel
theorem dX11_weather_71 : decode cX11_weather 71 = .ok (.if_icmp .ge 57, 3) := by decide +kernel
theorem dX11_weather_74 : decode cX11_weather 74 = .ok (.aload_n 0, 1) := by decide +kernel
theorem dX11_weather_75 : decode cX11_weather 75 = .ok (.getfield 8, 3) := by decide +kernel
theorem dX11_weather_78 : decode cX11_weather 78 = .ok (.sipush 460, 3) := by decide +kernel
theorem dX11_weather_81 : decode cX11_weather 81 = .ok (.iconst 3, 1) := by decide +kernel
theorem dX11_weather_82 : decode cX11_weather 82 = .ok (.iload 6, 2) := by decide +kernel
theorem dX11_weather_84 : decode cX11_weather 84 = .ok (.imul, 1) := by decide +kernel
theorem dX11_weather_85 : decode cX11_weather 85 = .ok (.iadd, 1) := by decide +kernel
theorem dX11_weather_86 : decode cX11_weather 86 = .ok (.iload_n 3, 1) := by decide +kernel
theorem dX11_weather_87 : decode cX11_weather 87 = .ok (.iastore, 1) := by decide +kernel
theorem dX11_weather_88 : decode cX11_weather 88 = .ok (.aload_n 0, 1) := by decide +kernel
theorem dX11_weather_89 : decode cX11_weather 89 = .ok (.getfield 8, 3) := by decide +kernel
theorem dX11_weather_92 : decode cX11_weather 92 = .ok (.sipush 460, 3) := by decide +kernel
theorem dX11_weather_95 : decode cX11_weather 95 = .ok (.iconst 3, 1) := by decide +kernel
theorem dX11_weather_96 : decode cX11_weather 96 = .ok (.iload 6, 2) := by decide +kernel
theorem dX11_weather_98 : decode cX11_weather 98 = .ok (.imul, 1) := by decide +kernel
theorem dX11_weather_99 : decode cX11_weather 99 = .ok (.iadd, 1) := by decide +kernel
theorem dX11_weather_100 : decode cX11_weather 100 = .ok (.iconst 1, 1) := by decide +kernel
theorem dX11_weather_101 : decode cX11_weather 101 = .ok (.iadd, 1) := by decide +kernel
theorem dX11_weather_102 : decode cX11_weather 102 = .ok (.iload 4, 2) := by decide +kernel
theorem dX11_weather_104 : decode cX11_weather 104 = .ok (.iastore, 1) := by decide +kernel
theorem dX11_weather_105 : decode cX11_weather 105 = .ok (.aload_n 0, 1) := by decide +kernel
theorem dX11_weather_106 : decode cX11_weather 106 = .ok (.getfield 8, 3) := by decide +kernel
theorem dX11_weather_109 : decode cX11_weather 109 = .ok (.sipush 460, 3) := by decide +kernel
theorem dX11_weather_112 : decode cX11_weather 112 = .ok (.iconst 3, 1) := by decide +kernel
theorem dX11_weather_113 : decode cX11_weather 113 = .ok (.iload 6, 2) := by decide +kernel
theorem dX11_weather_115 : decode cX11_weather 115 = .ok (.imul, 1) := by decide +kernel
theorem dX11_weather_116 : decode cX11_weather 116 = .ok (.iadd, 1) := by decide +kernel
theorem dX11_weather_117 : decode cX11_weather 117 = .ok (.iconst 2, 1) := by decide +kernel
theorem dX11_weather_118 : decode cX11_weather 118 = .ok (.iadd, 1) := by decide +kernel
theorem dX11_weather_119 : decode cX11_weather 119 = .ok (.iload 5, 2) := by decide +kernel
theorem dX11_weather_121 : decode cX11_weather 121 = .ok (.iastore, 1) := by decide +kernel
theorem dX11_weather_122 : decode cX11_weather 122 = .ok (.iinc 6 1, 3) := by decide +kernel
theorem dX11_weather_125 : decode cX11_weather 125 = .ok (.goto (-59), 3) := by decide +kernel
theorem dX11_weather_128 : decode cX11_weather 128 = .ok (.iconst 1, 1) := by decide +kernel
theorem dX11_weather_129 : decode cX11_weather 129 = .ok (.ireturn, 1) := by decide +kernel

theorem dX11_ship_0 : decode cX11_ship 0 = .ok (.aload_n 0, 1) := by decide +kernel
theorem dX11_ship_1 : decode cX11_ship 1 = .ok (.getfield 8, 3) := by decide +kernel
theorem dX11_ship_4 : decode cX11_ship 4 = .ok (.iconst 2, 1) := by decide +kernel
theorem dX11_ship_5 : decode cX11_ship 5 = .ok (.iaload, 1) := by decide +kernel
theorem dX11_ship_6 : decode cX11_ship 6 = .ok (.bipush 8, 2) := by decide +kernel
theorem dX11_ship_8 : decode cX11_ship 8 = .ok (.if_icmp .eq 50, 3) := by decide +kernel
theorem dX11_ship_11 : decode cX11_ship 11 = .ok (.iload_n 1, 1) := by decide +kernel
theorem dX11_ship_12 : decode cX11_ship 12 = .ok (.iconst 0, 1) := by decide +kernel
theorem dX11_ship_13 : decode cX11_ship 13 = .ok (.sipush 200, 3) := by decide +kernel
theorem dX11_ship_16 : decode cX11_ship 16 = .ok (.invokestatic 43, 3) := by decide +kernel
theorem dX11_ship_19 : decode cX11_ship 19 = .ok (.ifCond .eq 39, 3) := by decide +kernel
theorem dX11_ship_22 : decode cX11_ship 22 = .ok (.iload_n 2, 1) := by decide +kernel
theorem dX11_ship_23 : decode cX11_ship 23 = .ok (.iconst (-1), 1) := by decide +kernel
theorem dX11_ship_24 : decode cX11_ship 24 = .ok (.if_icmp .eq 14, 3) := by decide +kernel
theorem dX11_ship_27 : decode cX11_ship 27 = .ok (.iload_n 2, 1) := by decide +kernel
theorem dX11_ship_28 : decode cX11_ship 28 = .ok (.iconst 1, 1) := by decide +kernel
theorem dX11_ship_29 : decode cX11_ship 29 = .ok (.sipush 5000, 3) := by decide +kernel
theorem dX11_ship_32 : decode cX11_ship 32 = .ok (.invokestatic 43, 3) := by decide +kernel
theorem dX11_ship_35 : decode cX11_ship 35 = .ok (.ifCond .eq 23, 3) := by decide +kernel
theorem dX11_ship_38 : decode cX11_ship 38 = .ok (.aload_n 0, 1) := by decide +kernel
theorem dX11_ship_39 : decode cX11_ship 39 = .ok (.iload_n 3, 1) := by decide +kernel
theorem dX11_ship_40 : decode cX11_ship 40 = .ok (.iload 4, 2) := by decide +kernel
theorem dX11_ship_42 : decode cX11_ship 42 = .ok (.invokevirtual 66, 3) := by decide +kernel
theorem dX11_ship_45 : decode cX11_ship 45 = .ok (.ifCond .eq 13, 3) := by decide +kernel
theorem dX11_ship_48 : decode cX11_ship 48 = .ok (.aload_n 0, 1) := by decide +kernel
theorem dX11_ship_49 : decode cX11_ship 49 = .ok (.iload_n 3, 1) := by decide +kernel
theorem dX11_ship_50 : decode cX11_ship 50 = .ok (.iload 4, 2) := by decide +kernel
theorem dX11_ship_52 : decode cX11_ship 52 = .ok (.invokevirtual 59, 3) := by decide +kernel
theorem dX11_ship_55 : decode cX11_ship 55 = .ok (.ifCond .lt 5, 3) := by decide +kernel
theorem dX11_ship_58 : decode cX11_ship 58 = .ok (.iconst (-1), 1) := by decide +kernel
theorem dX11_ship_59 : decode cX11_ship 59 = .ok (.ireturn, 1) := by decide +kernel
theorem dX11_ship_60 : decode cX11_ship 60 = .ok (.aload_n 0, 1) := by decide +kernel
theorem dX11_ship_61 : decode cX11_ship 61 = .ok (.getfield 8, 3) := by decide +kernel
theorem dX11_ship_64 : decode cX11_ship 64 = .ok (.iconst 2, 1) := by decide +kernel
theorem dX11_ship_65 : decode cX11_ship 65 = .ok (.iaload, 1) := by decide +kernel
theorem dX11_ship_66 : decode cX11_ship 66 = .ok (.istore 5, 2) := by decide +kernel
theorem dX11_ship_68 : decode cX11_ship 68 = .ok (.aload_n 0, 1) := by decide +kernel
theorem dX11_ship_69 : decode cX11_ship 69 = .ok (.getfield 8, 3) := by decide +kernel
theorem dX11_ship_72 : decode cX11_ship 72 = .ok (.iconst 2, 1) := by decide +kernel
theorem dX11_ship_73 : decode cX11_ship 73 = .ok (.dup2, 1) := by decide +kernel
theorem dX11_ship_74 : decode cX11_ship 74 = .ok (.iaload, 1) := by decide +kernel
theorem dX11_ship_75 : decode cX11_ship 75 = .ok (.iconst 1, 1) := by decide +kernel
theorem dX11_ship_76 : decode cX11_ship 76 = .ok (.iadd, 1) := by decide +kernel
theorem dX11_ship_77 : decode cX11_ship 77 = .ok (.iastore, 1) := by decide +kernel
theorem dX11_ship_78 : decode cX11_ship 78 = .ok (.iconst 0, 1) := by decide +kernel
theorem dX11_ship_79 : decode cX11_ship 79 = .ok (.istore 6, 2) := by decide +kernel
theorem dX11_ship_81 : decode cX11_ship 81 = .ok (.iload 6, 2) := by decide +kernel
theorem dX11_ship_83 : decode cX11_ship 83 = .ok (.bipush 12, 2) := by decide +kernel
theorem dX11_ship_85 : decode cX11_ship 85 = .ok (.if_icmp .ge 18, 3) := by decide +kernel
theorem dX11_ship_88 : decode cX11_ship 88 = .ok (.aload_n 0, 1) := by decide +kernel
theorem dX11_ship_89 : decode cX11_ship 89 = .ok (.iload 5, 2) := by decide +kernel
theorem dX11_ship_91 : decode cX11_ship 91 = .ok (.iload 6, 2) := by decide +kernel
theorem dX11_ship_93 : decode cX11_ship 93 = .ok (.iconst 0, 1) := by decide +kernel
theorem dX11_ship_94 : decode cX11_ship 94 = .ok (.invokevirtual 69, 3) := by decide +kernel
theorem dX11_ship_97 : decode cX11_ship 97 = .ok (.iinc 6 1, 3) := by decide +kernel
theorem dX11_ship_100 : decode cX11_ship 100 = .ok (.goto (-19), 3) := by decide +kernel
theorem dX11_ship_103 : decode cX11_ship 103 = .ok (.aload_n 0, 1) := by decide +kernel
theorem dX11_ship_104 : decode cX11_ship 104 = .ok (.iload 5, 2) := by decide +kernel
theorem dX11_ship_106 : decode cX11_ship 106 = .ok (.iconst 0, 1) := by decide +kernel
theorem dX11_ship_107 : decode cX11_ship 107 = .ok (.iload_n 1, 1) := by decide +kernel
theorem dX11_ship_108 : decode cX11_ship 108 = .ok (.invokevirtual 69, 3) := by decide +kernel
theorem dX11_ship_111 : decode cX11_ship 111 = .ok (.aload_n 0, 1) := by decide +kernel
theorem dX11_ship_112 : decode cX11_ship 112 = .ok (.iload 5, 2) := by decide +kernel
theorem dX11_ship_114 : decode cX11_ship 114 = .ok (.iconst 1, 1) := by decide +kernel
theorem dX11_ship_115 : decode cX11_ship 115 = .ok (.iload_n 2, 1) := by decide +kernel
theorem dX11_ship_116 : decode cX11_ship 116 = .ok (.invokevirtual 69, 3) := by decide +kernel
theorem dX11_ship_119 : decode cX11_ship 119 = .ok (.aload_n 0, 1) := by decide +kernel
theorem dX11_ship_120 : decode cX11_ship 120 = .ok (.iload 5, 2) := by decide +kernel
theorem dX11_ship_122 : decode cX11_ship 122 = .ok (.iconst 2, 1) := by decide +kernel
theorem dX11_ship_123 : decode cX11_ship 123 = .ok (.iload_n 3, 1) := by decide +kernel
theorem dX11_ship_124 : decode cX11_ship 124 = .ok (.invokevirtual 69, 3) := by decide +kernel
theorem dX11_ship_127 : decode cX11_ship 127 = .ok (.aload_n 0, 1) := by decide +kernel
theorem dX11_ship_128 : decode cX11_ship 128 = .ok (.iload 5, 2) := by decide +kernel
theorem dX11_ship_130 : decode cX11_ship 130 = .ok (.iconst 3, 1) := by decide +kernel
theorem dX11_ship_131 : decode cX11_ship 131 = .ok (.iload 4, 2) := by decide +kernel
theorem dX11_ship_133 : decode cX11_ship 133 = .ok (.invokevirtual 69, 3) := by decide +kernel
theorem dX11_ship_136 : decode cX11_ship 136 = .ok (.aload_n 0, 1) := by decide +kernel
theorem dX11_ship_137 : decode cX11_ship 137 = .ok (.iload 5, 2) := by decide +kernel
theorem dX11_ship_139 : decode cX11_ship 139 = .ok (.bipush 6, 2) := by decide +kernel
theorem dX11_ship_141 : decode cX11_ship 141 = .ok (.iconst (-1), 1) := by decide +kernel
theorem dX11_ship_142 : decode cX11_ship 142 = .ok (.invokevirtual 69, 3) := by decide +kernel
theorem dX11_ship_145 : decode cX11_ship 145 = .ok (.iload 5, 2) := by decide +kernel
theorem dX11_ship_147 : decode cX11_ship 147 = .ok (.ireturn, 1) := by decide +kernel

theorem dX11_isShip_0 : decode cX11_isShip 0 = .ok (.iload_n 1, 1) := by decide +kernel
theorem dX11_isShip_1 : decode cX11_isShip 1 = .ok (.iconst 0, 1) := by decide +kernel
theorem dX11_isShip_2 : decode cX11_isShip 2 = .ok (.aload_n 0, 1) := by decide +kernel
theorem dX11_isShip_3 : decode cX11_isShip 3 = .ok (.getfield 8, 3) := by decide +kernel
theorem dX11_isShip_6 : decode cX11_isShip 6 = .ok (.iconst 2, 1) := by decide +kernel
theorem dX11_isShip_7 : decode cX11_isShip 7 = .ok (.iaload, 1) := by decide +kernel
theorem dX11_isShip_8 : decode cX11_isShip 8 = .ok (.iconst 1, 1) := by decide +kernel
theorem dX11_isShip_9 : decode cX11_isShip 9 = .ok (.isub, 1) := by decide +kernel
theorem dX11_isShip_10 : decode cX11_isShip 10 = .ok (.invokestatic 43, 3) := by decide +kernel
theorem dX11_isShip_13 : decode cX11_isShip 13 = .ok (.ireturn, 1) := by decide +kernel

theorem dX11_feed_0 : decode cX11_feed 0 = .ok (.aload_n 0, 1) := by decide +kernel
theorem dX11_feed_1 : decode cX11_feed 1 = .ok (.getfield 8, 3) := by decide +kernel
theorem dX11_feed_4 : decode cX11_feed 4 = .ok (.bipush 9, 2) := by decide +kernel
theorem dX11_feed_6 : decode cX11_feed 6 = .ok (.iaload, 1) := by decide +kernel
theorem dX11_feed_7 : decode cX11_feed 7 = .ok (.bipush 20, 2) := by decide +kernel
theorem dX11_feed_9 : decode cX11_feed 9 = .ok (.iadd, 1) := by decide +kernel
theorem dX11_feed_10 : decode cX11_feed 10 = .ok (.sipush 400, 3) := by decide +kernel
theorem dX11_feed_13 : decode cX11_feed 13 = .ok (.if_icmp .le 5, 3) := by decide +kernel
theorem dX11_feed_16 : decode cX11_feed 16 = .ok (.iconst (-1), 1) := by decide +kernel
theorem dX11_feed_17 : decode cX11_feed 17 = .ok (.ireturn, 1) := by decide +kernel
theorem dX11_feed_18 : decode cX11_feed 18 = .ok (.iconst 0, 1) := by decide +kernel
theorem dX11_feed_19 : decode cX11_feed 19 = .ok (.istore 6, 2) := by decide +kernel
theorem dX11_feed_21 : decode cX11_feed 21 = .ok (.iload 6, 2) := by decide +kernel
theorem dX11_feed_23 : decode cX11_feed 23 = .ok (.bipush 20, 2) := by decide +kernel
theorem dX11_feed_25 : decode cX11_feed 25 = .ok (.if_icmp .ge 101, 3) := by decide +kernel
theorem dX11_feed_28 : decode cX11_feed 28 = .ok (.iload 6, 2) := by decide +kernel
theorem dX11_feed_30 : decode cX11_feed 30 = .ok (.iconst 4, 1) := by decide +kernel
theorem dX11_feed_31 : decode cX11_feed 31 = .ok (.if_icmp .ge 7, 3) := by decide +kernel
theorem dX11_feed_34 : decode cX11_feed 34 = .ok (.iload_n 1, 1) := by decide +kernel
theorem dX11_feed_35 : decode cX11_feed 35 = .ok (.goto 39, 3) := by decide +kernel
theorem dX11_feed_38 : decode cX11_feed 38 = .ok (.iload 6, 2) := by decide +kernel
theorem dX11_feed_40 : decode cX11_feed 40 = .ok (.bipush 8, 2) := by decide +kernel
theorem dX11_feed_42 : decode cX11_feed 42 = .ok (.if_icmp .ge 7, 3) := by decide +kernel
theorem dX11_feed_45 : decode cX11_feed 45 = .ok (.iload_n 2, 1) := by decide +kernel
theorem dX11_feed_46 : decode cX11_feed 46 = .ok (.goto 28, 3) := by decide +kernel
theorem dX11_feed_49 : decode cX11_feed 49 = .ok (.iload 6, 2) := by decide +kernel
theorem dX11_feed_51 : decode cX11_feed 51 = .ok (.bipush 12, 2) := by decide +kernel
theorem dX11_feed_53 : decode cX11_feed 53 = .ok (.if_icmp .ge 7, 3) := by decide +kernel
theorem dX11_feed_56 : decode cX11_feed 56 = .ok (.iload_n 3, 1) := by decide +kernel
theorem dX11_feed_57 : decode cX11_feed 57 = .ok (.goto 17, 3) := by decide +kernel
theorem dX11_feed_60 : decode cX11_feed 60 = .ok (.iload 6, 2) := by decide +kernel
theorem dX11_feed_62 : decode cX11_feed 62 = .ok (.bipush 16, 2) := by decide +kernel
theorem dX11_feed_64 : decode cX11_feed 64 = .ok (.if_icmp .ge 8, 3) := by decide +kernel
theorem dX11_feed_67 : decode cX11_feed 67 = .ok (.iload 4, 2) := by decide +kernel
theorem dX11_feed_69 : decode cX11_feed 69 = .ok (.goto 5, 3) := by decide +kernel
theorem dX11_feed_72 : decode cX11_feed 72 = .ok (.iload 5, 2) := by decide +kernel
theorem dX11_feed_74 : decode cX11_feed 74 = .ok (.istore 7, 2) := by decide +kernel
theorem dX11_feed_76 : decode cX11_feed 76 = .ok (.aload_n 0, 1) := by decide +kernel
theorem dX11_feed_77 : decode cX11_feed 77 = .ok (.getfield 8, 3) := by decide +kernel
theorem dX11_feed_80 : decode cX11_feed 80 = .ok (.sipush 10340, 3) := by decide +kernel
theorem dX11_feed_83 : decode cX11_feed 83 = .ok (.aload_n 0, 1) := by decide +kernel
theorem dX11_feed_84 : decode cX11_feed 84 = .ok (.getfield 8, 3) := by decide +kernel
theorem dX11_feed_87 : decode cX11_feed 87 = .ok (.bipush 9, 2) := by decide +kernel
theorem dX11_feed_89 : decode cX11_feed 89 = .ok (.iaload, 1) := by decide +kernel
theorem dX11_feed_90 : decode cX11_feed 90 = .ok (.iadd, 1) := by decide +kernel
theorem dX11_feed_91 : decode cX11_feed 91 = .ok (.iload 7, 2) := by decide +kernel
theorem dX11_feed_93 : decode cX11_feed 93 = .ok (.bipush 24, 2) := by decide +kernel
theorem dX11_feed_95 : decode cX11_feed 95 = .ok (.bipush 8, 2) := by decide +kernel
theorem dX11_feed_97 : decode cX11_feed 97 = .ok (.iload 6, 2) := by decide +kernel
theorem dX11_feed_99 : decode cX11_feed 99 = .ok (.iconst 4, 1) := by decide +kernel
theorem dX11_feed_100 : decode cX11_feed 100 = .ok (.irem, 1) := by decide +kernel
theorem dX11_feed_101 : decode cX11_feed 101 = .ok (.imul, 1) := by decide +kernel
theorem dX11_feed_102 : decode cX11_feed 102 = .ok (.isub, 1) := by decide +kernel
theorem dX11_feed_103 : decode cX11_feed 103 = .ok (.ishr, 1) := by decide +kernel
theorem dX11_feed_104 : decode cX11_feed 104 = .ok (.sipush 255, 3) := by decide +kernel
theorem dX11_feed_107 : decode cX11_feed 107 = .ok (.iand, 1) := by decide +kernel
theorem dX11_feed_108 : decode cX11_feed 108 = .ok (.iastore, 1) := by decide +kernel
theorem dX11_feed_109 : decode cX11_feed 109 = .ok (.aload_n 0, 1) := by decide +kernel
theorem dX11_feed_110 : decode cX11_feed 110 = .ok (.getfield 8, 3) := by decide +kernel
theorem dX11_feed_113 : decode cX11_feed 113 = .ok (.bipush 9, 2) := by decide +kernel
theorem dX11_feed_115 : decode cX11_feed 115 = .ok (.dup2, 1) := by decide +kernel
theorem dX11_feed_116 : decode cX11_feed 116 = .ok (.iaload, 1) := by decide +kernel
theorem dX11_feed_117 : decode cX11_feed 117 = .ok (.iconst 1, 1) := by decide +kernel
theorem dX11_feed_118 : decode cX11_feed 118 = .ok (.iadd, 1) := by decide +kernel
theorem dX11_feed_119 : decode cX11_feed 119 = .ok (.iastore, 1) := by decide +kernel
theorem dX11_feed_120 : decode cX11_feed 120 = .ok (.iinc 6 1, 3) := by decide +kernel
theorem dX11_feed_123 : decode cX11_feed 123 = .ok (.goto (-102), 3) := by decide +kernel
theorem dX11_feed_126 : decode cX11_feed 126 = .ok (.aload_n 0, 1) := by decide +kernel
theorem dX11_feed_127 : decode cX11_feed 127 = .ok (.getfield 8, 3) := by decide +kernel
theorem dX11_feed_130 : decode cX11_feed 130 = .ok (.bipush 9, 2) := by decide +kernel
theorem dX11_feed_132 : decode cX11_feed 132 = .ok (.iaload, 1) := by decide +kernel
theorem dX11_feed_133 : decode cX11_feed 133 = .ok (.ireturn, 1) := by decide +kernel

theorem dX11_end_0 : decode cX11_end 0 = .ok (.iload_n 1, 1) := by decide +kernel
theorem dX11_end_1 : decode cX11_end 1 = .ok (.ifCond .lt 14, 3) := by decide +kernel
theorem dX11_end_4 : decode cX11_end 4 = .ok (.iload_n 1, 1) := by decide +kernel
theorem dX11_end_5 : decode cX11_end 5 = .ok (.aload_n 0, 1) := by decide +kernel
theorem dX11_end_6 : decode cX11_end 6 = .ok (.getfield 8, 3) := by decide +kernel
theorem dX11_end_9 : decode cX11_end 9 = .ok (.bipush 9, 2) := by decide +kernel
theorem dX11_end_11 : decode cX11_end 11 = .ok (.iaload, 1) := by decide +kernel
theorem dX11_end_12 : decode cX11_end 12 = .ok (.if_icmp .le 5, 3) := by decide +kernel
theorem dX11_end_15 : decode cX11_end 15 = .ok (.iconst (-1), 1) := by decide +kernel
theorem dX11_end_16 : decode cX11_end 16 = .ok (.ireturn, 1) := by decide +kernel
theorem dX11_end_17 : decode cX11_end 17 = .ok (.aload_n 0, 1) := by decide +kernel
theorem dX11_end_18 : decode cX11_end 18 = .ok (.getfield 8, 3) := by decide +kernel
theorem dX11_end_21 : decode cX11_end 21 = .ok (.bipush 9, 2) := by decide +kernel
theorem dX11_end_23 : decode cX11_end 23 = .ok (.iload_n 1, 1) := by decide +kernel
theorem dX11_end_24 : decode cX11_end 24 = .ok (.iastore, 1) := by decide +kernel
theorem dX11_end_25 : decode cX11_end 25 = .ok (.iload_n 1, 1) := by decide +kernel
theorem dX11_end_26 : decode cX11_end 26 = .ok (.ireturn, 1) := by decide +kernel

theorem dX11_fault_0 : decode cX11_fault 0 = .ok (.iload_n 1, 1) := by decide +kernel
theorem dX11_fault_1 : decode cX11_fault 1 = .ok (.ifCond .ne 13, 3) := by decide +kernel
theorem dX11_fault_4 : decode cX11_fault 4 = .ok (.aload_n 0, 1) := by decide +kernel
theorem dX11_fault_5 : decode cX11_fault 5 = .ok (.getfield 8, 3) := by decide +kernel
theorem dX11_fault_8 : decode cX11_fault 8 = .ok (.bipush 10, 2) := by decide +kernel
theorem dX11_fault_10 : decode cX11_fault 10 = .ok (.iaload, 1) := by decide +kernel
theorem dX11_fault_11 : decode cX11_fault 11 = .ok (.goto 19, 3) := by decide +kernel
theorem dX11_fault_14 : decode cX11_fault 14 = .ok (.iload_n 1, 1) := by decide +kernel
theorem dX11_fault_15 : decode cX11_fault 15 = .ok (.iconst 1, 1) := by decide +kernel
theorem dX11_fault_16 : decode cX11_fault 16 = .ok (.if_icmp .ne 13, 3) := by decide +kernel
theorem dX11_fault_19 : decode cX11_fault 19 = .ok (.aload_n 0, 1) := by decide +kernel
theorem dX11_fault_20 : decode cX11_fault 20 = .ok (.getfield 8, 3) := by decide +kernel
theorem dX11_fault_23 : decode cX11_fault 23 = .ok (.bipush 11, 2) := by decide +kernel
theorem dX11_fault_25 : decode cX11_fault 25 = .ok (.iaload, 1) := by decide +kernel
theorem dX11_fault_26 : decode cX11_fault 26 = .ok (.goto 4, 3) := by decide +kernel
theorem dX11_fault_29 : decode cX11_fault 29 = .ok (.iconst (-1), 1) := by decide +kernel
theorem dX11_fault_30 : decode cX11_fault 30 = .ok (.ireturn, 1) := by decide +kernel

theorem dX11_call_0 : decode cX11_call 0 = .ok (.aload_n 0, 1) := by decide +kernel
theorem dX11_call_1 : decode cX11_call 1 = .ok (.iload_n 1, 1) := by decide +kernel
theorem dX11_call_2 : decode cX11_call 2 = .ok (.invokevirtual 190, 3) := by decide +kernel
theorem dX11_call_5 : decode cX11_call 5 = .ok (.ifCond .eq 14, 3) := by decide +kernel
theorem dX11_call_8 : decode cX11_call 8 = .ok (.iload_n 2, 1) := by decide +kernel
theorem dX11_call_9 : decode cX11_call 9 = .ok (.iconst 0, 1) := by decide +kernel
theorem dX11_call_10 : decode cX11_call 10 = .ok (.sipush 9999, 3) := by decide +kernel
theorem dX11_call_13 : decode cX11_call 13 = .ok (.invokestatic 43, 3) := by decide +kernel
theorem dX11_call_16 : decode cX11_call 16 = .ok (.ifCond .ne 5, 3) := by decide +kernel
theorem dX11_call_19 : decode cX11_call 19 = .ok (.iconst 0, 1) := by decide +kernel
theorem dX11_call_20 : decode cX11_call 20 = .ok (.ireturn, 1) := by decide +kernel
theorem dX11_call_21 : decode cX11_call 21 = .ok (.aload_n 0, 1) := by decide +kernel
theorem dX11_call_22 : decode cX11_call 22 = .ok (.iload_n 1, 1) := by decide +kernel
theorem dX11_call_23 : decode cX11_call 23 = .ok (.iconst 4, 1) := by decide +kernel
theorem dX11_call_24 : decode cX11_call 24 = .ok (.iload_n 2, 1) := by decide +kernel
theorem dX11_call_25 : decode cX11_call 25 = .ok (.invokevirtual 69, 3) := by decide +kernel
theorem dX11_call_28 : decode cX11_call 28 = .ok (.iconst 1, 1) := by decide +kernel
theorem dX11_call_29 : decode cX11_call 29 = .ok (.ireturn, 1) := by decide +kernel

theorem dX11_mayGo_0 : decode cX11_mayGo 0 = .ok (.iload_n 1, 1) := by decide +kernel
theorem dX11_mayGo_1 : decode cX11_mayGo 1 = .ok (.iconst 1, 1) := by decide +kernel
theorem dX11_mayGo_2 : decode cX11_mayGo 2 = .ok (.bipush 100, 2) := by decide +kernel
theorem dX11_mayGo_4 : decode cX11_mayGo 4 = .ok (.invokestatic 43, 3) := by decide +kernel
theorem dX11_mayGo_7 : decode cX11_mayGo 7 = .ok (.ifCond .eq 21, 3) := by decide +kernel
theorem dX11_mayGo_10 : decode cX11_mayGo 10 = .ok (.aload_n 0, 1) := by decide +kernel
theorem dX11_mayGo_11 : decode cX11_mayGo 11 = .ok (.getfield 8, 3) := by decide +kernel
theorem dX11_mayGo_14 : decode cX11_mayGo 14 = .ok (.iconst 3, 1) := by decide +kernel
theorem dX11_mayGo_15 : decode cX11_mayGo 15 = .ok (.iaload, 1) := by decide +kernel
theorem dX11_mayGo_16 : decode cX11_mayGo 16 = .ok (.iload_n 1, 1) := by decide +kernel
theorem dX11_mayGo_17 : decode cX11_mayGo 17 = .ok (.iadd, 1) := by decide +kernel
theorem dX11_mayGo_18 : decode cX11_mayGo 18 = .ok (.sipush 1000, 3) := by decide +kernel
theorem dX11_mayGo_21 : decode cX11_mayGo 21 = .ok (.if_icmp .gt 7, 3) := by decide +kernel
theorem dX11_mayGo_24 : decode cX11_mayGo 24 = .ok (.iconst 1, 1) := by decide +kernel
theorem dX11_mayGo_25 : decode cX11_mayGo 25 = .ok (.goto 4, 3) := by decide +kernel
theorem dX11_mayGo_28 : decode cX11_mayGo 28 = .ok (.iconst 0, 1) := by decide +kernel
theorem dX11_mayGo_29 : decode cX11_mayGo 29 = .ok (.ireturn, 1) := by decide +kernel

theorem dX11_iceOf_0 : decode cX11_iceOf 0 = .ok (.iconst 0, 1) := by decide +kernel
theorem dX11_iceOf_1 : decode cX11_iceOf 1 = .ok (.istore_n 2, 1) := by decide +kernel
theorem dX11_iceOf_2 : decode cX11_iceOf 2 = .ok (.iconst 0, 1) := by decide +kernel
theorem dX11_iceOf_3 : decode cX11_iceOf 3 = .ok (.istore_n 3, 1) := by decide +kernel
theorem dX11_iceOf_4 : decode cX11_iceOf 4 = .ok (.iload_n 3, 1) := by decide +kernel
theorem dX11_iceOf_5 : decode cX11_iceOf 5 = .ok (.aload_n 0, 1) := by decide +kernel
theorem dX11_iceOf_6 : decode cX11_iceOf 6 = .ok (.getfield 8, 3) := by decide +kernel
theorem dX11_iceOf_9 : decode cX11_iceOf 9 = .ok (.iconst 0, 1) := by decide +kernel
theorem dX11_iceOf_10 : decode cX11_iceOf 10 = .ok (.iaload, 1) := by decide +kernel
theorem dX11_iceOf_11 : decode cX11_iceOf 11 = .ok (.if_icmp .ge 40, 3) := by decide +kernel
theorem dX11_iceOf_14 : decode cX11_iceOf 14 = .ok (.iconst 0, 1) := by decide +kernel
theorem dX11_iceOf_15 : decode cX11_iceOf 15 = .ok (.istore 4, 2) := by decide +kernel
theorem dX11_iceOf_17 : decode cX11_iceOf 17 = .ok (.iload 4, 2) := by decide +kernel
theorem dX11_iceOf_19 : decode cX11_iceOf 19 = .ok (.aload_n 0, 1) := by decide +kernel
theorem dX11_iceOf_20 : decode cX11_iceOf 20 = .ok (.getfield 8, 3) := by decide +kernel
theorem dX11_iceOf_23 : decode cX11_iceOf 23 = .ok (.iconst 1, 1) := by decide +kernel
theorem dX11_iceOf_24 : decode cX11_iceOf 24 = .ok (.iaload, 1) := by decide +kernel
theorem dX11_iceOf_25 : decode cX11_iceOf 25 = .ok (.if_icmp .ge 20, 3) := by decide +kernel
theorem dX11_iceOf_28 : decode cX11_iceOf 28 = .ok (.iload_n 2, 1) := by decide +kernel
theorem dX11_iceOf_29 : decode cX11_iceOf 29 = .ok (.aload_n 0, 1) := by decide +kernel
theorem dX11_iceOf_30 : decode cX11_iceOf 30 = .ok (.iload_n 3, 1) := by decide +kernel
theorem dX11_iceOf_31 : decode cX11_iceOf 31 = .ok (.iload 4, 2) := by decide +kernel
theorem dX11_iceOf_33 : decode cX11_iceOf 33 = .ok (.iload_n 1, 1) := by decide +kernel
theorem dX11_iceOf_34 : decode cX11_iceOf 34 = .ok (.invokevirtual 51, 3) := by decide +kernel
theorem dX11_iceOf_37 : decode cX11_iceOf 37 = .ok (.iadd, 1) := by decide +kernel
theorem dX11_iceOf_38 : decode cX11_iceOf 38 = .ok (.istore_n 2, 1) := by decide +kernel
theorem dX11_iceOf_39 : decode cX11_iceOf 39 = .ok (.iinc 4 1, 3) := by decide +kernel
theorem dX11_iceOf_42 : decode cX11_iceOf 42 = .ok (.goto (-25), 3) := by decide +kernel
theorem dX11_iceOf_45 : decode cX11_iceOf 45 = .ok (.iinc 3 1, 3) := by decide +kernel
theorem dX11_iceOf_48 : decode cX11_iceOf 48 = .ok (.goto (-44), 3) := by decide +kernel
theorem dX11_iceOf_51 : decode cX11_iceOf 51 = .ok (.iload_n 2, 1) := by decide +kernel
theorem dX11_iceOf_52 : decode cX11_iceOf 52 = .ok (.ireturn, 1) := by decide +kernel

theorem dX11_copies_0 : decode cX11_copies 0 = .ok (.iconst 0, 1) := by decide +kernel
theorem dX11_copies_1 : decode cX11_copies 1 = .ok (.istore_n 3, 1) := by decide +kernel
theorem dX11_copies_2 : decode cX11_copies 2 = .ok (.iload_n 3, 1) := by decide +kernel
theorem dX11_copies_3 : decode cX11_copies 3 = .ok (.sipush 10740, 3) := by decide +kernel
theorem dX11_copies_6 : decode cX11_copies 6 = .ok (.if_icmp .ge 33, 3) := by decide +kernel
theorem dX11_copies_9 : decode cX11_copies 9 = .ok (.aload_n 0, 1) := by decide +kernel
theorem dX11_copies_10 : decode cX11_copies 10 = .ok (.getfield 8, 3) := by decide +kernel
theorem dX11_copies_13 : decode cX11_copies 13 = .ok (.sipush 10740, 3) := by decide +kernel
theorem dX11_copies_16 : decode cX11_copies 16 = .ok (.iload_n 2, 1) := by decide +kernel
theorem dX11_copies_17 : decode cX11_copies 17 = .ok (.imul, 1) := by decide +kernel
theorem dX11_copies_18 : decode cX11_copies 18 = .ok (.iload_n 3, 1) := by decide +kernel
theorem dX11_copies_19 : decode cX11_copies 19 = .ok (.iadd, 1) := by decide +kernel
theorem dX11_copies_20 : decode cX11_copies 20 = .ok (.aload_n 0, 1) := by decide +kernel
theorem dX11_copies_21 : decode cX11_copies 21 = .ok (.getfield 8, 3) := by decide +kernel
theorem dX11_copies_24 : decode cX11_copies 24 = .ok (.sipush 10740, 3) := by decide +kernel
theorem dX11_copies_27 : decode cX11_copies 27 = .ok (.iload_n 1, 1) := by decide +kernel
theorem dX11_copies_28 : decode cX11_copies 28 = .ok (.imul, 1) := by decide +kernel
theorem dX11_copies_29 : decode cX11_copies 29 = .ok (.iload_n 3, 1) := by decide +kernel
theorem dX11_copies_30 : decode cX11_copies 30 = .ok (.iadd, 1) := by decide +kernel
theorem dX11_copies_31 : decode cX11_copies 31 = .ok (.iaload, 1) := by decide +kernel
theorem dX11_copies_32 : decode cX11_copies 32 = .ok (.iastore, 1) := by decide +kernel
theorem dX11_copies_33 : decode cX11_copies 33 = .ok (.iinc 3 1, 3) := by decide +kernel
theorem dX11_copies_36 : decode cX11_copies 36 = .ok (.goto (-34), 3) := by decide +kernel
theorem dX11_copies_39 : decode cX11_copies 39 = .ok (.return_, 1) := by decide +kernel

theorem dX11_count_0 : decode cX11_count 0 = .ok (.iload_n 1, 1) := by decide +kernel
theorem dX11_count_1 : decode cX11_count 1 = .ok (.tableswitch 125 0 9 #[55, 62, 69, 76, 83, 89, 95, 102, 109, 117], 55) := by decide +kernel
theorem dX11_count_56 : decode cX11_count 56 = .ok (.aload_n 0, 1) := by decide +kernel
theorem dX11_count_57 : decode cX11_count 57 = .ok (.getfield 8, 3) := by decide +kernel
theorem dX11_count_60 : decode cX11_count 60 = .ok (.iconst 0, 1) := by decide +kernel
theorem dX11_count_61 : decode cX11_count 61 = .ok (.iaload, 1) := by decide +kernel
theorem dX11_count_62 : decode cX11_count 62 = .ok (.ireturn, 1) := by decide +kernel
theorem dX11_count_63 : decode cX11_count 63 = .ok (.aload_n 0, 1) := by decide +kernel
theorem dX11_count_64 : decode cX11_count 64 = .ok (.getfield 8, 3) := by decide +kernel
theorem dX11_count_67 : decode cX11_count 67 = .ok (.iconst 1, 1) := by decide +kernel
theorem dX11_count_68 : decode cX11_count 68 = .ok (.iaload, 1) := by decide +kernel
theorem dX11_count_69 : decode cX11_count 69 = .ok (.ireturn, 1) := by decide +kernel
theorem dX11_count_70 : decode cX11_count 70 = .ok (.aload_n 0, 1) := by decide +kernel
theorem dX11_count_71 : decode cX11_count 71 = .ok (.getfield 8, 3) := by decide +kernel
theorem dX11_count_74 : decode cX11_count 74 = .ok (.iconst 2, 1) := by decide +kernel
theorem dX11_count_75 : decode cX11_count 75 = .ok (.iaload, 1) := by decide +kernel
theorem dX11_count_76 : decode cX11_count 76 = .ok (.ireturn, 1) := by decide +kernel
theorem dX11_count_77 : decode cX11_count 77 = .ok (.aload_n 0, 1) := by decide +kernel
theorem dX11_count_78 : decode cX11_count 78 = .ok (.getfield 8, 3) := by decide +kernel
theorem dX11_count_81 : decode cX11_count 81 = .ok (.iconst 3, 1) := by decide +kernel
theorem dX11_count_82 : decode cX11_count 82 = .ok (.iaload, 1) := by decide +kernel
theorem dX11_count_83 : decode cX11_count 83 = .ok (.ireturn, 1) := by decide +kernel
theorem dX11_count_84 : decode cX11_count 84 = .ok (.aload_n 0, 1) := by decide +kernel
theorem dX11_count_85 : decode cX11_count 85 = .ok (.iconst 1, 1) := by decide +kernel
theorem dX11_count_86 : decode cX11_count 86 = .ok (.invokevirtual 247, 3) := by decide +kernel
theorem dX11_count_89 : decode cX11_count 89 = .ok (.ireturn, 1) := by decide +kernel
theorem dX11_count_90 : decode cX11_count 90 = .ok (.aload_n 0, 1) := by decide +kernel
theorem dX11_count_91 : decode cX11_count 91 = .ok (.iconst 2, 1) := by decide +kernel
theorem dX11_count_92 : decode cX11_count 92 = .ok (.invokevirtual 247, 3) := by decide +kernel
theorem dX11_count_95 : decode cX11_count 95 = .ok (.ireturn, 1) := by decide +kernel
theorem dX11_count_96 : decode cX11_count 96 = .ok (.aload_n 0, 1) := by decide +kernel
theorem dX11_count_97 : decode cX11_count 97 = .ok (.getfield 8, 3) := by decide +kernel
theorem dX11_count_100 : decode cX11_count 100 = .ok (.iconst 4, 1) := by decide +kernel
theorem dX11_count_101 : decode cX11_count 101 = .ok (.iaload, 1) := by decide +kernel
theorem dX11_count_102 : decode cX11_count 102 = .ok (.ireturn, 1) := by decide +kernel
theorem dX11_count_103 : decode cX11_count 103 = .ok (.aload_n 0, 1) := by decide +kernel
theorem dX11_count_104 : decode cX11_count 104 = .ok (.getfield 8, 3) := by decide +kernel
theorem dX11_count_107 : decode cX11_count 107 = .ok (.iconst 5, 1) := by decide +kernel
theorem dX11_count_108 : decode cX11_count 108 = .ok (.iaload, 1) := by decide +kernel
theorem dX11_count_109 : decode cX11_count 109 = .ok (.ireturn, 1) := by decide +kernel
theorem dX11_count_110 : decode cX11_count 110 = .ok (.aload_n 0, 1) := by decide +kernel
theorem dX11_count_111 : decode cX11_count 111 = .ok (.getfield 8, 3) := by decide +kernel
theorem dX11_count_114 : decode cX11_count 114 = .ok (.bipush 6, 2) := by decide +kernel
theorem dX11_count_116 : decode cX11_count 116 = .ok (.iaload, 1) := by decide +kernel
theorem dX11_count_117 : decode cX11_count 117 = .ok (.ireturn, 1) := by decide +kernel
theorem dX11_count_118 : decode cX11_count 118 = .ok (.aload_n 0, 1) := by decide +kernel
theorem dX11_count_119 : decode cX11_count 119 = .ok (.getfield 8, 3) := by decide +kernel
theorem dX11_count_122 : decode cX11_count 122 = .ok (.bipush 7, 2) := by decide +kernel
theorem dX11_count_124 : decode cX11_count 124 = .ok (.iaload, 1) := by decide +kernel
theorem dX11_count_125 : decode cX11_count 125 = .ok (.ireturn, 1) := by decide +kernel
theorem dX11_count_126 : decode cX11_count 126 = .ok (.iconst (-1), 1) := by decide +kernel
theorem dX11_count_127 : decode cX11_count 127 = .ok (.ireturn, 1) := by decide +kernel

theorem dX11_passage_0 : decode cX11_passage 0 = .ok (.aload_n 0, 1) := by decide +kernel
theorem dX11_passage_1 : decode cX11_passage 1 = .ok (.getfield 8, 3) := by decide +kernel
theorem dX11_passage_4 : decode cX11_passage 4 = .ok (.bipush 7, 2) := by decide +kernel
theorem dX11_passage_6 : decode cX11_passage 6 = .ok (.iaload, 1) := by decide +kernel
theorem dX11_passage_7 : decode cX11_passage 7 = .ok (.bipush 6, 2) := by decide +kernel
theorem dX11_passage_9 : decode cX11_passage 9 = .ok (.if_icmp .eq 34, 3) := by decide +kernel
theorem dX11_passage_12 : decode cX11_passage 12 = .ok (.iload_n 1, 1) := by decide +kernel
theorem dX11_passage_13 : decode cX11_passage 13 = .ok (.iconst 0, 1) := by decide +kernel
theorem dX11_passage_14 : decode cX11_passage 14 = .ok (.sipush 1000, 3) := by decide +kernel
theorem dX11_passage_17 : decode cX11_passage 17 = .ok (.invokestatic 43, 3) := by decide +kernel
theorem dX11_passage_20 : decode cX11_passage 20 = .ok (.ifCond .eq 23, 3) := by decide +kernel
theorem dX11_passage_23 : decode cX11_passage 23 = .ok (.iload_n 2, 1) := by decide +kernel
theorem dX11_passage_24 : decode cX11_passage 24 = .ok (.iconst 1, 1) := by decide +kernel
theorem dX11_passage_25 : decode cX11_passage 25 = .ok (.bipush 100, 2) := by decide +kernel
theorem dX11_passage_27 : decode cX11_passage 27 = .ok (.invokestatic 43, 3) := by decide +kernel
theorem dX11_passage_30 : decode cX11_passage 30 = .ok (.ifCond .eq 13, 3) := by decide +kernel
theorem dX11_passage_33 : decode cX11_passage 33 = .ok (.iload_n 3, 1) := by decide +kernel
theorem dX11_passage_34 : decode cX11_passage 34 = .ok (.iconst 1, 1) := by decide +kernel
theorem dX11_passage_35 : decode cX11_passage 35 = .ok (.bipush 100, 2) := by decide +kernel
theorem dX11_passage_37 : decode cX11_passage 37 = .ok (.invokestatic 43, 3) := by decide +kernel
theorem dX11_passage_40 : decode cX11_passage 40 = .ok (.ifCond .ne 5, 3) := by decide +kernel
theorem dX11_passage_43 : decode cX11_passage 43 = .ok (.iconst (-1), 1) := by decide +kernel
theorem dX11_passage_44 : decode cX11_passage 44 = .ok (.ireturn, 1) := by decide +kernel
theorem dX11_passage_45 : decode cX11_passage 45 = .ok (.bipush 20, 2) := by decide +kernel
theorem dX11_passage_47 : decode cX11_passage 47 = .ok (.iconst 3, 1) := by decide +kernel
theorem dX11_passage_48 : decode cX11_passage 48 = .ok (.aload_n 0, 1) := by decide +kernel
theorem dX11_passage_49 : decode cX11_passage 49 = .ok (.getfield 8, 3) := by decide +kernel
theorem dX11_passage_52 : decode cX11_passage 52 = .ok (.bipush 7, 2) := by decide +kernel
theorem dX11_passage_54 : decode cX11_passage 54 = .ok (.iaload, 1) := by decide +kernel
theorem dX11_passage_55 : decode cX11_passage 55 = .ok (.imul, 1) := by decide +kernel
theorem dX11_passage_56 : decode cX11_passage 56 = .ok (.iadd, 1) := by decide +kernel
theorem dX11_passage_57 : decode cX11_passage 57 = .ok (.istore 4, 2) := by decide +kernel
theorem dX11_passage_59 : decode cX11_passage 59 = .ok (.aload_n 0, 1) := by decide +kernel
theorem dX11_passage_60 : decode cX11_passage 60 = .ok (.getfield 8, 3) := by decide +kernel
theorem dX11_passage_63 : decode cX11_passage 63 = .ok (.iload 4, 2) := by decide +kernel
theorem dX11_passage_65 : decode cX11_passage 65 = .ok (.iload_n 1, 1) := by decide +kernel
theorem dX11_passage_66 : decode cX11_passage 66 = .ok (.iastore, 1) := by decide +kernel
theorem dX11_passage_67 : decode cX11_passage 67 = .ok (.aload_n 0, 1) := by decide +kernel
theorem dX11_passage_68 : decode cX11_passage 68 = .ok (.getfield 8, 3) := by decide +kernel
theorem dX11_passage_71 : decode cX11_passage 71 = .ok (.iload 4, 2) := by decide +kernel
theorem dX11_passage_73 : decode cX11_passage 73 = .ok (.iconst 1, 1) := by decide +kernel
theorem dX11_passage_74 : decode cX11_passage 74 = .ok (.iadd, 1) := by decide +kernel
theorem dX11_passage_75 : decode cX11_passage 75 = .ok (.iload_n 2, 1) := by decide +kernel
theorem dX11_passage_76 : decode cX11_passage 76 = .ok (.iastore, 1) := by decide +kernel
theorem dX11_passage_77 : decode cX11_passage 77 = .ok (.aload_n 0, 1) := by decide +kernel
theorem dX11_passage_78 : decode cX11_passage 78 = .ok (.getfield 8, 3) := by decide +kernel
theorem dX11_passage_81 : decode cX11_passage 81 = .ok (.iload 4, 2) := by decide +kernel
theorem dX11_passage_83 : decode cX11_passage 83 = .ok (.iconst 2, 1) := by decide +kernel
theorem dX11_passage_84 : decode cX11_passage 84 = .ok (.iadd, 1) := by decide +kernel
theorem dX11_passage_85 : decode cX11_passage 85 = .ok (.iload_n 3, 1) := by decide +kernel
theorem dX11_passage_86 : decode cX11_passage 86 = .ok (.iastore, 1) := by decide +kernel
theorem dX11_passage_87 : decode cX11_passage 87 = .ok (.aload_n 0, 1) := by decide +kernel
theorem dX11_passage_88 : decode cX11_passage 88 = .ok (.getfield 8, 3) := by decide +kernel
theorem dX11_passage_91 : decode cX11_passage 91 = .ok (.bipush 7, 2) := by decide +kernel
theorem dX11_passage_93 : decode cX11_passage 93 = .ok (.dup2, 1) := by decide +kernel
theorem dX11_passage_94 : decode cX11_passage 94 = .ok (.iaload, 1) := by decide +kernel
theorem dX11_passage_95 : decode cX11_passage 95 = .ok (.iconst 1, 1) := by decide +kernel
theorem dX11_passage_96 : decode cX11_passage 96 = .ok (.iadd, 1) := by decide +kernel
theorem dX11_passage_97 : decode cX11_passage 97 = .ok (.iastore, 1) := by decide +kernel
theorem dX11_passage_98 : decode cX11_passage 98 = .ok (.aload_n 0, 1) := by decide +kernel
theorem dX11_passage_99 : decode cX11_passage 99 = .ok (.getfield 8, 3) := by decide +kernel
theorem dX11_passage_102 : decode cX11_passage 102 = .ok (.bipush 7, 2) := by decide +kernel
theorem dX11_passage_104 : decode cX11_passage 104 = .ok (.iaload, 1) := by decide +kernel
theorem dX11_passage_105 : decode cX11_passage 105 = .ok (.iconst 1, 1) := by decide +kernel
theorem dX11_passage_106 : decode cX11_passage 106 = .ok (.isub, 1) := by decide +kernel
theorem dX11_passage_107 : decode cX11_passage 107 = .ok (.ireturn, 1) := by decide +kernel

theorem dX11_clear_0 : decode cX11_clear 0 = .ok (.aload_n 0, 1) := by decide +kernel
theorem dX11_clear_1 : decode cX11_clear 1 = .ok (.getfield 8, 3) := by decide +kernel
theorem dX11_clear_4 : decode cX11_clear 4 = .ok (.bipush 7, 2) := by decide +kernel
theorem dX11_clear_6 : decode cX11_clear 6 = .ok (.iconst 0, 1) := by decide +kernel
theorem dX11_clear_7 : decode cX11_clear 7 = .ok (.iastore, 1) := by decide +kernel
theorem dX11_clear_8 : decode cX11_clear 8 = .ok (.return_, 1) := by decide +kernel

theorem dX11_turn_0 : decode cX11_turn 0 = .ok (.iload_n 1, 1) := by decide +kernel
theorem dX11_turn_1 : decode cX11_turn 1 = .ok (.iconst 0, 1) := by decide +kernel
theorem dX11_turn_2 : decode cX11_turn 2 = .ok (.aload_n 0, 1) := by decide +kernel
theorem dX11_turn_3 : decode cX11_turn 3 = .ok (.getfield 8, 3) := by decide +kernel
theorem dX11_turn_6 : decode cX11_turn 6 = .ok (.bipush 8, 2) := by decide +kernel
theorem dX11_turn_8 : decode cX11_turn 8 = .ok (.iaload, 1) := by decide +kernel
theorem dX11_turn_9 : decode cX11_turn 9 = .ok (.iconst 1, 1) := by decide +kernel
theorem dX11_turn_10 : decode cX11_turn 10 = .ok (.isub, 1) := by decide +kernel
theorem dX11_turn_11 : decode cX11_turn 11 = .ok (.invokestatic 43, 3) := by decide +kernel
theorem dX11_turn_14 : decode cX11_turn 14 = .ok (.ifCond .eq 15, 3) := by decide +kernel
theorem dX11_turn_17 : decode cX11_turn 17 = .ok (.aload_n 0, 1) := by decide +kernel
theorem dX11_turn_18 : decode cX11_turn 18 = .ok (.getfield 8, 3) := by decide +kernel
theorem dX11_turn_21 : decode cX11_turn 21 = .ok (.bipush 12, 2) := by decide +kernel
theorem dX11_turn_23 : decode cX11_turn 23 = .ok (.iload_n 1, 1) := by decide +kernel
theorem dX11_turn_24 : decode cX11_turn 24 = .ok (.iadd, 1) := by decide +kernel
theorem dX11_turn_25 : decode cX11_turn 25 = .ok (.iaload, 1) := by decide +kernel
theorem dX11_turn_26 : decode cX11_turn 26 = .ok (.goto 4, 3) := by decide +kernel
theorem dX11_turn_29 : decode cX11_turn 29 = .ok (.iconst (-1), 1) := by decide +kernel
theorem dX11_turn_30 : decode cX11_turn 30 = .ok (.ireturn, 1) := by decide +kernel

theorem dX11_image_0 : decode cX11_image 0 = .ok (.iload_n 1, 1) := by decide +kernel
theorem dX11_image_1 : decode cX11_image 1 = .ok (.iconst 0, 1) := by decide +kernel
theorem dX11_image_2 : decode cX11_image 2 = .ok (.iconst 2, 1) := by decide +kernel
theorem dX11_image_3 : decode cX11_image 3 = .ok (.invokestatic 43, 3) := by decide +kernel
theorem dX11_image_6 : decode cX11_image 6 = .ok (.ifCond .ne 5, 3) := by decide +kernel
theorem dX11_image_9 : decode cX11_image 9 = .ok (.iconst 0, 1) := by decide +kernel
theorem dX11_image_10 : decode cX11_image 10 = .ok (.ireturn, 1) := by decide +kernel
theorem dX11_image_11 : decode cX11_image 11 = .ok (.aload_n 0, 1) := by decide +kernel
theorem dX11_image_12 : decode cX11_image 12 = .ok (.getfield 14, 3) := by decide +kernel
theorem dX11_image_15 : decode cX11_image 15 = .ok (.iload_n 1, 1) := by decide +kernel
theorem dX11_image_16 : decode cX11_image 16 = .ok (.iconst 1, 1) := by decide +kernel
theorem dX11_image_17 : decode cX11_image 17 = .ok (.bastore, 1) := by decide +kernel
theorem dX11_image_18 : decode cX11_image 18 = .ok (.aload_n 0, 1) := by decide +kernel
theorem dX11_image_19 : decode cX11_image 19 = .ok (.iconst 0, 1) := by decide +kernel
theorem dX11_image_20 : decode cX11_image 20 = .ok (.iload_n 1, 1) := by decide +kernel
theorem dX11_image_21 : decode cX11_image 21 = .ok (.iconst 1, 1) := by decide +kernel
theorem dX11_image_22 : decode cX11_image 22 = .ok (.iadd, 1) := by decide +kernel
theorem dX11_image_23 : decode cX11_image 23 = .ok (.invokevirtual 244, 3) := by decide +kernel
theorem dX11_image_26 : decode cX11_image 26 = .ok (.iconst 1, 1) := by decide +kernel
theorem dX11_image_27 : decode cX11_image 27 = .ok (.ireturn, 1) := by decide +kernel

theorem dX11_again_0 : decode cX11_again 0 = .ok (.iload_n 1, 1) := by decide +kernel
theorem dX11_again_1 : decode cX11_again 1 = .ok (.iconst 0, 1) := by decide +kernel
theorem dX11_again_2 : decode cX11_again 2 = .ok (.iconst 2, 1) := by decide +kernel
theorem dX11_again_3 : decode cX11_again 3 = .ok (.invokestatic 43, 3) := by decide +kernel
theorem dX11_again_6 : decode cX11_again 6 = .ok (.ifCond .eq 12, 3) := by decide +kernel
theorem dX11_again_9 : decode cX11_again 9 = .ok (.aload_n 0, 1) := by decide +kernel
theorem dX11_again_10 : decode cX11_again 10 = .ok (.getfield 14, 3) := by decide +kernel
theorem dX11_again_13 : decode cX11_again 13 = .ok (.iload_n 1, 1) := by decide +kernel
theorem dX11_again_14 : decode cX11_again 14 = .ok (.baload, 1) := by decide +kernel
theorem dX11_again_15 : decode cX11_again 15 = .ok (.ifCond .ne 5, 3) := by decide +kernel
theorem dX11_again_18 : decode cX11_again 18 = .ok (.iconst 0, 1) := by decide +kernel
theorem dX11_again_19 : decode cX11_again 19 = .ok (.ireturn, 1) := by decide +kernel
theorem dX11_again_20 : decode cX11_again 20 = .ok (.aload_n 0, 1) := by decide +kernel
theorem dX11_again_21 : decode cX11_again 21 = .ok (.iload_n 1, 1) := by decide +kernel
theorem dX11_again_22 : decode cX11_again 22 = .ok (.iconst 1, 1) := by decide +kernel
theorem dX11_again_23 : decode cX11_again 23 = .ok (.iadd, 1) := by decide +kernel
theorem dX11_again_24 : decode cX11_again 24 = .ok (.iconst 0, 1) := by decide +kernel
theorem dX11_again_25 : decode cX11_again 25 = .ok (.invokevirtual 244, 3) := by decide +kernel
theorem dX11_again_28 : decode cX11_again 28 = .ok (.iconst 1, 1) := by decide +kernel
theorem dX11_again_29 : decode cX11_again 29 = .ok (.ireturn, 1) := by decide +kernel

/-! X11_isIn -/
def wX11_isIn (Q : Int32 → Prop) (x0 : Int32) (x1 : Int32) (x2 : Int32)  : Prop :=
  ((x0 < x1 → (Q (0 : Int32))) ∧ (¬ x0 < x1 → ((x2 < x0 → (Q (0 : Int32))) ∧ (¬ x2 < x0 → (Q (1 : Int32))))))
abbrev rmX11_isIn : Room := { frames := 0, cells := 0, slots := 0, locals := 0 }
abbrev qX11_isIn (dC : Nat → ClassId) (dI : Nat → Nat → Nat) (cI cZ cO cW : ClassId)  (Q : Int32 → Prop) (A : Nat → Prop) : Array Value → State → Outcome → State → Prop := va_Qi (fun (r : Int32) (u : Unit) => Q r) (fun (u : Unit) (t : State) => va_P (dC, dI) vwCl ([] : va_W) t.heap ∧ va_K (dC, dI) vwCl (tysA cI cZ cO cW) t ∧ va_D A ([] : va_W)) A
def zsX11_isIn : List Cond := Cond.code yX11_isIn cX11_isIn 3 (some .boolean) :: GW
set_option maxHeartbeats 4000000 in
set_option maxRecDepth 100000 in
theorem tX11_isIn_e {p : Program} {l : Launch} {e : Env} {s : State} {m : MethodId} {args : Array Value} {below : List Frame} {meth : Method} {c : Code} {dC : Nat → ClassId} {dI : Nat → Nat → Nat} {cI cZ cO cW : ClassId} {A : Nat → Prop} {Q : Int32 → Prop} (hC : Cx p s m args meth c cX11_isIn (some .boolean) 3 GW RX11) (hK : va_K (dC, dI) vwCl (tysA cI cZ cO cW) s) (hA : ∀ q : Nat, s.heap.size ≤ q → A q) :
    ∀ (x0 : Int32) (x1 : Int32) (x2 : Int32) (H : Heap) (locs : List Loc) (ls : Array Slot), wX11_isIn Q x0 x1 x2  → va_P (dC, dI) vwCl ([] : va_W) H → va_D A ([] : va_W) → va_S A s.heap H locs → lv_has ls 3 [(0, .int x0), (1, .int x1), (2, .int x2)] → W p l e rmX11_isIn s m args below meth c H locs 0 0 (MQ below (qX11_isIn dC dI cI cZ cO cW Q A) args s 0 0 A) (F0 m 0 ls []) := by
  obtain ⟨hx, hb, hr, hml, hown, hts, hlocks⟩ := id hC
  intro x0 x1 x2 H locs ls hw hP hD hS hl
  refine lv_iload_n hx hb dX11_isIn_0 rfl (lv_at hl 0 rfl) ?_
  refine lv_iload_n hx hb dX11_isIn_1 rfl (lv_at hl 1 rfl) ?_
  refine lv_icmp_lt (tgt := 14) hx hb dX11_isIn_2 (by decide) (fun c_1 => ?_) (fun c_1 => ?_)
  · have hw := hw.1 c_1
    refine lv_iconst (v := (0 : Int32)) hx hb dX11_isIn_14 (by decide) ?_
    have hP9 := hP.sub (ws' := ([] : va_W)) [] rfl
    have hD9 := hD.sub (ws' := ([] : va_W)) [] (by decide) rfl
    exact W.zret (v := (0 : Int32)) (ty := .boolean) hx hb hr rfl (fun t ht hW => ⟨⟨(0 : Int32), (), rfl, hw, by rw [ht]; exact hP9, va_K.moved hW.alike hK, hD9⟩, hS.F ht⟩) hS.2.2 dX11_isIn_15
  · have hw := hw.2 c_1
    refine lv_iload_n hx hb dX11_isIn_5 rfl (lv_at hl 0 rfl) ?_
    refine lv_iload_n hx hb dX11_isIn_6 rfl (lv_at hl 2 rfl) ?_
    refine lv_icmp_gt (tgt := 14) hx hb dX11_isIn_7 (by decide) (fun c_2 => ?_) (fun c_2 => ?_)
    · have hw := hw.1 c_2
      refine lv_iconst (v := (0 : Int32)) hx hb dX11_isIn_14 (by decide) ?_
      have hP9 := hP.sub (ws' := ([] : va_W)) [] rfl
      have hD9 := hD.sub (ws' := ([] : va_W)) [] (by decide) rfl
      exact W.zret (v := (0 : Int32)) (ty := .boolean) hx hb hr rfl (fun t ht hW => ⟨⟨(0 : Int32), (), rfl, hw, by rw [ht]; exact hP9, va_K.moved hW.alike hK, hD9⟩, hS.F ht⟩) hS.2.2 dX11_isIn_15
    · have hw := hw.2 c_2
      refine lv_iconst (v := (1 : Int32)) hx hb dX11_isIn_10 (by decide) ?_
      refine lv_goto (tgt := 15) hx hb dX11_isIn_11 (by decide) ?_
      have hP9 := hP.sub (ws' := ([] : va_W)) [] rfl
      have hD9 := hD.sub (ws' := ([] : va_W)) [] (by decide) rfl
      exact W.zret (v := (1 : Int32)) (ty := .boolean) hx hb hr rfl (fun t ht hW => ⟨⟨(1 : Int32), (), rfl, hw, by rw [ht]; exact hP9, va_K.moved hW.alike hK, hD9⟩, hS.F ht⟩) hS.2.2 dX11_isIn_15
set_option maxHeartbeats 4000000 in
set_option maxRecDepth 100000 in
theorem kX11_isIn (l : Launch) (dC : Nat → ClassId) (dI : Nat → Nat → Nat) (cI cZ cO cW : ClassId)  (sz : Nat)  (x0 : Int32) (x1 : Int32) (x2 : Int32) (Q : Int32 → Prop) (hw : wX11_isIn Q x0 x1 x2 ) : Met l yX11_isIn zsX11_isIn rmX11_isIn (va_Pc [.int x0, .int x1, .int x2] (fun U => U.heap.size = sz ∧ va_P (dC, dI) vwCl ([] : va_W) U.heap ∧ va_K (dC, dI) vwCl (tysA cI cZ cO cW) U ∧ va_D (fun _ => True) ([] : va_W))) (qX11_isIn dC dI cI cZ cO cW Q (va_A ([] : va_W) sz)) 0 0 (va_A ([] : va_W) sz) := by
  refine Met.ofW (cc := cX11_isIn) (maxL := 3) (ret := (some .boolean)) (by decide) rfl ?_
  intro p e s m args below meth c s₁ B hml hv
  obtain ⟨rfl, hsz, hP, hK, hD0⟩ := hv
  subst hsz
  have hC : Cx p s m ([.int x0, .int x1, .int x2] : List Value).toArray meth c cX11_isIn (some .boolean) 3 GW RX11 := ⟨B.exec, B.bytes, B.returns, hml, findClass_of_methodNamed B.named, fun w h => atoms_spec (ws := zsX11_isIn) B.pre w (List.mem_cons_of_mem _ h), B.notSynchronized⟩
  have hD := hD0.self (sz := s.heap.size)
  generalize hAe : va_A ([] : va_W) s.heap.size = A at hD ⊢
  have hA : ∀ q : Nat, s.heap.size ≤ q → A q := fun q h => by rw [← hAe]; exact Or.inr h
  have hl := lv_entry ([.int x0, .int x1, .int x2]) (n := 3) (Nat.le_of_ble_eq_true rfl)
  rw [lg_entry_eq]
  generalize (lg_sl ([.int x0, .int x1, .int x2]) ++ List.replicate (3 - (lg_sl ([.int x0, .int x1, .int x2])).length) Slot.unset).toArray = ls at hl ⊢
  exact tX11_isIn_e hC hK hA x0 x1 x2 _ _ ls hw hP hD va_S.rf hl

/-! X11_begins -/
def wX11_begins_100 (Q : (Nat → Int32) → Prop) (K_61 : Int32 → Int32 → (Nat → Int32) → Prop)  (x3 : Int32) (x4 : Int32) (s1 : Int32) (s2 : Int32) (r_all : (Nat → Int32)) : Prop :=
  (vp_in s1 53700 ∧ (K_61 x3 (x4 + (1 : Int32)) (upd r_all s1.toNatClampNeg s2)))
def wX11_begins_61 (Q : (Nat → Int32) → Prop) (K_52 : Int32 → (Nat → Int32) → Prop)  : Nat → Int32 → Int32 → (Nat → Int32) → Prop
  | 0, _, _, _ => False
  | n + 1, x3, x4, r_all => (((5 : Int32) ≤ x4 → (K_52 (x3 + (1 : Int32)) r_all)) ∧ (¬ (5 : Int32) ≤ x4 → ((¬ x4 = 0 → ((¬ x4 = (3 : Int32) → (wX11_begins_100 Q (wX11_begins_61 Q K_52 n) x3 x4 (((40 : Int32) + ((5 : Int32) * x3)) + x4) (0 : Int32) r_all)) ∧ (x4 = (3 : Int32) → (wX11_begins_100 Q (wX11_begins_61 Q K_52 n) x3 x4 (((40 : Int32) + ((5 : Int32) * x3)) + x4) (-1 : Int32) r_all)))) ∧ (x4 = 0 → (wX11_begins_100 Q (wX11_begins_61 Q K_52 n) x3 x4 (((40 : Int32) + ((5 : Int32) * x3)) + x4) (1 : Int32) r_all)))))
def wX11_begins_115 (Q : (Nat → Int32) → Prop)   : Nat → Int32 → (Nat → Int32) → Prop
  | 0, _, _ => False
  | n + 1, x3, r_all => (((3000 : Int32) ≤ x3 → (Q r_all)) ∧ (¬ (3000 : Int32) ≤ x3 → (vp_in ((460 : Int32) + x3) 53700 ∧ (wX11_begins_115 Q n (x3 + (1 : Int32)) (upd r_all ((460 : Int32) + x3).toNatClampNeg (0 : Int32))))))
def wX11_begins_52 (Q : (Nat → Int32) → Prop)   : Nat → Int32 → (Nat → Int32) → Prop
  | 0, _, _ => False
  | n + 1, x3, r_all => (((64 : Int32) ≤ x3 → (∃ j_, wX11_begins_115 Q j_ (0 : Int32) r_all)) ∧ (¬ (64 : Int32) ≤ x3 → (∃ j_, wX11_begins_61 Q (wX11_begins_52 Q n) j_ x3 (0 : Int32) r_all)))
def wX11_begins (Q : (Nat → Int32) → Prop) (x1 : Int32) (x2 : Int32) (r_all : Nat → Int32) : Prop :=
  (vp_in (0 : Int32) 53700 ∧ (vp_in (1 : Int32) 53700 ∧ (vp_in (2 : Int32) 53700 ∧ (vp_in (3 : Int32) 53700 ∧ (vp_in (4 : Int32) 53700 ∧ (vp_in (5 : Int32) 53700 ∧ (vp_in (6 : Int32) 53700 ∧ (∃ j_, wX11_begins_52 Q j_ (0 : Int32) (upd (upd (upd (upd (upd (upd (upd r_all (0 : Int32).toNatClampNeg x1) (1 : Int32).toNatClampNeg x2) (2 : Int32).toNatClampNeg (0 : Int32)) (3 : Int32).toNatClampNeg (0 : Int32)) (4 : Int32).toNatClampNeg (0 : Int32)) (5 : Int32).toNatClampNeg (0 : Int32)) (6 : Int32).toNatClampNeg (0 : Int32))))))))))
abbrev vX11_begins (cI cZ : ClassId) (h h_all h_has h_line h_act h_pile h_comes h_leaves h_tried h_met : Nat) (f_size : Int32) (f_next : Int32) (f_where : Int32) (f_token : Int32) (f_number : Int32) (f_sign : Int32) (f_word : Int32) (f_wrong : Int32) (f_open : Int32) (f_lines : Int32) (f_acts : Int32) (r_all : Nat → Int32) : va_W := [(h, .inr (10, [.ref h_all, .ref h_has, .int f_size, .int f_next, .int f_where, .int f_token, .int f_number, .int f_sign, .int f_word, .int f_wrong, .int f_open, .int f_lines, .int f_acts, .ref h_line, .ref h_act, .ref h_pile, .ref h_comes, .ref h_leaves, .ref h_tried, .ref h_met])), (h_all, .inl (cI, 53700, .inl r_all))]
abbrev rmX11_begins : Room := { frames := 0, cells := 0, slots := 0, locals := 0 }
abbrev qX11_begins (dC : Nat → ClassId) (dI : Nat → Nat → Nat) (cI cZ cO cW : ClassId) (h h_all h_has h_line h_act h_pile h_comes h_leaves h_tried h_met : Nat) (f_size : Int32) (f_next : Int32) (f_where : Int32) (f_token : Int32) (f_number : Int32) (f_sign : Int32) (f_word : Int32) (f_wrong : Int32) (f_open : Int32) (f_lines : Int32) (f_acts : Int32) (Q : (Nat → Int32) → Prop) (A : Nat → Prop) : Array Value → State → Outcome → State → Prop := va_Qv (fun (u : (Nat → Int32)) => Q u) (fun (u : (Nat → Int32)) (t : State) => va_P (dC, dI) vwCl (vX11_begins cI cZ h h_all h_has h_line h_act h_pile h_comes h_leaves h_tried h_met f_size f_next f_where f_token f_number f_sign f_word f_wrong f_open f_lines f_acts u) t.heap ∧ va_K (dC, dI) vwCl (tysA cI cZ cO cW) t ∧ va_D A (vX11_begins cI cZ h h_all h_has h_line h_act h_pile h_comes h_leaves h_tried h_met f_size f_next f_where f_token f_number f_sign f_word f_wrong f_open f_lines f_acts u)) A
def zsX11_begins : List Cond := Cond.code yX11_begins cX11_begins 5 none :: GW
set_option maxHeartbeats 4000000 in
set_option maxRecDepth 100000 in
theorem tX11_begins_100 {p : Program} {l : Launch} {e : Env} {s : State} {m : MethodId} {args : Array Value} {below : List Frame} {meth : Method} {c : Code} {dC : Nat → ClassId} {dI : Nat → Nat → Nat} {cI cZ cO cW : ClassId} {A : Nat → Prop} {h h_all h_has h_line h_act h_pile h_comes h_leaves h_tried h_met : Nat} {f_size f_next f_where f_token f_number f_sign f_word f_wrong f_open f_lines f_acts : Int32} {Q : (Nat → Int32) → Prop} {K_61 : Int32 → Int32 → (Nat → Int32) → Prop} (hC : Cx p s m args meth c cX11_begins none 5 GW RX11) (hK : va_K (dC, dI) vwCl (tysA cI cZ cO cW) s) (hA : ∀ q : Nat, s.heap.size ≤ q → A q) (hk_61 : ∀ (x3 : Int32) (x4 : Int32) (r_all : (Nat → Int32)) (H : Heap) (locs : List Loc) (ls : Array Slot), K_61 x3 x4 r_all → va_P (dC, dI) vwCl (vX11_begins cI cZ h h_all h_has h_line h_act h_pile h_comes h_leaves h_tried h_met f_size f_next f_where f_token f_number f_sign f_word f_wrong f_open f_lines f_acts r_all) H → va_D A (vX11_begins cI cZ h h_all h_has h_line h_act h_pile h_comes h_leaves h_tried h_met f_size f_next f_where f_token f_number f_sign f_word f_wrong f_open f_lines f_acts r_all) → va_S A s.heap H locs → lv_has ls 5 [(0, .ref h), (3, .int x3), (4, .int x4)] → W p l e rmX11_begins s m args below meth c H locs 0 0 (MQ below (qX11_begins dC dI cI cZ cO cW h h_all h_has h_line h_act h_pile h_comes h_leaves h_tried h_met f_size f_next f_where f_token f_number f_sign f_word f_wrong f_open f_lines f_acts Q A) args s 0 0 A) (F0 m 61 ls [])) :
    ∀ (x3 : Int32) (x4 : Int32) (s1 : Int32) (s2 : Int32) (r_all : (Nat → Int32)) (H : Heap) (locs : List Loc) (ls : Array Slot), wX11_begins_100 Q K_61 x3 x4 s1 s2 r_all → va_P (dC, dI) vwCl (vX11_begins cI cZ h h_all h_has h_line h_act h_pile h_comes h_leaves h_tried h_met f_size f_next f_where f_token f_number f_sign f_word f_wrong f_open f_lines f_acts r_all) H → va_D A (vX11_begins cI cZ h h_all h_has h_line h_act h_pile h_comes h_leaves h_tried h_met f_size f_next f_where f_token f_number f_sign f_word f_wrong f_open f_lines f_acts r_all) → va_S A s.heap H locs → lv_has ls 5 [(0, .ref h), (3, .int x3), (4, .int x4)] → W p l e rmX11_begins s m args below meth c H locs 0 0 (MQ below (qX11_begins dC dI cI cZ cO cW h h_all h_has h_line h_act h_pile h_comes h_leaves h_tried h_met f_size f_next f_where f_token f_number f_sign f_word f_wrong f_open f_lines f_acts Q A) args s 0 0 A) (F0 m 100 ls [.int s2, .int s1, .ref h_all]) := by
  obtain ⟨hx, hb, hr, hml, hown, hts, hlocks⟩ := id hC
  intro x3 x4 s1 s2 r_all H locs ls hw hP hD hS hl
  obtain ⟨h_1, hw⟩ := hw
  refine va_iast hx hb hK hP hD hS 1 0 rfl rfl h_1 dX11_begins_100 (fun H locs hP hD hS => ?_)
  have hP : va_P (dC, dI) vwCl [(h, .inr (10, [.ref h_all, .ref h_has, .int f_size, .int f_next, .int f_where, .int f_token, .int f_number, .int f_sign, .int f_word, .int f_wrong, .int f_open, .int f_lines, .int f_acts, .ref h_line, .ref h_act, .ref h_pile, .ref h_comes, .ref h_leaves, .ref h_tried, .ref h_met])), (h_all, .inl (cI, 53700, .inl (upd r_all s1.toNatClampNeg s2)))] _ := hP
  have hD : va_D A [(h, .inr (10, [.ref h_all, .ref h_has, .int f_size, .int f_next, .int f_where, .int f_token, .int f_number, .int f_sign, .int f_word, .int f_wrong, .int f_open, .int f_lines, .int f_acts, .ref h_line, .ref h_act, .ref h_pile, .ref h_comes, .ref h_leaves, .ref h_tried, .ref h_met])), (h_all, .inl (cI, 53700, .inl (upd r_all s1.toNatClampNeg s2)))] := hD
  refine lv_iinc (v := (x4 + (1 : Int32))) (lv' := [(4, .int (x4 + (1 : Int32))), (0, .ref h), (3, .int x3)]) hx hb dX11_begins_101 hl (k := 2) rfl rfl (by decide) rfl (fun ls hl => ?_)
  refine lv_goto (tgt := 61) hx hb dX11_begins_104 (by decide) ?_
  exact hk_61 x3 (x4 + (1 : Int32)) (upd r_all s1.toNatClampNeg s2) _ _ ls hw (hP.sub [0, 1] rfl) (hD.sub [0, 1] (by decide) rfl) hS (lv_sub hl [1, 2, 0] rfl)
set_option maxHeartbeats 4000000 in
set_option maxRecDepth 100000 in
theorem tX11_begins_61 {p : Program} {l : Launch} {e : Env} {s : State} {m : MethodId} {args : Array Value} {below : List Frame} {meth : Method} {c : Code} {dC : Nat → ClassId} {dI : Nat → Nat → Nat} {cI cZ cO cW : ClassId} {A : Nat → Prop} {h h_all h_has h_line h_act h_pile h_comes h_leaves h_tried h_met : Nat} {f_size f_next f_where f_token f_number f_sign f_word f_wrong f_open f_lines f_acts : Int32} {Q : (Nat → Int32) → Prop} {K_52 : Int32 → (Nat → Int32) → Prop} (hC : Cx p s m args meth c cX11_begins none 5 GW RX11) (hK : va_K (dC, dI) vwCl (tysA cI cZ cO cW) s) (hA : ∀ q : Nat, s.heap.size ≤ q → A q) (hk_52 : ∀ (x3 : Int32) (r_all : (Nat → Int32)) (H : Heap) (locs : List Loc) (ls : Array Slot), K_52 x3 r_all → va_P (dC, dI) vwCl (vX11_begins cI cZ h h_all h_has h_line h_act h_pile h_comes h_leaves h_tried h_met f_size f_next f_where f_token f_number f_sign f_word f_wrong f_open f_lines f_acts r_all) H → va_D A (vX11_begins cI cZ h h_all h_has h_line h_act h_pile h_comes h_leaves h_tried h_met f_size f_next f_where f_token f_number f_sign f_word f_wrong f_open f_lines f_acts r_all) → va_S A s.heap H locs → lv_has ls 5 [(0, .ref h), (3, .int x3)] → W p l e rmX11_begins s m args below meth c H locs 0 0 (MQ below (qX11_begins dC dI cI cZ cO cW h h_all h_has h_line h_act h_pile h_comes h_leaves h_tried h_met f_size f_next f_where f_token f_number f_sign f_word f_wrong f_open f_lines f_acts Q A) args s 0 0 A) (F0 m 52 ls [])) :
    ∀ (n : Nat) (x3 : Int32) (x4 : Int32) (r_all : (Nat → Int32)) (H : Heap) (locs : List Loc) (ls : Array Slot), wX11_begins_61 Q K_52 n x3 x4 r_all → va_P (dC, dI) vwCl (vX11_begins cI cZ h h_all h_has h_line h_act h_pile h_comes h_leaves h_tried h_met f_size f_next f_where f_token f_number f_sign f_word f_wrong f_open f_lines f_acts r_all) H → va_D A (vX11_begins cI cZ h h_all h_has h_line h_act h_pile h_comes h_leaves h_tried h_met f_size f_next f_where f_token f_number f_sign f_word f_wrong f_open f_lines f_acts r_all) → va_S A s.heap H locs → lv_has ls 5 [(0, .ref h), (3, .int x3), (4, .int x4)] → W p l e rmX11_begins s m args below meth c H locs 0 0 (MQ below (qX11_begins dC dI cI cZ cO cW h h_all h_has h_line h_act h_pile h_comes h_leaves h_tried h_met f_size f_next f_where f_token f_number f_sign f_word f_wrong f_open f_lines f_acts Q A) args s 0 0 A) (F0 m 61 ls []) := by
  obtain ⟨hx, hb, hr, hml, hown, hts, hlocks⟩ := id hC
  intro n
  induction n with
  | zero =>
    intro  x3 x4 r_all H locs ls hw
    exact hw.elim
  | succ n ih =>
    intro  x3 x4 r_all H locs ls hw hP hD hS hl
    refine lv_iload hx hb dX11_begins_61 (lv_at hl 2 rfl) ?_
    refine lv_iconst (v := (5 : Int32)) hx hb dX11_begins_63 (by decide) ?_
    refine lv_icmp_ge (tgt := 107) hx hb dX11_begins_64 (by decide) (fun c_2 => ?_) (fun c_2 => ?_)
    · have hw := hw.1 c_2
      refine lv_iinc (v := (x3 + (1 : Int32))) (lv' := [(3, .int (x3 + (1 : Int32))), (0, .ref h), (4, .int x4)]) hx hb dX11_begins_107 hl (k := 1) rfl rfl (by decide) rfl (fun ls hl => ?_)
      refine lv_goto (tgt := 52) hx hb dX11_begins_110 (by decide) ?_
      exact hk_52 (x3 + (1 : Int32)) r_all _ _ ls hw (hP.sub [0, 1] rfl) (hD.sub [0, 1] (by decide) rfl) hS (lv_sub hl [1, 0] rfl)
    · have hw := hw.2 c_2
      refine lv_aload_n hx hb dX11_begins_67 rfl (lv_at hl 0 rfl) ?_
      refine va_get (D := (dC, dI)) (ci := 10) (v := .ref h_all) (C := RX11) (T := TX11) (N := 20) hx hb hts gu_X11 hown hK hP 0 rfl rfl 0 (by decide) (hts _ gw_607) (fun _ h9 => h9) rfl dX11_begins_68 ?_
      refine lv_bipush (v := (40 : Int32)) hx hb dX11_begins_71 (by decide) ?_
      refine lv_iconst (v := (5 : Int32)) hx hb dX11_begins_73 (by decide) ?_
      refine lv_iload_n hx hb dX11_begins_74 rfl (lv_at hl 1 rfl) ?_
      refine lv_imul hx hb dX11_begins_75 ?_
      refine lv_iadd hx hb dX11_begins_76 ?_
      refine lv_iload hx hb dX11_begins_77 (lv_at hl 2 rfl) ?_
      refine lv_iadd hx hb dX11_begins_79 ?_
      refine lv_iload hx hb dX11_begins_80 (lv_at hl 2 rfl) ?_
      refine lv_if_ne (tgt := 89) hx hb dX11_begins_82 (by decide) (fun c_3 => ?_) (fun c_3 => ?_)
      · have hw := hw.1 c_3
        refine lv_iload hx hb dX11_begins_89 (lv_at hl 2 rfl) ?_
        refine lv_iconst (v := (3 : Int32)) hx hb dX11_begins_91 (by decide) ?_
        refine lv_icmp_ne (tgt := 99) hx hb dX11_begins_92 (by decide) (fun c_4 => ?_) (fun c_4 => ?_)
        · have hw := hw.1 c_4
          refine lv_iconst (v := (0 : Int32)) hx hb dX11_begins_99 (by decide) ?_
          exact tX11_begins_100 hC hK hA ih x3 x4 (((40 : Int32) + ((5 : Int32) * x3)) + x4) (0 : Int32) r_all _ _ ls hw (hP.sub [0, 1] rfl) (hD.sub [0, 1] (by decide) rfl) hS (lv_sub hl [0, 1, 2] rfl)
        · have hw := hw.2 c_4
          refine lv_iconst (v := (-1 : Int32)) hx hb dX11_begins_95 (by decide) ?_
          refine lv_goto (tgt := 100) hx hb dX11_begins_96 (by decide) ?_
          exact tX11_begins_100 hC hK hA ih x3 x4 (((40 : Int32) + ((5 : Int32) * x3)) + x4) (-1 : Int32) r_all _ _ ls hw (hP.sub [0, 1] rfl) (hD.sub [0, 1] (by decide) rfl) hS (lv_sub hl [0, 1, 2] rfl)
      · have hw := hw.2 c_3
        refine lv_iconst (v := (1 : Int32)) hx hb dX11_begins_85 (by decide) ?_
        refine lv_goto (tgt := 100) hx hb dX11_begins_86 (by decide) ?_
        exact tX11_begins_100 hC hK hA ih x3 x4 (((40 : Int32) + ((5 : Int32) * x3)) + x4) (1 : Int32) r_all _ _ ls hw (hP.sub [0, 1] rfl) (hD.sub [0, 1] (by decide) rfl) hS (lv_sub hl [0, 1, 2] rfl)
set_option maxHeartbeats 4000000 in
set_option maxRecDepth 100000 in
theorem tX11_begins_115 {p : Program} {l : Launch} {e : Env} {s : State} {m : MethodId} {args : Array Value} {below : List Frame} {meth : Method} {c : Code} {dC : Nat → ClassId} {dI : Nat → Nat → Nat} {cI cZ cO cW : ClassId} {A : Nat → Prop} {h h_all h_has h_line h_act h_pile h_comes h_leaves h_tried h_met : Nat} {f_size f_next f_where f_token f_number f_sign f_word f_wrong f_open f_lines f_acts : Int32} {Q : (Nat → Int32) → Prop}  (hC : Cx p s m args meth c cX11_begins none 5 GW RX11) (hK : va_K (dC, dI) vwCl (tysA cI cZ cO cW) s) (hA : ∀ q : Nat, s.heap.size ≤ q → A q) :
    ∀ (n : Nat) (x3 : Int32) (r_all : (Nat → Int32)) (H : Heap) (locs : List Loc) (ls : Array Slot), wX11_begins_115 Q  n x3 r_all → va_P (dC, dI) vwCl (vX11_begins cI cZ h h_all h_has h_line h_act h_pile h_comes h_leaves h_tried h_met f_size f_next f_where f_token f_number f_sign f_word f_wrong f_open f_lines f_acts r_all) H → va_D A (vX11_begins cI cZ h h_all h_has h_line h_act h_pile h_comes h_leaves h_tried h_met f_size f_next f_where f_token f_number f_sign f_word f_wrong f_open f_lines f_acts r_all) → va_S A s.heap H locs → lv_has ls 5 [(0, .ref h), (3, .int x3)] → W p l e rmX11_begins s m args below meth c H locs 0 0 (MQ below (qX11_begins dC dI cI cZ cO cW h h_all h_has h_line h_act h_pile h_comes h_leaves h_tried h_met f_size f_next f_where f_token f_number f_sign f_word f_wrong f_open f_lines f_acts Q A) args s 0 0 A) (F0 m 115 ls []) := by
  obtain ⟨hx, hb, hr, hml, hown, hts, hlocks⟩ := id hC
  intro n
  induction n with
  | zero =>
    intro  x3 r_all H locs ls hw
    exact hw.elim
  | succ n ih =>
    intro  x3 r_all H locs ls hw hP hD hS hl
    refine lv_iload_n hx hb dX11_begins_115 rfl (lv_at hl 1 rfl) ?_
    refine lv_sipush (v := (3000 : Int32)) hx hb dX11_begins_116 (by decide) ?_
    refine lv_icmp_ge (tgt := 139) hx hb dX11_begins_119 (by decide) (fun c_5 => ?_) (fun c_5 => ?_)
    · have hw := hw.1 c_5
      have hP9 := hP.sub (ws' := (vX11_begins cI cZ h h_all h_has h_line h_act h_pile h_comes h_leaves h_tried h_met f_size f_next f_where f_token f_number f_sign f_word f_wrong f_open f_lines f_acts r_all)) [0, 1] rfl
      have hD9 := hD.sub (ws' := (vX11_begins cI cZ h h_all h_has h_line h_act h_pile h_comes h_leaves h_tried h_met f_size f_next f_where f_token f_number f_sign f_word f_wrong f_open f_lines f_acts r_all)) [0, 1] (by decide) rfl
      exact W.vret hx hb hr (fun t ht hW => ⟨⟨r_all, rfl, hw, by rw [ht]; exact hP9, va_K.moved hW.alike hK, hD9⟩, hS.F ht⟩) hS.2.2 dX11_begins_139
    · have hw := hw.2 c_5
      refine lv_aload_n hx hb dX11_begins_122 rfl (lv_at hl 0 rfl) ?_
      refine va_get (D := (dC, dI)) (ci := 10) (v := .ref h_all) (C := RX11) (T := TX11) (N := 20) hx hb hts gu_X11 hown hK hP 0 rfl rfl 0 (by decide) (hts _ gw_607) (fun _ h9 => h9) rfl dX11_begins_123 ?_
      refine lv_sipush (v := (460 : Int32)) hx hb dX11_begins_126 (by decide) ?_
      refine lv_iload_n hx hb dX11_begins_129 rfl (lv_at hl 1 rfl) ?_
      refine lv_iadd hx hb dX11_begins_130 ?_
      refine lv_iconst (v := (0 : Int32)) hx hb dX11_begins_131 (by decide) ?_
      obtain ⟨h_6, hw⟩ := hw
      refine va_iast hx hb hK hP hD hS 1 0 rfl rfl h_6 dX11_begins_132 (fun H locs hP hD hS => ?_)
      have hP : va_P (dC, dI) vwCl [(h, .inr (10, [.ref h_all, .ref h_has, .int f_size, .int f_next, .int f_where, .int f_token, .int f_number, .int f_sign, .int f_word, .int f_wrong, .int f_open, .int f_lines, .int f_acts, .ref h_line, .ref h_act, .ref h_pile, .ref h_comes, .ref h_leaves, .ref h_tried, .ref h_met])), (h_all, .inl (cI, 53700, .inl (upd r_all ((460 : Int32) + x3).toNatClampNeg (0 : Int32))))] _ := hP
      have hD : va_D A [(h, .inr (10, [.ref h_all, .ref h_has, .int f_size, .int f_next, .int f_where, .int f_token, .int f_number, .int f_sign, .int f_word, .int f_wrong, .int f_open, .int f_lines, .int f_acts, .ref h_line, .ref h_act, .ref h_pile, .ref h_comes, .ref h_leaves, .ref h_tried, .ref h_met])), (h_all, .inl (cI, 53700, .inl (upd r_all ((460 : Int32) + x3).toNatClampNeg (0 : Int32))))] := hD
      refine lv_iinc (v := (x3 + (1 : Int32))) (lv' := [(3, .int (x3 + (1 : Int32))), (0, .ref h)]) hx hb dX11_begins_133 hl (k := 1) rfl rfl (by decide) rfl (fun ls hl => ?_)
      refine lv_goto (tgt := 115) hx hb dX11_begins_136 (by decide) ?_
      exact ih (x3 + (1 : Int32)) (upd r_all ((460 : Int32) + x3).toNatClampNeg (0 : Int32)) _ _ ls hw (hP.sub [0, 1] rfl) (hD.sub [0, 1] (by decide) rfl) hS (lv_sub hl [1, 0] rfl)
set_option maxHeartbeats 4000000 in
set_option maxRecDepth 100000 in
theorem tX11_begins_52 {p : Program} {l : Launch} {e : Env} {s : State} {m : MethodId} {args : Array Value} {below : List Frame} {meth : Method} {c : Code} {dC : Nat → ClassId} {dI : Nat → Nat → Nat} {cI cZ cO cW : ClassId} {A : Nat → Prop} {h h_all h_has h_line h_act h_pile h_comes h_leaves h_tried h_met : Nat} {f_size f_next f_where f_token f_number f_sign f_word f_wrong f_open f_lines f_acts : Int32} {Q : (Nat → Int32) → Prop}  (hC : Cx p s m args meth c cX11_begins none 5 GW RX11) (hK : va_K (dC, dI) vwCl (tysA cI cZ cO cW) s) (hA : ∀ q : Nat, s.heap.size ≤ q → A q) :
    ∀ (n : Nat) (x3 : Int32) (r_all : (Nat → Int32)) (H : Heap) (locs : List Loc) (ls : Array Slot), wX11_begins_52 Q  n x3 r_all → va_P (dC, dI) vwCl (vX11_begins cI cZ h h_all h_has h_line h_act h_pile h_comes h_leaves h_tried h_met f_size f_next f_where f_token f_number f_sign f_word f_wrong f_open f_lines f_acts r_all) H → va_D A (vX11_begins cI cZ h h_all h_has h_line h_act h_pile h_comes h_leaves h_tried h_met f_size f_next f_where f_token f_number f_sign f_word f_wrong f_open f_lines f_acts r_all) → va_S A s.heap H locs → lv_has ls 5 [(0, .ref h), (3, .int x3)] → W p l e rmX11_begins s m args below meth c H locs 0 0 (MQ below (qX11_begins dC dI cI cZ cO cW h h_all h_has h_line h_act h_pile h_comes h_leaves h_tried h_met f_size f_next f_where f_token f_number f_sign f_word f_wrong f_open f_lines f_acts Q A) args s 0 0 A) (F0 m 52 ls []) := by
  obtain ⟨hx, hb, hr, hml, hown, hts, hlocks⟩ := id hC
  intro n
  induction n with
  | zero =>
    intro  x3 r_all H locs ls hw
    exact hw.elim
  | succ n ih =>
    intro  x3 r_all H locs ls hw hP hD hS hl
    refine lv_iload_n hx hb dX11_begins_52 rfl (lv_at hl 1 rfl) ?_
    refine lv_bipush (v := (64 : Int32)) hx hb dX11_begins_53 (by decide) ?_
    refine lv_icmp_ge (tgt := 113) hx hb dX11_begins_55 (by decide) (fun c_7 => ?_) (fun c_7 => ?_)
    · have hw := hw.1 c_7
      refine lv_iconst (v := (0 : Int32)) hx hb dX11_begins_113 (by decide) ?_
      refine lv_istore_n (lv' := [(3, .int (0 : Int32)), (0, .ref h)]) hx hb dX11_begins_114 rfl hl (by decide) rfl (fun ls hl => ?_)
      obtain ⟨n_8, hw⟩ := hw
      exact tX11_begins_115 hC hK hA  n_8 (0 : Int32) r_all _ _ ls hw (hP.sub [0, 1] rfl) (hD.sub [0, 1] (by decide) rfl) hS (lv_sub hl [1, 0] rfl)
    · have hw := hw.2 c_7
      refine lv_iconst (v := (0 : Int32)) hx hb dX11_begins_58 (by decide) ?_
      refine lv_istore (lv' := [(4, .int (0 : Int32)), (0, .ref h), (3, .int x3)]) hx hb dX11_begins_59 hl (by decide) rfl (fun ls hl => ?_)
      obtain ⟨n_9, hw⟩ := hw
      exact tX11_begins_61 hC hK hA ih n_9 x3 (0 : Int32) r_all _ _ ls hw (hP.sub [0, 1] rfl) (hD.sub [0, 1] (by decide) rfl) hS (lv_sub hl [1, 2, 0] rfl)
set_option maxHeartbeats 4000000 in
set_option maxRecDepth 100000 in
theorem tX11_begins_e {p : Program} {l : Launch} {e : Env} {s : State} {m : MethodId} {args : Array Value} {below : List Frame} {meth : Method} {c : Code} {dC : Nat → ClassId} {dI : Nat → Nat → Nat} {cI cZ cO cW : ClassId} {A : Nat → Prop} {h h_all h_has h_line h_act h_pile h_comes h_leaves h_tried h_met : Nat} {f_size f_next f_where f_token f_number f_sign f_word f_wrong f_open f_lines f_acts : Int32} {Q : (Nat → Int32) → Prop} (hC : Cx p s m args meth c cX11_begins none 5 GW RX11) (hK : va_K (dC, dI) vwCl (tysA cI cZ cO cW) s) (hA : ∀ q : Nat, s.heap.size ≤ q → A q) :
    ∀ (x1 : Int32) (x2 : Int32) (r_all : Nat → Int32) (H : Heap) (locs : List Loc) (ls : Array Slot), wX11_begins Q x1 x2 r_all → va_P (dC, dI) vwCl (vX11_begins cI cZ h h_all h_has h_line h_act h_pile h_comes h_leaves h_tried h_met f_size f_next f_where f_token f_number f_sign f_word f_wrong f_open f_lines f_acts r_all) H → va_D A (vX11_begins cI cZ h h_all h_has h_line h_act h_pile h_comes h_leaves h_tried h_met f_size f_next f_where f_token f_number f_sign f_word f_wrong f_open f_lines f_acts r_all) → va_S A s.heap H locs → lv_has ls 5 [(0, .ref h), (1, .int x1), (2, .int x2)] → W p l e rmX11_begins s m args below meth c H locs 0 0 (MQ below (qX11_begins dC dI cI cZ cO cW h h_all h_has h_line h_act h_pile h_comes h_leaves h_tried h_met f_size f_next f_where f_token f_number f_sign f_word f_wrong f_open f_lines f_acts Q A) args s 0 0 A) (F0 m 0 ls []) := by
  obtain ⟨hx, hb, hr, hml, hown, hts, hlocks⟩ := id hC
  intro x1 x2 r_all H locs ls hw hP hD hS hl
  refine lv_aload_n hx hb dX11_begins_0 rfl (lv_at hl 0 rfl) ?_
  refine va_get (D := (dC, dI)) (ci := 10) (v := .ref h_all) (C := RX11) (T := TX11) (N := 20) hx hb hts gu_X11 hown hK hP 0 rfl rfl 0 (by decide) (hts _ gw_607) (fun _ h9 => h9) rfl dX11_begins_1 ?_
  refine lv_iconst (v := (0 : Int32)) hx hb dX11_begins_4 (by decide) ?_
  refine lv_iload_n hx hb dX11_begins_5 rfl (lv_at hl 1 rfl) ?_
  obtain ⟨h_10, hw⟩ := hw
  refine va_iast hx hb hK hP hD hS 1 0 rfl rfl h_10 dX11_begins_6 (fun H locs hP hD hS => ?_)
  have hP : va_P (dC, dI) vwCl [(h, .inr (10, [.ref h_all, .ref h_has, .int f_size, .int f_next, .int f_where, .int f_token, .int f_number, .int f_sign, .int f_word, .int f_wrong, .int f_open, .int f_lines, .int f_acts, .ref h_line, .ref h_act, .ref h_pile, .ref h_comes, .ref h_leaves, .ref h_tried, .ref h_met])), (h_all, .inl (cI, 53700, .inl (upd r_all (0 : Int32).toNatClampNeg x1)))] _ := hP
  have hD : va_D A [(h, .inr (10, [.ref h_all, .ref h_has, .int f_size, .int f_next, .int f_where, .int f_token, .int f_number, .int f_sign, .int f_word, .int f_wrong, .int f_open, .int f_lines, .int f_acts, .ref h_line, .ref h_act, .ref h_pile, .ref h_comes, .ref h_leaves, .ref h_tried, .ref h_met])), (h_all, .inl (cI, 53700, .inl (upd r_all (0 : Int32).toNatClampNeg x1)))] := hD
  refine lv_aload_n hx hb dX11_begins_7 rfl (lv_at hl 0 rfl) ?_
  refine va_get (D := (dC, dI)) (ci := 10) (v := .ref h_all) (C := RX11) (T := TX11) (N := 20) hx hb hts gu_X11 hown hK hP 0 rfl rfl 0 (by decide) (hts _ gw_607) (fun _ h9 => h9) rfl dX11_begins_8 ?_
  refine lv_iconst (v := (1 : Int32)) hx hb dX11_begins_11 (by decide) ?_
  refine lv_iload_n hx hb dX11_begins_12 rfl (lv_at hl 2 rfl) ?_
  obtain ⟨h_11, hw⟩ := hw
  refine va_iast hx hb hK hP hD hS 1 0 rfl rfl h_11 dX11_begins_13 (fun H locs hP hD hS => ?_)
  have hP : va_P (dC, dI) vwCl [(h, .inr (10, [.ref h_all, .ref h_has, .int f_size, .int f_next, .int f_where, .int f_token, .int f_number, .int f_sign, .int f_word, .int f_wrong, .int f_open, .int f_lines, .int f_acts, .ref h_line, .ref h_act, .ref h_pile, .ref h_comes, .ref h_leaves, .ref h_tried, .ref h_met])), (h_all, .inl (cI, 53700, .inl (upd (upd r_all (0 : Int32).toNatClampNeg x1) (1 : Int32).toNatClampNeg x2)))] _ := hP
  have hD : va_D A [(h, .inr (10, [.ref h_all, .ref h_has, .int f_size, .int f_next, .int f_where, .int f_token, .int f_number, .int f_sign, .int f_word, .int f_wrong, .int f_open, .int f_lines, .int f_acts, .ref h_line, .ref h_act, .ref h_pile, .ref h_comes, .ref h_leaves, .ref h_tried, .ref h_met])), (h_all, .inl (cI, 53700, .inl (upd (upd r_all (0 : Int32).toNatClampNeg x1) (1 : Int32).toNatClampNeg x2)))] := hD
  refine lv_aload_n hx hb dX11_begins_14 rfl (lv_at hl 0 rfl) ?_
  refine va_get (D := (dC, dI)) (ci := 10) (v := .ref h_all) (C := RX11) (T := TX11) (N := 20) hx hb hts gu_X11 hown hK hP 0 rfl rfl 0 (by decide) (hts _ gw_607) (fun _ h9 => h9) rfl dX11_begins_15 ?_
  refine lv_iconst (v := (2 : Int32)) hx hb dX11_begins_18 (by decide) ?_
  refine lv_iconst (v := (0 : Int32)) hx hb dX11_begins_19 (by decide) ?_
  obtain ⟨h_12, hw⟩ := hw
  refine va_iast hx hb hK hP hD hS 1 0 rfl rfl h_12 dX11_begins_20 (fun H locs hP hD hS => ?_)
  have hP : va_P (dC, dI) vwCl [(h, .inr (10, [.ref h_all, .ref h_has, .int f_size, .int f_next, .int f_where, .int f_token, .int f_number, .int f_sign, .int f_word, .int f_wrong, .int f_open, .int f_lines, .int f_acts, .ref h_line, .ref h_act, .ref h_pile, .ref h_comes, .ref h_leaves, .ref h_tried, .ref h_met])), (h_all, .inl (cI, 53700, .inl (upd (upd (upd r_all (0 : Int32).toNatClampNeg x1) (1 : Int32).toNatClampNeg x2) (2 : Int32).toNatClampNeg (0 : Int32))))] _ := hP
  have hD : va_D A [(h, .inr (10, [.ref h_all, .ref h_has, .int f_size, .int f_next, .int f_where, .int f_token, .int f_number, .int f_sign, .int f_word, .int f_wrong, .int f_open, .int f_lines, .int f_acts, .ref h_line, .ref h_act, .ref h_pile, .ref h_comes, .ref h_leaves, .ref h_tried, .ref h_met])), (h_all, .inl (cI, 53700, .inl (upd (upd (upd r_all (0 : Int32).toNatClampNeg x1) (1 : Int32).toNatClampNeg x2) (2 : Int32).toNatClampNeg (0 : Int32))))] := hD
  refine lv_aload_n hx hb dX11_begins_21 rfl (lv_at hl 0 rfl) ?_
  refine va_get (D := (dC, dI)) (ci := 10) (v := .ref h_all) (C := RX11) (T := TX11) (N := 20) hx hb hts gu_X11 hown hK hP 0 rfl rfl 0 (by decide) (hts _ gw_607) (fun _ h9 => h9) rfl dX11_begins_22 ?_
  refine lv_iconst (v := (3 : Int32)) hx hb dX11_begins_25 (by decide) ?_
  refine lv_iconst (v := (0 : Int32)) hx hb dX11_begins_26 (by decide) ?_
  obtain ⟨h_13, hw⟩ := hw
  refine va_iast hx hb hK hP hD hS 1 0 rfl rfl h_13 dX11_begins_27 (fun H locs hP hD hS => ?_)
  have hP : va_P (dC, dI) vwCl [(h, .inr (10, [.ref h_all, .ref h_has, .int f_size, .int f_next, .int f_where, .int f_token, .int f_number, .int f_sign, .int f_word, .int f_wrong, .int f_open, .int f_lines, .int f_acts, .ref h_line, .ref h_act, .ref h_pile, .ref h_comes, .ref h_leaves, .ref h_tried, .ref h_met])), (h_all, .inl (cI, 53700, .inl (upd (upd (upd (upd r_all (0 : Int32).toNatClampNeg x1) (1 : Int32).toNatClampNeg x2) (2 : Int32).toNatClampNeg (0 : Int32)) (3 : Int32).toNatClampNeg (0 : Int32))))] _ := hP
  have hD : va_D A [(h, .inr (10, [.ref h_all, .ref h_has, .int f_size, .int f_next, .int f_where, .int f_token, .int f_number, .int f_sign, .int f_word, .int f_wrong, .int f_open, .int f_lines, .int f_acts, .ref h_line, .ref h_act, .ref h_pile, .ref h_comes, .ref h_leaves, .ref h_tried, .ref h_met])), (h_all, .inl (cI, 53700, .inl (upd (upd (upd (upd r_all (0 : Int32).toNatClampNeg x1) (1 : Int32).toNatClampNeg x2) (2 : Int32).toNatClampNeg (0 : Int32)) (3 : Int32).toNatClampNeg (0 : Int32))))] := hD
  refine lv_aload_n hx hb dX11_begins_28 rfl (lv_at hl 0 rfl) ?_
  refine va_get (D := (dC, dI)) (ci := 10) (v := .ref h_all) (C := RX11) (T := TX11) (N := 20) hx hb hts gu_X11 hown hK hP 0 rfl rfl 0 (by decide) (hts _ gw_607) (fun _ h9 => h9) rfl dX11_begins_29 ?_
  refine lv_iconst (v := (4 : Int32)) hx hb dX11_begins_32 (by decide) ?_
  refine lv_iconst (v := (0 : Int32)) hx hb dX11_begins_33 (by decide) ?_
  obtain ⟨h_14, hw⟩ := hw
  refine va_iast hx hb hK hP hD hS 1 0 rfl rfl h_14 dX11_begins_34 (fun H locs hP hD hS => ?_)
  have hP : va_P (dC, dI) vwCl [(h, .inr (10, [.ref h_all, .ref h_has, .int f_size, .int f_next, .int f_where, .int f_token, .int f_number, .int f_sign, .int f_word, .int f_wrong, .int f_open, .int f_lines, .int f_acts, .ref h_line, .ref h_act, .ref h_pile, .ref h_comes, .ref h_leaves, .ref h_tried, .ref h_met])), (h_all, .inl (cI, 53700, .inl (upd (upd (upd (upd (upd r_all (0 : Int32).toNatClampNeg x1) (1 : Int32).toNatClampNeg x2) (2 : Int32).toNatClampNeg (0 : Int32)) (3 : Int32).toNatClampNeg (0 : Int32)) (4 : Int32).toNatClampNeg (0 : Int32))))] _ := hP
  have hD : va_D A [(h, .inr (10, [.ref h_all, .ref h_has, .int f_size, .int f_next, .int f_where, .int f_token, .int f_number, .int f_sign, .int f_word, .int f_wrong, .int f_open, .int f_lines, .int f_acts, .ref h_line, .ref h_act, .ref h_pile, .ref h_comes, .ref h_leaves, .ref h_tried, .ref h_met])), (h_all, .inl (cI, 53700, .inl (upd (upd (upd (upd (upd r_all (0 : Int32).toNatClampNeg x1) (1 : Int32).toNatClampNeg x2) (2 : Int32).toNatClampNeg (0 : Int32)) (3 : Int32).toNatClampNeg (0 : Int32)) (4 : Int32).toNatClampNeg (0 : Int32))))] := hD
  refine lv_aload_n hx hb dX11_begins_35 rfl (lv_at hl 0 rfl) ?_
  refine va_get (D := (dC, dI)) (ci := 10) (v := .ref h_all) (C := RX11) (T := TX11) (N := 20) hx hb hts gu_X11 hown hK hP 0 rfl rfl 0 (by decide) (hts _ gw_607) (fun _ h9 => h9) rfl dX11_begins_36 ?_
  refine lv_iconst (v := (5 : Int32)) hx hb dX11_begins_39 (by decide) ?_
  refine lv_iconst (v := (0 : Int32)) hx hb dX11_begins_40 (by decide) ?_
  obtain ⟨h_15, hw⟩ := hw
  refine va_iast hx hb hK hP hD hS 1 0 rfl rfl h_15 dX11_begins_41 (fun H locs hP hD hS => ?_)
  have hP : va_P (dC, dI) vwCl [(h, .inr (10, [.ref h_all, .ref h_has, .int f_size, .int f_next, .int f_where, .int f_token, .int f_number, .int f_sign, .int f_word, .int f_wrong, .int f_open, .int f_lines, .int f_acts, .ref h_line, .ref h_act, .ref h_pile, .ref h_comes, .ref h_leaves, .ref h_tried, .ref h_met])), (h_all, .inl (cI, 53700, .inl (upd (upd (upd (upd (upd (upd r_all (0 : Int32).toNatClampNeg x1) (1 : Int32).toNatClampNeg x2) (2 : Int32).toNatClampNeg (0 : Int32)) (3 : Int32).toNatClampNeg (0 : Int32)) (4 : Int32).toNatClampNeg (0 : Int32)) (5 : Int32).toNatClampNeg (0 : Int32))))] _ := hP
  have hD : va_D A [(h, .inr (10, [.ref h_all, .ref h_has, .int f_size, .int f_next, .int f_where, .int f_token, .int f_number, .int f_sign, .int f_word, .int f_wrong, .int f_open, .int f_lines, .int f_acts, .ref h_line, .ref h_act, .ref h_pile, .ref h_comes, .ref h_leaves, .ref h_tried, .ref h_met])), (h_all, .inl (cI, 53700, .inl (upd (upd (upd (upd (upd (upd r_all (0 : Int32).toNatClampNeg x1) (1 : Int32).toNatClampNeg x2) (2 : Int32).toNatClampNeg (0 : Int32)) (3 : Int32).toNatClampNeg (0 : Int32)) (4 : Int32).toNatClampNeg (0 : Int32)) (5 : Int32).toNatClampNeg (0 : Int32))))] := hD
  refine lv_aload_n hx hb dX11_begins_42 rfl (lv_at hl 0 rfl) ?_
  refine va_get (D := (dC, dI)) (ci := 10) (v := .ref h_all) (C := RX11) (T := TX11) (N := 20) hx hb hts gu_X11 hown hK hP 0 rfl rfl 0 (by decide) (hts _ gw_607) (fun _ h9 => h9) rfl dX11_begins_43 ?_
  refine lv_bipush (v := (6 : Int32)) hx hb dX11_begins_46 (by decide) ?_
  refine lv_iconst (v := (0 : Int32)) hx hb dX11_begins_48 (by decide) ?_
  obtain ⟨h_16, hw⟩ := hw
  refine va_iast hx hb hK hP hD hS 1 0 rfl rfl h_16 dX11_begins_49 (fun H locs hP hD hS => ?_)
  have hP : va_P (dC, dI) vwCl [(h, .inr (10, [.ref h_all, .ref h_has, .int f_size, .int f_next, .int f_where, .int f_token, .int f_number, .int f_sign, .int f_word, .int f_wrong, .int f_open, .int f_lines, .int f_acts, .ref h_line, .ref h_act, .ref h_pile, .ref h_comes, .ref h_leaves, .ref h_tried, .ref h_met])), (h_all, .inl (cI, 53700, .inl (upd (upd (upd (upd (upd (upd (upd r_all (0 : Int32).toNatClampNeg x1) (1 : Int32).toNatClampNeg x2) (2 : Int32).toNatClampNeg (0 : Int32)) (3 : Int32).toNatClampNeg (0 : Int32)) (4 : Int32).toNatClampNeg (0 : Int32)) (5 : Int32).toNatClampNeg (0 : Int32)) (6 : Int32).toNatClampNeg (0 : Int32))))] _ := hP
  have hD : va_D A [(h, .inr (10, [.ref h_all, .ref h_has, .int f_size, .int f_next, .int f_where, .int f_token, .int f_number, .int f_sign, .int f_word, .int f_wrong, .int f_open, .int f_lines, .int f_acts, .ref h_line, .ref h_act, .ref h_pile, .ref h_comes, .ref h_leaves, .ref h_tried, .ref h_met])), (h_all, .inl (cI, 53700, .inl (upd (upd (upd (upd (upd (upd (upd r_all (0 : Int32).toNatClampNeg x1) (1 : Int32).toNatClampNeg x2) (2 : Int32).toNatClampNeg (0 : Int32)) (3 : Int32).toNatClampNeg (0 : Int32)) (4 : Int32).toNatClampNeg (0 : Int32)) (5 : Int32).toNatClampNeg (0 : Int32)) (6 : Int32).toNatClampNeg (0 : Int32))))] := hD
  refine lv_iconst (v := (0 : Int32)) hx hb dX11_begins_50 (by decide) ?_
  refine lv_istore_n (lv' := [(3, .int (0 : Int32)), (0, .ref h), (1, .int x1), (2, .int x2)]) hx hb dX11_begins_51 rfl hl (by decide) rfl (fun ls hl => ?_)
  obtain ⟨n_17, hw⟩ := hw
  exact tX11_begins_52 hC hK hA  n_17 (0 : Int32) (upd (upd (upd (upd (upd (upd (upd r_all (0 : Int32).toNatClampNeg x1) (1 : Int32).toNatClampNeg x2) (2 : Int32).toNatClampNeg (0 : Int32)) (3 : Int32).toNatClampNeg (0 : Int32)) (4 : Int32).toNatClampNeg (0 : Int32)) (5 : Int32).toNatClampNeg (0 : Int32)) (6 : Int32).toNatClampNeg (0 : Int32)) _ _ ls hw (hP.sub [0, 1] rfl) (hD.sub [0, 1] (by decide) rfl) hS (lv_sub hl [1, 0] rfl)
set_option maxHeartbeats 4000000 in
set_option maxRecDepth 100000 in
theorem kX11_begins (l : Launch) (dC : Nat → ClassId) (dI : Nat → Nat → Nat) (cI cZ cO cW : ClassId) (h h_all h_has h_line h_act h_pile h_comes h_leaves h_tried h_met : Nat)  (sz : Nat) (f_size : Int32) (f_next : Int32) (f_where : Int32) (f_token : Int32) (f_number : Int32) (f_sign : Int32) (f_word : Int32) (f_wrong : Int32) (f_open : Int32) (f_lines : Int32) (f_acts : Int32) (r_all : Nat → Int32) (x1 : Int32) (x2 : Int32) (Q : (Nat → Int32) → Prop) (hw : wX11_begins Q x1 x2 r_all) : Met l yX11_begins zsX11_begins rmX11_begins (va_Pc [.ref h, .int x1, .int x2] (fun U => U.heap.size = sz ∧ va_P (dC, dI) vwCl (vX11_begins cI cZ h h_all h_has h_line h_act h_pile h_comes h_leaves h_tried h_met f_size f_next f_where f_token f_number f_sign f_word f_wrong f_open f_lines f_acts r_all) U.heap ∧ va_K (dC, dI) vwCl (tysA cI cZ cO cW) U ∧ va_D (fun _ => True) (vX11_begins cI cZ h h_all h_has h_line h_act h_pile h_comes h_leaves h_tried h_met f_size f_next f_where f_token f_number f_sign f_word f_wrong f_open f_lines f_acts r_all))) (qX11_begins dC dI cI cZ cO cW h h_all h_has h_line h_act h_pile h_comes h_leaves h_tried h_met f_size f_next f_where f_token f_number f_sign f_word f_wrong f_open f_lines f_acts Q (va_A (vX11_begins cI cZ h h_all h_has h_line h_act h_pile h_comes h_leaves h_tried h_met f_size f_next f_where f_token f_number f_sign f_word f_wrong f_open f_lines f_acts r_all) sz)) 0 0 (va_A (vX11_begins cI cZ h h_all h_has h_line h_act h_pile h_comes h_leaves h_tried h_met f_size f_next f_where f_token f_number f_sign f_word f_wrong f_open f_lines f_acts r_all) sz) := by
  refine Met.ofW (cc := cX11_begins) (maxL := 5) (ret := none) (by decide) rfl ?_
  intro p e s m args below meth c s₁ B hml hv
  obtain ⟨rfl, hsz, hP, hK, hD0⟩ := hv
  subst hsz
  have hC : Cx p s m ([.ref h, .int x1, .int x2] : List Value).toArray meth c cX11_begins none 5 GW RX11 := ⟨B.exec, B.bytes, B.returns, hml, findClass_of_methodNamed B.named, fun w h => atoms_spec (ws := zsX11_begins) B.pre w (List.mem_cons_of_mem _ h), B.notSynchronized⟩
  have hD := hD0.self (sz := s.heap.size)
  generalize hAe : va_A (vX11_begins cI cZ h h_all h_has h_line h_act h_pile h_comes h_leaves h_tried h_met f_size f_next f_where f_token f_number f_sign f_word f_wrong f_open f_lines f_acts r_all) s.heap.size = A at hD ⊢
  have hA : ∀ q : Nat, s.heap.size ≤ q → A q := fun q h => by rw [← hAe]; exact Or.inr h
  have hl := lv_entry ([.ref h, .int x1, .int x2]) (n := 5) (Nat.le_of_ble_eq_true rfl)
  rw [lg_entry_eq]
  generalize (lg_sl ([.ref h, .int x1, .int x2]) ++ List.replicate (5 - (lg_sl ([.ref h, .int x1, .int x2])).length) Slot.unset).toArray = ls at hl ⊢
  exact tX11_begins_e hC hK hA x1 x2 r_all _ _ ls hw hP hD va_S.rf hl

/-! X11_gulf -/
def wX11_gulf (Q : Int32 → (Nat → Int32) → Prop) (x1 : Int32) (x2 : Int32) (r_all : Nat → Int32) : Prop :=
  (wX11_isIn (fun r_1 => ((r_1 = 0 → (Q (0 : Int32) r_all)) ∧ (¬ r_1 = 0 → (wX11_isIn (fun r_3 => ((¬ r_3 = 0 → (wX11_begins (fun r_all_5 => (Q (1 : Int32) r_all_5)) x1 x2 r_all)) ∧ (r_3 = 0 → (Q (0 : Int32) r_all)))) x2 (1 : Int32) (8 : Int32))))) x1 (1 : Int32) (8 : Int32))
abbrev vX11_gulf (cI cZ : ClassId) (h h_all h_has h_line h_act h_pile h_comes h_leaves h_tried h_met : Nat) (f_size : Int32) (f_next : Int32) (f_where : Int32) (f_token : Int32) (f_number : Int32) (f_sign : Int32) (f_word : Int32) (f_wrong : Int32) (f_open : Int32) (f_lines : Int32) (f_acts : Int32) (r_all : Nat → Int32) : va_W := [(h, .inr (10, [.ref h_all, .ref h_has, .int f_size, .int f_next, .int f_where, .int f_token, .int f_number, .int f_sign, .int f_word, .int f_wrong, .int f_open, .int f_lines, .int f_acts, .ref h_line, .ref h_act, .ref h_pile, .ref h_comes, .ref h_leaves, .ref h_tried, .ref h_met])), (h_all, .inl (cI, 53700, .inl r_all))]
abbrev rmX11_gulf : Room := { frames := 1, cells := 0, slots := 0, locals := 24 }
abbrev qX11_gulf (dC : Nat → ClassId) (dI : Nat → Nat → Nat) (cI cZ cO cW : ClassId) (h h_all h_has h_line h_act h_pile h_comes h_leaves h_tried h_met : Nat) (f_size : Int32) (f_next : Int32) (f_where : Int32) (f_token : Int32) (f_number : Int32) (f_sign : Int32) (f_word : Int32) (f_wrong : Int32) (f_open : Int32) (f_lines : Int32) (f_acts : Int32) (Q : Int32 → (Nat → Int32) → Prop) (A : Nat → Prop) : Array Value → State → Outcome → State → Prop := va_Qi (fun (r : Int32) (u : (Nat → Int32)) => Q r u) (fun (u : (Nat → Int32)) (t : State) => va_P (dC, dI) vwCl (vX11_gulf cI cZ h h_all h_has h_line h_act h_pile h_comes h_leaves h_tried h_met f_size f_next f_where f_token f_number f_sign f_word f_wrong f_open f_lines f_acts u) t.heap ∧ va_K (dC, dI) vwCl (tysA cI cZ cO cW) t ∧ va_D A (vX11_gulf cI cZ h h_all h_has h_line h_act h_pile h_comes h_leaves h_tried h_met f_size f_next f_where f_token f_number f_sign f_word f_wrong f_open f_lines f_acts u)) A
def zsX11_gulf : List Cond := Cond.code yX11_gulf cX11_gulf 3 (some .boolean) :: GW
set_option maxHeartbeats 4000000 in
set_option maxRecDepth 100000 in
theorem tX11_gulf_e {p : Program} {l : Launch} {e : Env} {s : State} {m : MethodId} {args : Array Value} {below : List Frame} {meth : Method} {c : Code} {dC : Nat → ClassId} {dI : Nat → Nat → Nat} {cI cZ cO cW : ClassId} {A : Nat → Prop} {h h_all h_has h_line h_act h_pile h_comes h_leaves h_tried h_met : Nat} {f_size f_next f_where f_token f_number f_sign f_word f_wrong f_open f_lines f_acts : Int32} {Q : Int32 → (Nat → Int32) → Prop} (hC : Cx p s m args meth c cX11_gulf (some .boolean) 3 GW RX11) (hK : va_K (dC, dI) vwCl (tysA cI cZ cO cW) s) (hA : ∀ q : Nat, s.heap.size ≤ q → A q) :
    ∀ (x1 : Int32) (x2 : Int32) (r_all : Nat → Int32) (H : Heap) (locs : List Loc) (ls : Array Slot), wX11_gulf Q x1 x2 r_all → va_P (dC, dI) vwCl (vX11_gulf cI cZ h h_all h_has h_line h_act h_pile h_comes h_leaves h_tried h_met f_size f_next f_where f_token f_number f_sign f_word f_wrong f_open f_lines f_acts r_all) H → va_D A (vX11_gulf cI cZ h h_all h_has h_line h_act h_pile h_comes h_leaves h_tried h_met f_size f_next f_where f_token f_number f_sign f_word f_wrong f_open f_lines f_acts r_all) → va_S A s.heap H locs → lv_has ls 3 [(0, .ref h), (1, .int x1), (2, .int x2)] → W p l e rmX11_gulf s m args below meth c H locs 0 0 (MQ below (qX11_gulf dC dI cI cZ cO cW h h_all h_has h_line h_act h_pile h_comes h_leaves h_tried h_met f_size f_next f_where f_token f_number f_sign f_word f_wrong f_open f_lines f_acts Q A) args s 0 0 A) (F0 m 0 ls []) := by
  obtain ⟨hx, hb, hr, hml, hown, hts, hlocks⟩ := id hC
  intro x1 x2 r_all H locs ls hw hP hD hS hl
  refine lv_iload_n hx hb dX11_gulf_0 rfl (lv_at hl 1 rfl) ?_
  refine lv_iconst (v := (1 : Int32)) hx hb dX11_gulf_1 (by decide) ?_
  refine lv_bipush (v := (8 : Int32)) hx hb dX11_gulf_2 (by decide) ?_
  have hPc := hP.sub (ws' := []) [] rfl
  have hDc := hD.sub (ws' := []) [] (by decide) rfl
  have hFc := va_free (wc := []) hD hS hA [] rfl
  refine va_calli (va_runS (As := [.int x1, .int (1 : Int32), .int (8 : Int32)]) (rest := []) ⟨hx, hb, hml, hown, hts⟩ (kX11_isIn l dC dI cI cZ cO cW H.size x1 (1 : Int32) (8 : Int32) _ hw) (va_cwS 3 hts (gS gw_625 gw_626 gw_622 (gM gw_623)) rfl rfl rfl (by decide +kernel) ⟨Nat.le_of_ble_eq_true rfl, Nat.le_of_ble_eq_true rfl⟩) (ps_of hPc hK hDc) rfl rfl hl.1 rfl (lv_room (Nat.le_of_ble_eq_true rfl)) dX11_gulf_4 ⟨Nat.zero_le _, Nat.zero_le _⟩) hS (fun q _ h => hFc q h) hFc (fun r_1 u t H locs ht hvm hw hB hz1 hk1 hS => ?_)
  obtain ⟨hP, hD⟩ := af_join (wr := [(h, .inr (10, [.ref h_all, .ref h_has, .int f_size, .int f_next, .int f_where, .int f_token, .int f_number, .int f_sign, .int f_word, .int f_wrong, .int f_open, .int f_lines, .int f_acts, .ref h_line, .ref h_act, .ref h_pile, .ref h_comes, .ref h_leaves, .ref h_tried, .ref h_met])), (h_all, .inl (cI, 53700, .inl r_all))]) (w1 := []) hB ht hP hD [] [0, 1] rfl rfl (by decide) (by decide) hk1 hFc
  have hP : va_P (dC, dI) vwCl [(h, .inr (10, [.ref h_all, .ref h_has, .int f_size, .int f_next, .int f_where, .int f_token, .int f_number, .int f_sign, .int f_word, .int f_wrong, .int f_open, .int f_lines, .int f_acts, .ref h_line, .ref h_act, .ref h_pile, .ref h_comes, .ref h_leaves, .ref h_tried, .ref h_met])), (h_all, .inl (cI, 53700, .inl r_all))] _ := hP
  have hD : va_D A [(h, .inr (10, [.ref h_all, .ref h_has, .int f_size, .int f_next, .int f_where, .int f_token, .int f_number, .int f_sign, .int f_word, .int f_wrong, .int f_open, .int f_lines, .int f_acts, .ref h_line, .ref h_act, .ref h_pile, .ref h_comes, .ref h_leaves, .ref h_tried, .ref h_met])), (h_all, .inl (cI, 53700, .inl r_all))] := hD
  refine lv_if_eq (tgt := 20) hx hb dX11_gulf_7 (by decide) (fun c_2 => ?_) (fun c_2 => ?_)
  · have hw := hw.1 c_2
    refine lv_iconst (v := (0 : Int32)) hx hb dX11_gulf_20 (by decide) ?_
    have hP9 := hP.sub (ws' := (vX11_gulf cI cZ h h_all h_has h_line h_act h_pile h_comes h_leaves h_tried h_met f_size f_next f_where f_token f_number f_sign f_word f_wrong f_open f_lines f_acts r_all)) [0, 1] rfl
    have hD9 := hD.sub (ws' := (vX11_gulf cI cZ h h_all h_has h_line h_act h_pile h_comes h_leaves h_tried h_met f_size f_next f_where f_token f_number f_sign f_word f_wrong f_open f_lines f_acts r_all)) [0, 1] (by decide) rfl
    exact W.zret (v := (0 : Int32)) (ty := .boolean) hx hb hr rfl (fun t ht hW => ⟨⟨(0 : Int32), r_all, rfl, hw, by rw [ht]; exact hP9, va_K.moved hW.alike hK, hD9⟩, hS.F ht⟩) hS.2.2 dX11_gulf_21
  · have hw := hw.2 c_2
    refine lv_iload_n hx hb dX11_gulf_10 rfl (lv_at hl 2 rfl) ?_
    refine lv_iconst (v := (1 : Int32)) hx hb dX11_gulf_11 (by decide) ?_
    refine lv_bipush (v := (8 : Int32)) hx hb dX11_gulf_12 (by decide) ?_
    have hPc := hP.sub (ws' := []) [] rfl
    have hDc := hD.sub (ws' := []) [] (by decide) rfl
    have hFc := va_free (wc := []) hD hS hA [] rfl
    refine va_calli (va_runS (As := [.int x2, .int (1 : Int32), .int (8 : Int32)]) (rest := []) ⟨hx, hb, hml, hown, hts⟩ (kX11_isIn l dC dI cI cZ cO cW H.size x2 (1 : Int32) (8 : Int32) _ hw) (va_cwS 3 hts (gS gw_625 gw_626 gw_622 (gM gw_623)) rfl rfl rfl (by decide +kernel) ⟨Nat.le_of_ble_eq_true rfl, Nat.le_of_ble_eq_true rfl⟩) (ps_of hPc hK hDc) rfl rfl hl.1 rfl (lv_room (Nat.le_of_ble_eq_true rfl)) dX11_gulf_14 ⟨Nat.zero_le _, Nat.zero_le _⟩) hS (fun q _ h => hFc q h) hFc (fun r_3 u t H locs ht hvm hw hB hz1 hk1 hS => ?_)
    obtain ⟨hP, hD⟩ := af_join (wr := [(h, .inr (10, [.ref h_all, .ref h_has, .int f_size, .int f_next, .int f_where, .int f_token, .int f_number, .int f_sign, .int f_word, .int f_wrong, .int f_open, .int f_lines, .int f_acts, .ref h_line, .ref h_act, .ref h_pile, .ref h_comes, .ref h_leaves, .ref h_tried, .ref h_met])), (h_all, .inl (cI, 53700, .inl r_all))]) (w1 := []) hB ht hP hD [] [0, 1] rfl rfl (by decide) (by decide) hk1 hFc
    have hP : va_P (dC, dI) vwCl [(h, .inr (10, [.ref h_all, .ref h_has, .int f_size, .int f_next, .int f_where, .int f_token, .int f_number, .int f_sign, .int f_word, .int f_wrong, .int f_open, .int f_lines, .int f_acts, .ref h_line, .ref h_act, .ref h_pile, .ref h_comes, .ref h_leaves, .ref h_tried, .ref h_met])), (h_all, .inl (cI, 53700, .inl r_all))] _ := hP
    have hD : va_D A [(h, .inr (10, [.ref h_all, .ref h_has, .int f_size, .int f_next, .int f_where, .int f_token, .int f_number, .int f_sign, .int f_word, .int f_wrong, .int f_open, .int f_lines, .int f_acts, .ref h_line, .ref h_act, .ref h_pile, .ref h_comes, .ref h_leaves, .ref h_tried, .ref h_met])), (h_all, .inl (cI, 53700, .inl r_all))] := hD
    refine lv_if_ne (tgt := 22) hx hb dX11_gulf_17 (by decide) (fun c_4 => ?_) (fun c_4 => ?_)
    · have hw := hw.1 c_4
      refine lv_aload_n hx hb dX11_gulf_22 rfl (lv_at hl 0 rfl) ?_
      refine lv_iload_n hx hb dX11_gulf_23 rfl (lv_at hl 1 rfl) ?_
      refine lv_iload_n hx hb dX11_gulf_24 rfl (lv_at hl 2 rfl) ?_
      have hPc := hP.sub (ws' := [(h, .inr (10, [.ref h_all, .ref h_has, .int f_size, .int f_next, .int f_where, .int f_token, .int f_number, .int f_sign, .int f_word, .int f_wrong, .int f_open, .int f_lines, .int f_acts, .ref h_line, .ref h_act, .ref h_pile, .ref h_comes, .ref h_leaves, .ref h_tried, .ref h_met])), (h_all, .inl (cI, 53700, .inl r_all))]) [0, 1] rfl
      have hDc := hD.sub (ws' := [(h, .inr (10, [.ref h_all, .ref h_has, .int f_size, .int f_next, .int f_where, .int f_token, .int f_number, .int f_sign, .int f_word, .int f_wrong, .int f_open, .int f_lines, .int f_acts, .ref h_line, .ref h_act, .ref h_pile, .ref h_comes, .ref h_leaves, .ref h_tried, .ref h_met])), (h_all, .inl (cI, 53700, .inl r_all))]) [0, 1] (by decide) rfl
      have hFc := va_free (wc := [(h, .inr (10, [.ref h_all, .ref h_has, .int f_size, .int f_next, .int f_where, .int f_token, .int f_number, .int f_sign, .int f_word, .int f_wrong, .int f_open, .int f_lines, .int f_acts, .ref h_line, .ref h_act, .ref h_pile, .ref h_comes, .ref h_leaves, .ref h_tried, .ref h_met])), (h_all, .inl (cI, 53700, .inl r_all))]) hD hS hA [0, 1] rfl
      refine va_callv (va_runV (As := [.int x1, .int x2]) (rest := []) ⟨hx, hb, hml, hown, hts⟩ (kX11_begins l dC dI cI cZ cO cW h h_all h_has h_line h_act h_pile h_comes h_leaves h_tried h_met H.size f_size f_next f_where f_token f_number f_sign f_word f_wrong f_open f_lines f_acts r_all x1 x2 _ hw) (cwV 2 hts (gV gw_619 gw_620 gw_621 gw_622 (gM gw_606)) rfl rfl rfl (by decide +kernel) ⟨Nat.le_of_ble_eq_true rfl, Nat.le_of_ble_eq_true rfl⟩) (pv_of hPc hK hDc (va_recv hK hPc (ci := 10) (q0 := 0) rfl rfl)) rfl rfl hl.1 rfl (lv_room (Nat.le_of_ble_eq_true rfl)) dX11_gulf_25 ⟨Nat.zero_le _, Nat.zero_le _⟩) hS (fun q _ h => hFc q h) hFc (fun u t H locs ht hvm hw hB hz1 hk1 hS => ?_)
      obtain ⟨r_all_5, rfl⟩ : ∃ z, z = u := ⟨_, rfl⟩
      obtain ⟨hP, hD⟩ := af_join (wr := []) (w1 := [(h, .inr (10, [.ref h_all, .ref h_has, .int f_size, .int f_next, .int f_where, .int f_token, .int f_number, .int f_sign, .int f_word, .int f_wrong, .int f_open, .int f_lines, .int f_acts, .ref h_line, .ref h_act, .ref h_pile, .ref h_comes, .ref h_leaves, .ref h_tried, .ref h_met])), (h_all, .inl (cI, 53700, .inl r_all_5))]) hB ht hP hD [0, 1] [] rfl rfl (by decide) (by decide) hk1 hFc
      have hP : va_P (dC, dI) vwCl [(h, .inr (10, [.ref h_all, .ref h_has, .int f_size, .int f_next, .int f_where, .int f_token, .int f_number, .int f_sign, .int f_word, .int f_wrong, .int f_open, .int f_lines, .int f_acts, .ref h_line, .ref h_act, .ref h_pile, .ref h_comes, .ref h_leaves, .ref h_tried, .ref h_met])), (h_all, .inl (cI, 53700, .inl r_all_5))] _ := hP
      have hD : va_D A [(h, .inr (10, [.ref h_all, .ref h_has, .int f_size, .int f_next, .int f_where, .int f_token, .int f_number, .int f_sign, .int f_word, .int f_wrong, .int f_open, .int f_lines, .int f_acts, .ref h_line, .ref h_act, .ref h_pile, .ref h_comes, .ref h_leaves, .ref h_tried, .ref h_met])), (h_all, .inl (cI, 53700, .inl r_all_5))] := hD
      refine lv_iconst (v := (1 : Int32)) hx hb dX11_gulf_28 (by decide) ?_
      have hP9 := hP.sub (ws' := (vX11_gulf cI cZ h h_all h_has h_line h_act h_pile h_comes h_leaves h_tried h_met f_size f_next f_where f_token f_number f_sign f_word f_wrong f_open f_lines f_acts r_all_5)) [0, 1] rfl
      have hD9 := hD.sub (ws' := (vX11_gulf cI cZ h h_all h_has h_line h_act h_pile h_comes h_leaves h_tried h_met f_size f_next f_where f_token f_number f_sign f_word f_wrong f_open f_lines f_acts r_all_5)) [0, 1] (by decide) rfl
      exact W.zret (v := (1 : Int32)) (ty := .boolean) hx hb hr rfl (fun t ht hW => ⟨⟨(1 : Int32), r_all_5, rfl, hw, by rw [ht]; exact hP9, va_K.moved hW.alike hK, hD9⟩, hS.F ht⟩) hS.2.2 dX11_gulf_29
    · have hw := hw.2 c_4
      refine lv_iconst (v := (0 : Int32)) hx hb dX11_gulf_20 (by decide) ?_
      have hP9 := hP.sub (ws' := (vX11_gulf cI cZ h h_all h_has h_line h_act h_pile h_comes h_leaves h_tried h_met f_size f_next f_where f_token f_number f_sign f_word f_wrong f_open f_lines f_acts r_all)) [0, 1] rfl
      have hD9 := hD.sub (ws' := (vX11_gulf cI cZ h h_all h_has h_line h_act h_pile h_comes h_leaves h_tried h_met f_size f_next f_where f_token f_number f_sign f_word f_wrong f_open f_lines f_acts r_all)) [0, 1] (by decide) rfl
      exact W.zret (v := (0 : Int32)) (ty := .boolean) hx hb hr rfl (fun t ht hW => ⟨⟨(0 : Int32), r_all, rfl, hw, by rw [ht]; exact hP9, va_K.moved hW.alike hK, hD9⟩, hS.F ht⟩) hS.2.2 dX11_gulf_21
set_option maxHeartbeats 4000000 in
set_option maxRecDepth 100000 in
theorem kX11_gulf (l : Launch) (dC : Nat → ClassId) (dI : Nat → Nat → Nat) (cI cZ cO cW : ClassId) (h h_all h_has h_line h_act h_pile h_comes h_leaves h_tried h_met : Nat)  (sz : Nat) (f_size : Int32) (f_next : Int32) (f_where : Int32) (f_token : Int32) (f_number : Int32) (f_sign : Int32) (f_word : Int32) (f_wrong : Int32) (f_open : Int32) (f_lines : Int32) (f_acts : Int32) (r_all : Nat → Int32) (x1 : Int32) (x2 : Int32) (Q : Int32 → (Nat → Int32) → Prop) (hw : wX11_gulf Q x1 x2 r_all) : Met l yX11_gulf zsX11_gulf rmX11_gulf (va_Pc [.ref h, .int x1, .int x2] (fun U => U.heap.size = sz ∧ va_P (dC, dI) vwCl (vX11_gulf cI cZ h h_all h_has h_line h_act h_pile h_comes h_leaves h_tried h_met f_size f_next f_where f_token f_number f_sign f_word f_wrong f_open f_lines f_acts r_all) U.heap ∧ va_K (dC, dI) vwCl (tysA cI cZ cO cW) U ∧ va_D (fun _ => True) (vX11_gulf cI cZ h h_all h_has h_line h_act h_pile h_comes h_leaves h_tried h_met f_size f_next f_where f_token f_number f_sign f_word f_wrong f_open f_lines f_acts r_all))) (qX11_gulf dC dI cI cZ cO cW h h_all h_has h_line h_act h_pile h_comes h_leaves h_tried h_met f_size f_next f_where f_token f_number f_sign f_word f_wrong f_open f_lines f_acts Q (va_A (vX11_gulf cI cZ h h_all h_has h_line h_act h_pile h_comes h_leaves h_tried h_met f_size f_next f_where f_token f_number f_sign f_word f_wrong f_open f_lines f_acts r_all) sz)) 0 0 (va_A (vX11_gulf cI cZ h h_all h_has h_line h_act h_pile h_comes h_leaves h_tried h_met f_size f_next f_where f_token f_number f_sign f_word f_wrong f_open f_lines f_acts r_all) sz) := by
  refine Met.ofW (cc := cX11_gulf) (maxL := 3) (ret := (some .boolean)) (by decide) rfl ?_
  intro p e s m args below meth c s₁ B hml hv
  obtain ⟨rfl, hsz, hP, hK, hD0⟩ := hv
  subst hsz
  have hC : Cx p s m ([.ref h, .int x1, .int x2] : List Value).toArray meth c cX11_gulf (some .boolean) 3 GW RX11 := ⟨B.exec, B.bytes, B.returns, hml, findClass_of_methodNamed B.named, fun w h => atoms_spec (ws := zsX11_gulf) B.pre w (List.mem_cons_of_mem _ h), B.notSynchronized⟩
  have hD := hD0.self (sz := s.heap.size)
  generalize hAe : va_A (vX11_gulf cI cZ h h_all h_has h_line h_act h_pile h_comes h_leaves h_tried h_met f_size f_next f_where f_token f_number f_sign f_word f_wrong f_open f_lines f_acts r_all) s.heap.size = A at hD ⊢
  have hA : ∀ q : Nat, s.heap.size ≤ q → A q := fun q h => by rw [← hAe]; exact Or.inr h
  have hl := lv_entry ([.ref h, .int x1, .int x2]) (n := 3) (Nat.le_of_ble_eq_true rfl)
  rw [lg_entry_eq]
  generalize (lg_sl ([.ref h, .int x1, .int x2]) ++ List.replicate (3 - (lg_sl ([.ref h, .int x1, .int x2])).length) Slot.unset).toArray = ls at hl ⊢
  exact tX11_gulf_e hC hK hA x1 x2 r_all _ _ ls hw hP hD va_S.rf hl

/-! X11_isCell -/
def wX11_isCell (Q : Int32 → Prop) (x1 : Int32) (x2 : Int32) (r_all : Nat → Int32) : Prop :=
  (vp_in (0 : Int32) 53700 ∧ (wX11_isIn (fun r_2 => ((r_2 = 0 → (Q (0 : Int32))) ∧ (¬ r_2 = 0 → (vp_in (1 : Int32) 53700 ∧ (wX11_isIn (fun r_5 => ((r_5 = 0 → (Q (0 : Int32))) ∧ (¬ r_5 = 0 → (Q (1 : Int32))))) x2 (0 : Int32) ((r_all (1 : Int32).toNatClampNeg) - (1 : Int32))))))) x1 (0 : Int32) ((r_all (0 : Int32).toNatClampNeg) - (1 : Int32))))
abbrev vX11_isCell (cI cZ : ClassId) (h h_all h_has h_line h_act h_pile h_comes h_leaves h_tried h_met : Nat) (f_size : Int32) (f_next : Int32) (f_where : Int32) (f_token : Int32) (f_number : Int32) (f_sign : Int32) (f_word : Int32) (f_wrong : Int32) (f_open : Int32) (f_lines : Int32) (f_acts : Int32) (r_all : Nat → Int32) : va_W := [(h, .inr (10, [.ref h_all, .ref h_has, .int f_size, .int f_next, .int f_where, .int f_token, .int f_number, .int f_sign, .int f_word, .int f_wrong, .int f_open, .int f_lines, .int f_acts, .ref h_line, .ref h_act, .ref h_pile, .ref h_comes, .ref h_leaves, .ref h_tried, .ref h_met])), (h_all, .inl (cI, 53700, .inl r_all))]
abbrev rmX11_isCell : Room := { frames := 1, cells := 0, slots := 0, locals := 22 }
abbrev qX11_isCell (dC : Nat → ClassId) (dI : Nat → Nat → Nat) (cI cZ cO cW : ClassId) (h h_all h_has h_line h_act h_pile h_comes h_leaves h_tried h_met : Nat) (f_size : Int32) (f_next : Int32) (f_where : Int32) (f_token : Int32) (f_number : Int32) (f_sign : Int32) (f_word : Int32) (f_wrong : Int32) (f_open : Int32) (f_lines : Int32) (f_acts : Int32) (r_all : Nat → Int32) (Q : Int32 → Prop) (A : Nat → Prop) : Array Value → State → Outcome → State → Prop := va_Qi (fun (r : Int32) (u : Unit) => Q r) (fun (u : Unit) (t : State) => va_P (dC, dI) vwCl (vX11_isCell cI cZ h h_all h_has h_line h_act h_pile h_comes h_leaves h_tried h_met f_size f_next f_where f_token f_number f_sign f_word f_wrong f_open f_lines f_acts r_all) t.heap ∧ va_K (dC, dI) vwCl (tysA cI cZ cO cW) t ∧ va_D A (vX11_isCell cI cZ h h_all h_has h_line h_act h_pile h_comes h_leaves h_tried h_met f_size f_next f_where f_token f_number f_sign f_word f_wrong f_open f_lines f_acts r_all)) A
def zsX11_isCell : List Cond := Cond.code yX11_isCell cX11_isCell 3 (some .boolean) :: GW
set_option maxHeartbeats 4000000 in
set_option maxRecDepth 100000 in
theorem tX11_isCell_e {p : Program} {l : Launch} {e : Env} {s : State} {m : MethodId} {args : Array Value} {below : List Frame} {meth : Method} {c : Code} {dC : Nat → ClassId} {dI : Nat → Nat → Nat} {cI cZ cO cW : ClassId} {A : Nat → Prop} {h h_all h_has h_line h_act h_pile h_comes h_leaves h_tried h_met : Nat} {f_size f_next f_where f_token f_number f_sign f_word f_wrong f_open f_lines f_acts : Int32} {Q : Int32 → Prop} (hC : Cx p s m args meth c cX11_isCell (some .boolean) 3 GW RX11) (hK : va_K (dC, dI) vwCl (tysA cI cZ cO cW) s) (hA : ∀ q : Nat, s.heap.size ≤ q → A q) :
    ∀ (x1 : Int32) (x2 : Int32) (r_all : Nat → Int32) (H : Heap) (locs : List Loc) (ls : Array Slot), wX11_isCell Q x1 x2 r_all → va_P (dC, dI) vwCl (vX11_isCell cI cZ h h_all h_has h_line h_act h_pile h_comes h_leaves h_tried h_met f_size f_next f_where f_token f_number f_sign f_word f_wrong f_open f_lines f_acts r_all) H → va_D A (vX11_isCell cI cZ h h_all h_has h_line h_act h_pile h_comes h_leaves h_tried h_met f_size f_next f_where f_token f_number f_sign f_word f_wrong f_open f_lines f_acts r_all) → va_S A s.heap H locs → lv_has ls 3 [(0, .ref h), (1, .int x1), (2, .int x2)] → W p l e rmX11_isCell s m args below meth c H locs 0 0 (MQ below (qX11_isCell dC dI cI cZ cO cW h h_all h_has h_line h_act h_pile h_comes h_leaves h_tried h_met f_size f_next f_where f_token f_number f_sign f_word f_wrong f_open f_lines f_acts r_all Q A) args s 0 0 A) (F0 m 0 ls []) := by
  obtain ⟨hx, hb, hr, hml, hown, hts, hlocks⟩ := id hC
  intro x1 x2 r_all H locs ls hw hP hD hS hl
  refine lv_iload_n hx hb dX11_isCell_0 rfl (lv_at hl 1 rfl) ?_
  refine lv_iconst (v := (0 : Int32)) hx hb dX11_isCell_1 (by decide) ?_
  refine lv_aload_n hx hb dX11_isCell_2 rfl (lv_at hl 0 rfl) ?_
  refine va_get (D := (dC, dI)) (ci := 10) (v := .ref h_all) (C := RX11) (T := TX11) (N := 20) hx hb hts gu_X11 hown hK hP 0 rfl rfl 0 (by decide) (hts _ gw_607) (fun _ h9 => h9) rfl dX11_isCell_3 ?_
  refine lv_iconst (v := (0 : Int32)) hx hb dX11_isCell_6 (by decide) ?_
  obtain ⟨h_1, hw⟩ := hw
  refine va_iald hx hb hK hP 1 0 rfl rfl h_1 dX11_isCell_7 ?_
  refine lv_iconst (v := (1 : Int32)) hx hb dX11_isCell_8 (by decide) ?_
  refine lv_isub hx hb dX11_isCell_9 ?_
  have hPc := hP.sub (ws' := []) [] rfl
  have hDc := hD.sub (ws' := []) [] (by decide) rfl
  have hFc := va_free (wc := []) hD hS hA [] rfl
  refine va_calli (va_runS (As := [.int x1, .int (0 : Int32), .int ((r_all (0 : Int32).toNatClampNeg) - (1 : Int32))]) (rest := []) ⟨hx, hb, hml, hown, hts⟩ (kX11_isIn l dC dI cI cZ cO cW H.size x1 (0 : Int32) ((r_all (0 : Int32).toNatClampNeg) - (1 : Int32)) _ hw) (va_cwS 3 hts (gS gw_625 gw_626 gw_622 (gM gw_623)) rfl rfl rfl (by decide +kernel) ⟨Nat.le_of_ble_eq_true rfl, Nat.le_of_ble_eq_true rfl⟩) (ps_of hPc hK hDc) rfl rfl hl.1 rfl (lv_room (Nat.le_of_ble_eq_true rfl)) dX11_isCell_10 ⟨Nat.zero_le _, Nat.zero_le _⟩) hS (fun q _ h => hFc q h) hFc (fun r_2 u t H locs ht hvm hw hB hz1 hk1 hS => ?_)
  obtain ⟨hP, hD⟩ := af_join (wr := [(h, .inr (10, [.ref h_all, .ref h_has, .int f_size, .int f_next, .int f_where, .int f_token, .int f_number, .int f_sign, .int f_word, .int f_wrong, .int f_open, .int f_lines, .int f_acts, .ref h_line, .ref h_act, .ref h_pile, .ref h_comes, .ref h_leaves, .ref h_tried, .ref h_met])), (h_all, .inl (cI, 53700, .inl r_all))]) (w1 := []) hB ht hP hD [] [0, 1] rfl rfl (by decide) (by decide) hk1 hFc
  have hP : va_P (dC, dI) vwCl [(h, .inr (10, [.ref h_all, .ref h_has, .int f_size, .int f_next, .int f_where, .int f_token, .int f_number, .int f_sign, .int f_word, .int f_wrong, .int f_open, .int f_lines, .int f_acts, .ref h_line, .ref h_act, .ref h_pile, .ref h_comes, .ref h_leaves, .ref h_tried, .ref h_met])), (h_all, .inl (cI, 53700, .inl r_all))] _ := hP
  have hD : va_D A [(h, .inr (10, [.ref h_all, .ref h_has, .int f_size, .int f_next, .int f_where, .int f_token, .int f_number, .int f_sign, .int f_word, .int f_wrong, .int f_open, .int f_lines, .int f_acts, .ref h_line, .ref h_act, .ref h_pile, .ref h_comes, .ref h_leaves, .ref h_tried, .ref h_met])), (h_all, .inl (cI, 53700, .inl r_all))] := hD
  refine lv_if_eq (tgt := 36) hx hb dX11_isCell_13 (by decide) (fun c_3 => ?_) (fun c_3 => ?_)
  · have hw := hw.1 c_3
    refine lv_iconst (v := (0 : Int32)) hx hb dX11_isCell_36 (by decide) ?_
    have hP9 := hP.sub (ws' := (vX11_isCell cI cZ h h_all h_has h_line h_act h_pile h_comes h_leaves h_tried h_met f_size f_next f_where f_token f_number f_sign f_word f_wrong f_open f_lines f_acts r_all)) [0, 1] rfl
    have hD9 := hD.sub (ws' := (vX11_isCell cI cZ h h_all h_has h_line h_act h_pile h_comes h_leaves h_tried h_met f_size f_next f_where f_token f_number f_sign f_word f_wrong f_open f_lines f_acts r_all)) [0, 1] (by decide) rfl
    exact W.zret (v := (0 : Int32)) (ty := .boolean) hx hb hr rfl (fun t ht hW => ⟨⟨(0 : Int32), (), rfl, hw, by rw [ht]; exact hP9, va_K.moved hW.alike hK, hD9⟩, hS.F ht⟩) hS.2.2 dX11_isCell_37
  · have hw := hw.2 c_3
    refine lv_iload_n hx hb dX11_isCell_16 rfl (lv_at hl 2 rfl) ?_
    refine lv_iconst (v := (0 : Int32)) hx hb dX11_isCell_17 (by decide) ?_
    refine lv_aload_n hx hb dX11_isCell_18 rfl (lv_at hl 0 rfl) ?_
    refine va_get (D := (dC, dI)) (ci := 10) (v := .ref h_all) (C := RX11) (T := TX11) (N := 20) hx hb hts gu_X11 hown hK hP 0 rfl rfl 0 (by decide) (hts _ gw_607) (fun _ h9 => h9) rfl dX11_isCell_19 ?_
    refine lv_iconst (v := (1 : Int32)) hx hb dX11_isCell_22 (by decide) ?_
    obtain ⟨h_4, hw⟩ := hw
    refine va_iald hx hb hK hP 1 0 rfl rfl h_4 dX11_isCell_23 ?_
    refine lv_iconst (v := (1 : Int32)) hx hb dX11_isCell_24 (by decide) ?_
    refine lv_isub hx hb dX11_isCell_25 ?_
    have hPc := hP.sub (ws' := []) [] rfl
    have hDc := hD.sub (ws' := []) [] (by decide) rfl
    have hFc := va_free (wc := []) hD hS hA [] rfl
    refine va_calli (va_runS (As := [.int x2, .int (0 : Int32), .int ((r_all (1 : Int32).toNatClampNeg) - (1 : Int32))]) (rest := []) ⟨hx, hb, hml, hown, hts⟩ (kX11_isIn l dC dI cI cZ cO cW H.size x2 (0 : Int32) ((r_all (1 : Int32).toNatClampNeg) - (1 : Int32)) _ hw) (va_cwS 3 hts (gS gw_625 gw_626 gw_622 (gM gw_623)) rfl rfl rfl (by decide +kernel) ⟨Nat.le_of_ble_eq_true rfl, Nat.le_of_ble_eq_true rfl⟩) (ps_of hPc hK hDc) rfl rfl hl.1 rfl (lv_room (Nat.le_of_ble_eq_true rfl)) dX11_isCell_26 ⟨Nat.zero_le _, Nat.zero_le _⟩) hS (fun q _ h => hFc q h) hFc (fun r_5 u t H locs ht hvm hw hB hz1 hk1 hS => ?_)
    obtain ⟨hP, hD⟩ := af_join (wr := [(h, .inr (10, [.ref h_all, .ref h_has, .int f_size, .int f_next, .int f_where, .int f_token, .int f_number, .int f_sign, .int f_word, .int f_wrong, .int f_open, .int f_lines, .int f_acts, .ref h_line, .ref h_act, .ref h_pile, .ref h_comes, .ref h_leaves, .ref h_tried, .ref h_met])), (h_all, .inl (cI, 53700, .inl r_all))]) (w1 := []) hB ht hP hD [] [0, 1] rfl rfl (by decide) (by decide) hk1 hFc
    have hP : va_P (dC, dI) vwCl [(h, .inr (10, [.ref h_all, .ref h_has, .int f_size, .int f_next, .int f_where, .int f_token, .int f_number, .int f_sign, .int f_word, .int f_wrong, .int f_open, .int f_lines, .int f_acts, .ref h_line, .ref h_act, .ref h_pile, .ref h_comes, .ref h_leaves, .ref h_tried, .ref h_met])), (h_all, .inl (cI, 53700, .inl r_all))] _ := hP
    have hD : va_D A [(h, .inr (10, [.ref h_all, .ref h_has, .int f_size, .int f_next, .int f_where, .int f_token, .int f_number, .int f_sign, .int f_word, .int f_wrong, .int f_open, .int f_lines, .int f_acts, .ref h_line, .ref h_act, .ref h_pile, .ref h_comes, .ref h_leaves, .ref h_tried, .ref h_met])), (h_all, .inl (cI, 53700, .inl r_all))] := hD
    refine lv_if_eq (tgt := 36) hx hb dX11_isCell_29 (by decide) (fun c_6 => ?_) (fun c_6 => ?_)
    · have hw := hw.1 c_6
      refine lv_iconst (v := (0 : Int32)) hx hb dX11_isCell_36 (by decide) ?_
      have hP9 := hP.sub (ws' := (vX11_isCell cI cZ h h_all h_has h_line h_act h_pile h_comes h_leaves h_tried h_met f_size f_next f_where f_token f_number f_sign f_word f_wrong f_open f_lines f_acts r_all)) [0, 1] rfl
      have hD9 := hD.sub (ws' := (vX11_isCell cI cZ h h_all h_has h_line h_act h_pile h_comes h_leaves h_tried h_met f_size f_next f_where f_token f_number f_sign f_word f_wrong f_open f_lines f_acts r_all)) [0, 1] (by decide) rfl
      exact W.zret (v := (0 : Int32)) (ty := .boolean) hx hb hr rfl (fun t ht hW => ⟨⟨(0 : Int32), (), rfl, hw, by rw [ht]; exact hP9, va_K.moved hW.alike hK, hD9⟩, hS.F ht⟩) hS.2.2 dX11_isCell_37
    · have hw := hw.2 c_6
      refine lv_iconst (v := (1 : Int32)) hx hb dX11_isCell_32 (by decide) ?_
      refine lv_goto (tgt := 37) hx hb dX11_isCell_33 (by decide) ?_
      have hP9 := hP.sub (ws' := (vX11_isCell cI cZ h h_all h_has h_line h_act h_pile h_comes h_leaves h_tried h_met f_size f_next f_where f_token f_number f_sign f_word f_wrong f_open f_lines f_acts r_all)) [0, 1] rfl
      have hD9 := hD.sub (ws' := (vX11_isCell cI cZ h h_all h_has h_line h_act h_pile h_comes h_leaves h_tried h_met f_size f_next f_where f_token f_number f_sign f_word f_wrong f_open f_lines f_acts r_all)) [0, 1] (by decide) rfl
      exact W.zret (v := (1 : Int32)) (ty := .boolean) hx hb hr rfl (fun t ht hW => ⟨⟨(1 : Int32), (), rfl, hw, by rw [ht]; exact hP9, va_K.moved hW.alike hK, hD9⟩, hS.F ht⟩) hS.2.2 dX11_isCell_37
set_option maxHeartbeats 4000000 in
set_option maxRecDepth 100000 in
theorem kX11_isCell (l : Launch) (dC : Nat → ClassId) (dI : Nat → Nat → Nat) (cI cZ cO cW : ClassId) (h h_all h_has h_line h_act h_pile h_comes h_leaves h_tried h_met : Nat)  (sz : Nat) (f_size : Int32) (f_next : Int32) (f_where : Int32) (f_token : Int32) (f_number : Int32) (f_sign : Int32) (f_word : Int32) (f_wrong : Int32) (f_open : Int32) (f_lines : Int32) (f_acts : Int32) (r_all : Nat → Int32) (x1 : Int32) (x2 : Int32) (Q : Int32 → Prop) (hw : wX11_isCell Q x1 x2 r_all) : Met l yX11_isCell zsX11_isCell rmX11_isCell (va_Pc [.ref h, .int x1, .int x2] (fun U => U.heap.size = sz ∧ va_P (dC, dI) vwCl (vX11_isCell cI cZ h h_all h_has h_line h_act h_pile h_comes h_leaves h_tried h_met f_size f_next f_where f_token f_number f_sign f_word f_wrong f_open f_lines f_acts r_all) U.heap ∧ va_K (dC, dI) vwCl (tysA cI cZ cO cW) U ∧ va_D (fun _ => True) (vX11_isCell cI cZ h h_all h_has h_line h_act h_pile h_comes h_leaves h_tried h_met f_size f_next f_where f_token f_number f_sign f_word f_wrong f_open f_lines f_acts r_all))) (qX11_isCell dC dI cI cZ cO cW h h_all h_has h_line h_act h_pile h_comes h_leaves h_tried h_met f_size f_next f_where f_token f_number f_sign f_word f_wrong f_open f_lines f_acts r_all Q (va_A (vX11_isCell cI cZ h h_all h_has h_line h_act h_pile h_comes h_leaves h_tried h_met f_size f_next f_where f_token f_number f_sign f_word f_wrong f_open f_lines f_acts r_all) sz)) 0 0 (va_A (vX11_isCell cI cZ h h_all h_has h_line h_act h_pile h_comes h_leaves h_tried h_met f_size f_next f_where f_token f_number f_sign f_word f_wrong f_open f_lines f_acts r_all) sz) := by
  refine Met.ofW (cc := cX11_isCell) (maxL := 3) (ret := (some .boolean)) (by decide) rfl ?_
  intro p e s m args below meth c s₁ B hml hv
  obtain ⟨rfl, hsz, hP, hK, hD0⟩ := hv
  subst hsz
  have hC : Cx p s m ([.ref h, .int x1, .int x2] : List Value).toArray meth c cX11_isCell (some .boolean) 3 GW RX11 := ⟨B.exec, B.bytes, B.returns, hml, findClass_of_methodNamed B.named, fun w h => atoms_spec (ws := zsX11_isCell) B.pre w (List.mem_cons_of_mem _ h), B.notSynchronized⟩
  have hD := hD0.self (sz := s.heap.size)
  generalize hAe : va_A (vX11_isCell cI cZ h h_all h_has h_line h_act h_pile h_comes h_leaves h_tried h_met f_size f_next f_where f_token f_number f_sign f_word f_wrong f_open f_lines f_acts r_all) s.heap.size = A at hD ⊢
  have hA : ∀ q : Nat, s.heap.size ≤ q → A q := fun q h => by rw [← hAe]; exact Or.inr h
  have hl := lv_entry ([.ref h, .int x1, .int x2]) (n := 3) (Nat.le_of_ble_eq_true rfl)
  rw [lg_entry_eq]
  generalize (lg_sl ([.ref h, .int x1, .int x2]) ++ List.replicate (3 - (lg_sl ([.ref h, .int x1, .int x2])).length) Slot.unset).toArray = ls at hl ⊢
  exact tX11_isCell_e hC hK hA x1 x2 r_all _ _ ls hw hP hD va_S.rf hl

/-! X11_of -/
def wX11_of (Q : Int32 → Prop) (x1 : Int32) (x2 : Int32) (x3 : Int32) (r_all : Nat → Int32) : Prop :=
  (vp_in (((40 : Int32) + ((5 : Int32) * (((8 : Int32) * x1) + x2))) + x3) 53700 ∧ (Q (r_all (((40 : Int32) + ((5 : Int32) * (((8 : Int32) * x1) + x2))) + x3).toNatClampNeg)))
abbrev vX11_of (cI cZ : ClassId) (h h_all h_has h_line h_act h_pile h_comes h_leaves h_tried h_met : Nat) (f_size : Int32) (f_next : Int32) (f_where : Int32) (f_token : Int32) (f_number : Int32) (f_sign : Int32) (f_word : Int32) (f_wrong : Int32) (f_open : Int32) (f_lines : Int32) (f_acts : Int32) (r_all : Nat → Int32) : va_W := [(h, .inr (10, [.ref h_all, .ref h_has, .int f_size, .int f_next, .int f_where, .int f_token, .int f_number, .int f_sign, .int f_word, .int f_wrong, .int f_open, .int f_lines, .int f_acts, .ref h_line, .ref h_act, .ref h_pile, .ref h_comes, .ref h_leaves, .ref h_tried, .ref h_met])), (h_all, .inl (cI, 53700, .inl r_all))]
abbrev rmX11_of : Room := { frames := 0, cells := 0, slots := 0, locals := 0 }
abbrev qX11_of (dC : Nat → ClassId) (dI : Nat → Nat → Nat) (cI cZ cO cW : ClassId) (h h_all h_has h_line h_act h_pile h_comes h_leaves h_tried h_met : Nat) (f_size : Int32) (f_next : Int32) (f_where : Int32) (f_token : Int32) (f_number : Int32) (f_sign : Int32) (f_word : Int32) (f_wrong : Int32) (f_open : Int32) (f_lines : Int32) (f_acts : Int32) (r_all : Nat → Int32) (Q : Int32 → Prop) (A : Nat → Prop) : Array Value → State → Outcome → State → Prop := va_Qi (fun (r : Int32) (u : Unit) => Q r) (fun (u : Unit) (t : State) => va_P (dC, dI) vwCl (vX11_of cI cZ h h_all h_has h_line h_act h_pile h_comes h_leaves h_tried h_met f_size f_next f_where f_token f_number f_sign f_word f_wrong f_open f_lines f_acts r_all) t.heap ∧ va_K (dC, dI) vwCl (tysA cI cZ cO cW) t ∧ va_D A (vX11_of cI cZ h h_all h_has h_line h_act h_pile h_comes h_leaves h_tried h_met f_size f_next f_where f_token f_number f_sign f_word f_wrong f_open f_lines f_acts r_all)) A
def zsX11_of : List Cond := Cond.code yX11_of cX11_of 4 (some .int) :: GW
set_option maxHeartbeats 4000000 in
set_option maxRecDepth 100000 in
theorem tX11_of_e {p : Program} {l : Launch} {e : Env} {s : State} {m : MethodId} {args : Array Value} {below : List Frame} {meth : Method} {c : Code} {dC : Nat → ClassId} {dI : Nat → Nat → Nat} {cI cZ cO cW : ClassId} {A : Nat → Prop} {h h_all h_has h_line h_act h_pile h_comes h_leaves h_tried h_met : Nat} {f_size f_next f_where f_token f_number f_sign f_word f_wrong f_open f_lines f_acts : Int32} {Q : Int32 → Prop} (hC : Cx p s m args meth c cX11_of (some .int) 4 GW RX11) (hK : va_K (dC, dI) vwCl (tysA cI cZ cO cW) s) (hA : ∀ q : Nat, s.heap.size ≤ q → A q) :
    ∀ (x1 : Int32) (x2 : Int32) (x3 : Int32) (r_all : Nat → Int32) (H : Heap) (locs : List Loc) (ls : Array Slot), wX11_of Q x1 x2 x3 r_all → va_P (dC, dI) vwCl (vX11_of cI cZ h h_all h_has h_line h_act h_pile h_comes h_leaves h_tried h_met f_size f_next f_where f_token f_number f_sign f_word f_wrong f_open f_lines f_acts r_all) H → va_D A (vX11_of cI cZ h h_all h_has h_line h_act h_pile h_comes h_leaves h_tried h_met f_size f_next f_where f_token f_number f_sign f_word f_wrong f_open f_lines f_acts r_all) → va_S A s.heap H locs → lv_has ls 4 [(0, .ref h), (1, .int x1), (2, .int x2), (3, .int x3)] → W p l e rmX11_of s m args below meth c H locs 0 0 (MQ below (qX11_of dC dI cI cZ cO cW h h_all h_has h_line h_act h_pile h_comes h_leaves h_tried h_met f_size f_next f_where f_token f_number f_sign f_word f_wrong f_open f_lines f_acts r_all Q A) args s 0 0 A) (F0 m 0 ls []) := by
  obtain ⟨hx, hb, hr, hml, hown, hts, hlocks⟩ := id hC
  intro x1 x2 x3 r_all H locs ls hw hP hD hS hl
  refine lv_aload_n hx hb dX11_of_0 rfl (lv_at hl 0 rfl) ?_
  refine va_get (D := (dC, dI)) (ci := 10) (v := .ref h_all) (C := RX11) (T := TX11) (N := 20) hx hb hts gu_X11 hown hK hP 0 rfl rfl 0 (by decide) (hts _ gw_607) (fun _ h9 => h9) rfl dX11_of_1 ?_
  refine lv_bipush (v := (40 : Int32)) hx hb dX11_of_4 (by decide) ?_
  refine lv_iconst (v := (5 : Int32)) hx hb dX11_of_6 (by decide) ?_
  refine lv_bipush (v := (8 : Int32)) hx hb dX11_of_7 (by decide) ?_
  refine lv_iload_n hx hb dX11_of_9 rfl (lv_at hl 1 rfl) ?_
  refine lv_imul hx hb dX11_of_10 ?_
  refine lv_iload_n hx hb dX11_of_11 rfl (lv_at hl 2 rfl) ?_
  refine lv_iadd hx hb dX11_of_12 ?_
  refine lv_imul hx hb dX11_of_13 ?_
  refine lv_iadd hx hb dX11_of_14 ?_
  refine lv_iload_n hx hb dX11_of_15 rfl (lv_at hl 3 rfl) ?_
  refine lv_iadd hx hb dX11_of_16 ?_
  obtain ⟨h_1, hw⟩ := hw
  refine va_iald hx hb hK hP 1 0 rfl rfl h_1 dX11_of_17 ?_
  have hP9 := hP.sub (ws' := (vX11_of cI cZ h h_all h_has h_line h_act h_pile h_comes h_leaves h_tried h_met f_size f_next f_where f_token f_number f_sign f_word f_wrong f_open f_lines f_acts r_all)) [0, 1] rfl
  have hD9 := hD.sub (ws' := (vX11_of cI cZ h h_all h_has h_line h_act h_pile h_comes h_leaves h_tried h_met f_size f_next f_where f_token f_number f_sign f_word f_wrong f_open f_lines f_acts r_all)) [0, 1] (by decide) rfl
  exact W.iret (v := (r_all (((40 : Int32) + ((5 : Int32) * (((8 : Int32) * x1) + x2))) + x3).toNatClampNeg)) hx hb hr (fun t ht hW => ⟨⟨(r_all (((40 : Int32) + ((5 : Int32) * (((8 : Int32) * x1) + x2))) + x3).toNatClampNeg), (), rfl, hw, by rw [ht]; exact hP9, va_K.moved hW.alike hK, hD9⟩, hS.F ht⟩) hS.2.2 dX11_of_18
set_option maxHeartbeats 4000000 in
set_option maxRecDepth 100000 in
theorem kX11_of (l : Launch) (dC : Nat → ClassId) (dI : Nat → Nat → Nat) (cI cZ cO cW : ClassId) (h h_all h_has h_line h_act h_pile h_comes h_leaves h_tried h_met : Nat)  (sz : Nat) (f_size : Int32) (f_next : Int32) (f_where : Int32) (f_token : Int32) (f_number : Int32) (f_sign : Int32) (f_word : Int32) (f_wrong : Int32) (f_open : Int32) (f_lines : Int32) (f_acts : Int32) (r_all : Nat → Int32) (x1 : Int32) (x2 : Int32) (x3 : Int32) (Q : Int32 → Prop) (hw : wX11_of Q x1 x2 x3 r_all) : Met l yX11_of zsX11_of rmX11_of (va_Pc [.ref h, .int x1, .int x2, .int x3] (fun U => U.heap.size = sz ∧ va_P (dC, dI) vwCl (vX11_of cI cZ h h_all h_has h_line h_act h_pile h_comes h_leaves h_tried h_met f_size f_next f_where f_token f_number f_sign f_word f_wrong f_open f_lines f_acts r_all) U.heap ∧ va_K (dC, dI) vwCl (tysA cI cZ cO cW) U ∧ va_D (fun _ => True) (vX11_of cI cZ h h_all h_has h_line h_act h_pile h_comes h_leaves h_tried h_met f_size f_next f_where f_token f_number f_sign f_word f_wrong f_open f_lines f_acts r_all))) (qX11_of dC dI cI cZ cO cW h h_all h_has h_line h_act h_pile h_comes h_leaves h_tried h_met f_size f_next f_where f_token f_number f_sign f_word f_wrong f_open f_lines f_acts r_all Q (va_A (vX11_of cI cZ h h_all h_has h_line h_act h_pile h_comes h_leaves h_tried h_met f_size f_next f_where f_token f_number f_sign f_word f_wrong f_open f_lines f_acts r_all) sz)) 0 0 (va_A (vX11_of cI cZ h h_all h_has h_line h_act h_pile h_comes h_leaves h_tried h_met f_size f_next f_where f_token f_number f_sign f_word f_wrong f_open f_lines f_acts r_all) sz) := by
  refine Met.ofW (cc := cX11_of) (maxL := 4) (ret := (some .int)) (by decide) rfl ?_
  intro p e s m args below meth c s₁ B hml hv
  obtain ⟨rfl, hsz, hP, hK, hD0⟩ := hv
  subst hsz
  have hC : Cx p s m ([.ref h, .int x1, .int x2, .int x3] : List Value).toArray meth c cX11_of (some .int) 4 GW RX11 := ⟨B.exec, B.bytes, B.returns, hml, findClass_of_methodNamed B.named, fun w h => atoms_spec (ws := zsX11_of) B.pre w (List.mem_cons_of_mem _ h), B.notSynchronized⟩
  have hD := hD0.self (sz := s.heap.size)
  generalize hAe : va_A (vX11_of cI cZ h h_all h_has h_line h_act h_pile h_comes h_leaves h_tried h_met f_size f_next f_where f_token f_number f_sign f_word f_wrong f_open f_lines f_acts r_all) s.heap.size = A at hD ⊢
  have hA : ∀ q : Nat, s.heap.size ≤ q → A q := fun q h => by rw [← hAe]; exact Or.inr h
  have hl := lv_entry ([.ref h, .int x1, .int x2, .int x3]) (n := 4) (Nat.le_of_ble_eq_true rfl)
  rw [lg_entry_eq]
  generalize (lg_sl ([.ref h, .int x1, .int x2, .int x3]) ++ List.replicate (4 - (lg_sl ([.ref h, .int x1, .int x2, .int x3])).length) Slot.unset).toArray = ls at hl ⊢
  exact tX11_of_e hC hK hA x1 x2 x3 r_all _ _ ls hw hP hD va_S.rf hl

/-! X11_sets -/
def wX11_sets (Q : (Nat → Int32) → Prop) (x1 : Int32) (x2 : Int32) (x3 : Int32) (x4 : Int32) (r_all : Nat → Int32) : Prop :=
  (vp_in (((40 : Int32) + ((5 : Int32) * (((8 : Int32) * x1) + x2))) + x3) 53700 ∧ (Q (upd r_all (((40 : Int32) + ((5 : Int32) * (((8 : Int32) * x1) + x2))) + x3).toNatClampNeg x4)))
abbrev vX11_sets (cI cZ : ClassId) (h h_all h_has h_line h_act h_pile h_comes h_leaves h_tried h_met : Nat) (f_size : Int32) (f_next : Int32) (f_where : Int32) (f_token : Int32) (f_number : Int32) (f_sign : Int32) (f_word : Int32) (f_wrong : Int32) (f_open : Int32) (f_lines : Int32) (f_acts : Int32) (r_all : Nat → Int32) : va_W := [(h, .inr (10, [.ref h_all, .ref h_has, .int f_size, .int f_next, .int f_where, .int f_token, .int f_number, .int f_sign, .int f_word, .int f_wrong, .int f_open, .int f_lines, .int f_acts, .ref h_line, .ref h_act, .ref h_pile, .ref h_comes, .ref h_leaves, .ref h_tried, .ref h_met])), (h_all, .inl (cI, 53700, .inl r_all))]
abbrev rmX11_sets : Room := { frames := 0, cells := 0, slots := 0, locals := 0 }
abbrev qX11_sets (dC : Nat → ClassId) (dI : Nat → Nat → Nat) (cI cZ cO cW : ClassId) (h h_all h_has h_line h_act h_pile h_comes h_leaves h_tried h_met : Nat) (f_size : Int32) (f_next : Int32) (f_where : Int32) (f_token : Int32) (f_number : Int32) (f_sign : Int32) (f_word : Int32) (f_wrong : Int32) (f_open : Int32) (f_lines : Int32) (f_acts : Int32) (Q : (Nat → Int32) → Prop) (A : Nat → Prop) : Array Value → State → Outcome → State → Prop := va_Qv (fun (u : (Nat → Int32)) => Q u) (fun (u : (Nat → Int32)) (t : State) => va_P (dC, dI) vwCl (vX11_sets cI cZ h h_all h_has h_line h_act h_pile h_comes h_leaves h_tried h_met f_size f_next f_where f_token f_number f_sign f_word f_wrong f_open f_lines f_acts u) t.heap ∧ va_K (dC, dI) vwCl (tysA cI cZ cO cW) t ∧ va_D A (vX11_sets cI cZ h h_all h_has h_line h_act h_pile h_comes h_leaves h_tried h_met f_size f_next f_where f_token f_number f_sign f_word f_wrong f_open f_lines f_acts u)) A
def zsX11_sets : List Cond := Cond.code yX11_sets cX11_sets 5 none :: GW
set_option maxHeartbeats 4000000 in
set_option maxRecDepth 100000 in
theorem tX11_sets_e {p : Program} {l : Launch} {e : Env} {s : State} {m : MethodId} {args : Array Value} {below : List Frame} {meth : Method} {c : Code} {dC : Nat → ClassId} {dI : Nat → Nat → Nat} {cI cZ cO cW : ClassId} {A : Nat → Prop} {h h_all h_has h_line h_act h_pile h_comes h_leaves h_tried h_met : Nat} {f_size f_next f_where f_token f_number f_sign f_word f_wrong f_open f_lines f_acts : Int32} {Q : (Nat → Int32) → Prop} (hC : Cx p s m args meth c cX11_sets none 5 GW RX11) (hK : va_K (dC, dI) vwCl (tysA cI cZ cO cW) s) (hA : ∀ q : Nat, s.heap.size ≤ q → A q) :
    ∀ (x1 : Int32) (x2 : Int32) (x3 : Int32) (x4 : Int32) (r_all : Nat → Int32) (H : Heap) (locs : List Loc) (ls : Array Slot), wX11_sets Q x1 x2 x3 x4 r_all → va_P (dC, dI) vwCl (vX11_sets cI cZ h h_all h_has h_line h_act h_pile h_comes h_leaves h_tried h_met f_size f_next f_where f_token f_number f_sign f_word f_wrong f_open f_lines f_acts r_all) H → va_D A (vX11_sets cI cZ h h_all h_has h_line h_act h_pile h_comes h_leaves h_tried h_met f_size f_next f_where f_token f_number f_sign f_word f_wrong f_open f_lines f_acts r_all) → va_S A s.heap H locs → lv_has ls 5 [(0, .ref h), (1, .int x1), (2, .int x2), (3, .int x3), (4, .int x4)] → W p l e rmX11_sets s m args below meth c H locs 0 0 (MQ below (qX11_sets dC dI cI cZ cO cW h h_all h_has h_line h_act h_pile h_comes h_leaves h_tried h_met f_size f_next f_where f_token f_number f_sign f_word f_wrong f_open f_lines f_acts Q A) args s 0 0 A) (F0 m 0 ls []) := by
  obtain ⟨hx, hb, hr, hml, hown, hts, hlocks⟩ := id hC
  intro x1 x2 x3 x4 r_all H locs ls hw hP hD hS hl
  refine lv_aload_n hx hb dX11_sets_0 rfl (lv_at hl 0 rfl) ?_
  refine va_get (D := (dC, dI)) (ci := 10) (v := .ref h_all) (C := RX11) (T := TX11) (N := 20) hx hb hts gu_X11 hown hK hP 0 rfl rfl 0 (by decide) (hts _ gw_607) (fun _ h9 => h9) rfl dX11_sets_1 ?_
  refine lv_bipush (v := (40 : Int32)) hx hb dX11_sets_4 (by decide) ?_
  refine lv_iconst (v := (5 : Int32)) hx hb dX11_sets_6 (by decide) ?_
  refine lv_bipush (v := (8 : Int32)) hx hb dX11_sets_7 (by decide) ?_
  refine lv_iload_n hx hb dX11_sets_9 rfl (lv_at hl 1 rfl) ?_
  refine lv_imul hx hb dX11_sets_10 ?_
  refine lv_iload_n hx hb dX11_sets_11 rfl (lv_at hl 2 rfl) ?_
  refine lv_iadd hx hb dX11_sets_12 ?_
  refine lv_imul hx hb dX11_sets_13 ?_
  refine lv_iadd hx hb dX11_sets_14 ?_
  refine lv_iload_n hx hb dX11_sets_15 rfl (lv_at hl 3 rfl) ?_
  refine lv_iadd hx hb dX11_sets_16 ?_
  refine lv_iload hx hb dX11_sets_17 (lv_at hl 4 rfl) ?_
  obtain ⟨h_1, hw⟩ := hw
  refine va_iast hx hb hK hP hD hS 1 0 rfl rfl h_1 dX11_sets_19 (fun H locs hP hD hS => ?_)
  have hP : va_P (dC, dI) vwCl [(h, .inr (10, [.ref h_all, .ref h_has, .int f_size, .int f_next, .int f_where, .int f_token, .int f_number, .int f_sign, .int f_word, .int f_wrong, .int f_open, .int f_lines, .int f_acts, .ref h_line, .ref h_act, .ref h_pile, .ref h_comes, .ref h_leaves, .ref h_tried, .ref h_met])), (h_all, .inl (cI, 53700, .inl (upd r_all (((40 : Int32) + ((5 : Int32) * (((8 : Int32) * x1) + x2))) + x3).toNatClampNeg x4)))] _ := hP
  have hD : va_D A [(h, .inr (10, [.ref h_all, .ref h_has, .int f_size, .int f_next, .int f_where, .int f_token, .int f_number, .int f_sign, .int f_word, .int f_wrong, .int f_open, .int f_lines, .int f_acts, .ref h_line, .ref h_act, .ref h_pile, .ref h_comes, .ref h_leaves, .ref h_tried, .ref h_met])), (h_all, .inl (cI, 53700, .inl (upd r_all (((40 : Int32) + ((5 : Int32) * (((8 : Int32) * x1) + x2))) + x3).toNatClampNeg x4)))] := hD
  have hP9 := hP.sub (ws' := (vX11_sets cI cZ h h_all h_has h_line h_act h_pile h_comes h_leaves h_tried h_met f_size f_next f_where f_token f_number f_sign f_word f_wrong f_open f_lines f_acts (upd r_all (((40 : Int32) + ((5 : Int32) * (((8 : Int32) * x1) + x2))) + x3).toNatClampNeg x4))) [0, 1] rfl
  have hD9 := hD.sub (ws' := (vX11_sets cI cZ h h_all h_has h_line h_act h_pile h_comes h_leaves h_tried h_met f_size f_next f_where f_token f_number f_sign f_word f_wrong f_open f_lines f_acts (upd r_all (((40 : Int32) + ((5 : Int32) * (((8 : Int32) * x1) + x2))) + x3).toNatClampNeg x4))) [0, 1] (by decide) rfl
  exact W.vret hx hb hr (fun t ht hW => ⟨⟨(upd r_all (((40 : Int32) + ((5 : Int32) * (((8 : Int32) * x1) + x2))) + x3).toNatClampNeg x4), rfl, hw, by rw [ht]; exact hP9, va_K.moved hW.alike hK, hD9⟩, hS.F ht⟩) hS.2.2 dX11_sets_20
set_option maxHeartbeats 4000000 in
set_option maxRecDepth 100000 in
theorem kX11_sets (l : Launch) (dC : Nat → ClassId) (dI : Nat → Nat → Nat) (cI cZ cO cW : ClassId) (h h_all h_has h_line h_act h_pile h_comes h_leaves h_tried h_met : Nat)  (sz : Nat) (f_size : Int32) (f_next : Int32) (f_where : Int32) (f_token : Int32) (f_number : Int32) (f_sign : Int32) (f_word : Int32) (f_wrong : Int32) (f_open : Int32) (f_lines : Int32) (f_acts : Int32) (r_all : Nat → Int32) (x1 : Int32) (x2 : Int32) (x3 : Int32) (x4 : Int32) (Q : (Nat → Int32) → Prop) (hw : wX11_sets Q x1 x2 x3 x4 r_all) : Met l yX11_sets zsX11_sets rmX11_sets (va_Pc [.ref h, .int x1, .int x2, .int x3, .int x4] (fun U => U.heap.size = sz ∧ va_P (dC, dI) vwCl (vX11_sets cI cZ h h_all h_has h_line h_act h_pile h_comes h_leaves h_tried h_met f_size f_next f_where f_token f_number f_sign f_word f_wrong f_open f_lines f_acts r_all) U.heap ∧ va_K (dC, dI) vwCl (tysA cI cZ cO cW) U ∧ va_D (fun _ => True) (vX11_sets cI cZ h h_all h_has h_line h_act h_pile h_comes h_leaves h_tried h_met f_size f_next f_where f_token f_number f_sign f_word f_wrong f_open f_lines f_acts r_all))) (qX11_sets dC dI cI cZ cO cW h h_all h_has h_line h_act h_pile h_comes h_leaves h_tried h_met f_size f_next f_where f_token f_number f_sign f_word f_wrong f_open f_lines f_acts Q (va_A (vX11_sets cI cZ h h_all h_has h_line h_act h_pile h_comes h_leaves h_tried h_met f_size f_next f_where f_token f_number f_sign f_word f_wrong f_open f_lines f_acts r_all) sz)) 0 0 (va_A (vX11_sets cI cZ h h_all h_has h_line h_act h_pile h_comes h_leaves h_tried h_met f_size f_next f_where f_token f_number f_sign f_word f_wrong f_open f_lines f_acts r_all) sz) := by
  refine Met.ofW (cc := cX11_sets) (maxL := 5) (ret := none) (by decide) rfl ?_
  intro p e s m args below meth c s₁ B hml hv
  obtain ⟨rfl, hsz, hP, hK, hD0⟩ := hv
  subst hsz
  have hC : Cx p s m ([.ref h, .int x1, .int x2, .int x3, .int x4] : List Value).toArray meth c cX11_sets none 5 GW RX11 := ⟨B.exec, B.bytes, B.returns, hml, findClass_of_methodNamed B.named, fun w h => atoms_spec (ws := zsX11_sets) B.pre w (List.mem_cons_of_mem _ h), B.notSynchronized⟩
  have hD := hD0.self (sz := s.heap.size)
  generalize hAe : va_A (vX11_sets cI cZ h h_all h_has h_line h_act h_pile h_comes h_leaves h_tried h_met f_size f_next f_where f_token f_number f_sign f_word f_wrong f_open f_lines f_acts r_all) s.heap.size = A at hD ⊢
  have hA : ∀ q : Nat, s.heap.size ≤ q → A q := fun q h => by rw [← hAe]; exact Or.inr h
  have hl := lv_entry ([.ref h, .int x1, .int x2, .int x3, .int x4]) (n := 5) (Nat.le_of_ble_eq_true rfl)
  rw [lg_entry_eq]
  generalize (lg_sl ([.ref h, .int x1, .int x2, .int x3, .int x4]) ++ List.replicate (5 - (lg_sl ([.ref h, .int x1, .int x2, .int x3, .int x4])).length) Slot.unset).toArray = ls at hl ⊢
  exact tX11_sets_e hC hK hA x1 x2 x3 x4 r_all _ _ ls hw hP hD va_S.rf hl

/-! X11_isSea -/
def wX11_isSea (Q : Int32 → Prop) (x1 : Int32) (x2 : Int32) (r_all : Nat → Int32) : Prop :=
  (wX11_isCell (fun r_1 => ((r_1 = 0 → (Q (0 : Int32))) ∧ (¬ r_1 = 0 → (wX11_of (fun r_3 => ((¬ r_3 = (1 : Int32) → (Q (0 : Int32))) ∧ (r_3 = (1 : Int32) → (Q (1 : Int32))))) x1 x2 (0 : Int32) r_all)))) x1 x2 r_all)
abbrev vX11_isSea (cI cZ : ClassId) (h h_all h_has h_line h_act h_pile h_comes h_leaves h_tried h_met : Nat) (f_size : Int32) (f_next : Int32) (f_where : Int32) (f_token : Int32) (f_number : Int32) (f_sign : Int32) (f_word : Int32) (f_wrong : Int32) (f_open : Int32) (f_lines : Int32) (f_acts : Int32) (r_all : Nat → Int32) : va_W := [(h, .inr (10, [.ref h_all, .ref h_has, .int f_size, .int f_next, .int f_where, .int f_token, .int f_number, .int f_sign, .int f_word, .int f_wrong, .int f_open, .int f_lines, .int f_acts, .ref h_line, .ref h_act, .ref h_pile, .ref h_comes, .ref h_leaves, .ref h_tried, .ref h_met])), (h_all, .inl (cI, 53700, .inl r_all))]
abbrev rmX11_isSea : Room := { frames := 2, cells := 0, slots := 0, locals := 44 }
abbrev qX11_isSea (dC : Nat → ClassId) (dI : Nat → Nat → Nat) (cI cZ cO cW : ClassId) (h h_all h_has h_line h_act h_pile h_comes h_leaves h_tried h_met : Nat) (f_size : Int32) (f_next : Int32) (f_where : Int32) (f_token : Int32) (f_number : Int32) (f_sign : Int32) (f_word : Int32) (f_wrong : Int32) (f_open : Int32) (f_lines : Int32) (f_acts : Int32) (r_all : Nat → Int32) (Q : Int32 → Prop) (A : Nat → Prop) : Array Value → State → Outcome → State → Prop := va_Qi (fun (r : Int32) (u : Unit) => Q r) (fun (u : Unit) (t : State) => va_P (dC, dI) vwCl (vX11_isSea cI cZ h h_all h_has h_line h_act h_pile h_comes h_leaves h_tried h_met f_size f_next f_where f_token f_number f_sign f_word f_wrong f_open f_lines f_acts r_all) t.heap ∧ va_K (dC, dI) vwCl (tysA cI cZ cO cW) t ∧ va_D A (vX11_isSea cI cZ h h_all h_has h_line h_act h_pile h_comes h_leaves h_tried h_met f_size f_next f_where f_token f_number f_sign f_word f_wrong f_open f_lines f_acts r_all)) A
def zsX11_isSea : List Cond := Cond.code yX11_isSea cX11_isSea 3 (some .boolean) :: GW
set_option maxHeartbeats 4000000 in
set_option maxRecDepth 100000 in
theorem tX11_isSea_e {p : Program} {l : Launch} {e : Env} {s : State} {m : MethodId} {args : Array Value} {below : List Frame} {meth : Method} {c : Code} {dC : Nat → ClassId} {dI : Nat → Nat → Nat} {cI cZ cO cW : ClassId} {A : Nat → Prop} {h h_all h_has h_line h_act h_pile h_comes h_leaves h_tried h_met : Nat} {f_size f_next f_where f_token f_number f_sign f_word f_wrong f_open f_lines f_acts : Int32} {Q : Int32 → Prop} (hC : Cx p s m args meth c cX11_isSea (some .boolean) 3 GW RX11) (hK : va_K (dC, dI) vwCl (tysA cI cZ cO cW) s) (hA : ∀ q : Nat, s.heap.size ≤ q → A q) :
    ∀ (x1 : Int32) (x2 : Int32) (r_all : Nat → Int32) (H : Heap) (locs : List Loc) (ls : Array Slot), wX11_isSea Q x1 x2 r_all → va_P (dC, dI) vwCl (vX11_isSea cI cZ h h_all h_has h_line h_act h_pile h_comes h_leaves h_tried h_met f_size f_next f_where f_token f_number f_sign f_word f_wrong f_open f_lines f_acts r_all) H → va_D A (vX11_isSea cI cZ h h_all h_has h_line h_act h_pile h_comes h_leaves h_tried h_met f_size f_next f_where f_token f_number f_sign f_word f_wrong f_open f_lines f_acts r_all) → va_S A s.heap H locs → lv_has ls 3 [(0, .ref h), (1, .int x1), (2, .int x2)] → W p l e rmX11_isSea s m args below meth c H locs 0 0 (MQ below (qX11_isSea dC dI cI cZ cO cW h h_all h_has h_line h_act h_pile h_comes h_leaves h_tried h_met f_size f_next f_where f_token f_number f_sign f_word f_wrong f_open f_lines f_acts r_all Q A) args s 0 0 A) (F0 m 0 ls []) := by
  obtain ⟨hx, hb, hr, hml, hown, hts, hlocks⟩ := id hC
  intro x1 x2 r_all H locs ls hw hP hD hS hl
  refine lv_aload_n hx hb dX11_isSea_0 rfl (lv_at hl 0 rfl) ?_
  refine lv_iload_n hx hb dX11_isSea_1 rfl (lv_at hl 1 rfl) ?_
  refine lv_iload_n hx hb dX11_isSea_2 rfl (lv_at hl 2 rfl) ?_
  have hPc := hP.sub (ws' := [(h, .inr (10, [.ref h_all, .ref h_has, .int f_size, .int f_next, .int f_where, .int f_token, .int f_number, .int f_sign, .int f_word, .int f_wrong, .int f_open, .int f_lines, .int f_acts, .ref h_line, .ref h_act, .ref h_pile, .ref h_comes, .ref h_leaves, .ref h_tried, .ref h_met])), (h_all, .inl (cI, 53700, .inl r_all))]) [0, 1] rfl
  have hDc := hD.sub (ws' := [(h, .inr (10, [.ref h_all, .ref h_has, .int f_size, .int f_next, .int f_where, .int f_token, .int f_number, .int f_sign, .int f_word, .int f_wrong, .int f_open, .int f_lines, .int f_acts, .ref h_line, .ref h_act, .ref h_pile, .ref h_comes, .ref h_leaves, .ref h_tried, .ref h_met])), (h_all, .inl (cI, 53700, .inl r_all))]) [0, 1] (by decide) rfl
  have hFc := va_free (wc := [(h, .inr (10, [.ref h_all, .ref h_has, .int f_size, .int f_next, .int f_where, .int f_token, .int f_number, .int f_sign, .int f_word, .int f_wrong, .int f_open, .int f_lines, .int f_acts, .ref h_line, .ref h_act, .ref h_pile, .ref h_comes, .ref h_leaves, .ref h_tried, .ref h_met])), (h_all, .inl (cI, 53700, .inl r_all))]) hD hS hA [0, 1] rfl
  refine va_calli (va_runV (As := [.int x1, .int x2]) (rest := []) ⟨hx, hb, hml, hown, hts⟩ (kX11_isCell l dC dI cI cZ cO cW h h_all h_has h_line h_act h_pile h_comes h_leaves h_tried h_met H.size f_size f_next f_where f_token f_number f_sign f_word f_wrong f_open f_lines f_acts r_all x1 x2 _ hw) (cwV 2 hts (gV gw_631 gw_632 gw_633 gw_622 (gM gw_627)) rfl rfl rfl (by decide +kernel) ⟨Nat.le_of_ble_eq_true rfl, Nat.le_of_ble_eq_true rfl⟩) (pv_of hPc hK hDc (va_recv hK hPc (ci := 10) (q0 := 0) rfl rfl)) rfl rfl hl.1 rfl (lv_room (Nat.le_of_ble_eq_true rfl)) dX11_isSea_3 ⟨Nat.zero_le _, Nat.zero_le _⟩) hS (fun q _ h => hFc q h) hFc (fun r_1 u t H locs ht hvm hw hB hz1 hk1 hS => ?_)
  obtain ⟨hP, hD⟩ := af_join (wr := []) (w1 := [(h, .inr (10, [.ref h_all, .ref h_has, .int f_size, .int f_next, .int f_where, .int f_token, .int f_number, .int f_sign, .int f_word, .int f_wrong, .int f_open, .int f_lines, .int f_acts, .ref h_line, .ref h_act, .ref h_pile, .ref h_comes, .ref h_leaves, .ref h_tried, .ref h_met])), (h_all, .inl (cI, 53700, .inl r_all))]) hB ht hP hD [0, 1] [] rfl rfl (by decide) (by decide) hk1 hFc
  have hP : va_P (dC, dI) vwCl [(h, .inr (10, [.ref h_all, .ref h_has, .int f_size, .int f_next, .int f_where, .int f_token, .int f_number, .int f_sign, .int f_word, .int f_wrong, .int f_open, .int f_lines, .int f_acts, .ref h_line, .ref h_act, .ref h_pile, .ref h_comes, .ref h_leaves, .ref h_tried, .ref h_met])), (h_all, .inl (cI, 53700, .inl r_all))] _ := hP
  have hD : va_D A [(h, .inr (10, [.ref h_all, .ref h_has, .int f_size, .int f_next, .int f_where, .int f_token, .int f_number, .int f_sign, .int f_word, .int f_wrong, .int f_open, .int f_lines, .int f_acts, .ref h_line, .ref h_act, .ref h_pile, .ref h_comes, .ref h_leaves, .ref h_tried, .ref h_met])), (h_all, .inl (cI, 53700, .inl r_all))] := hD
  refine lv_if_eq (tgt := 24) hx hb dX11_isSea_6 (by decide) (fun c_2 => ?_) (fun c_2 => ?_)
  · have hw := hw.1 c_2
    refine lv_iconst (v := (0 : Int32)) hx hb dX11_isSea_24 (by decide) ?_
    have hP9 := hP.sub (ws' := (vX11_isSea cI cZ h h_all h_has h_line h_act h_pile h_comes h_leaves h_tried h_met f_size f_next f_where f_token f_number f_sign f_word f_wrong f_open f_lines f_acts r_all)) [0, 1] rfl
    have hD9 := hD.sub (ws' := (vX11_isSea cI cZ h h_all h_has h_line h_act h_pile h_comes h_leaves h_tried h_met f_size f_next f_where f_token f_number f_sign f_word f_wrong f_open f_lines f_acts r_all)) [0, 1] (by decide) rfl
    exact W.zret (v := (0 : Int32)) (ty := .boolean) hx hb hr rfl (fun t ht hW => ⟨⟨(0 : Int32), (), rfl, hw, by rw [ht]; exact hP9, va_K.moved hW.alike hK, hD9⟩, hS.F ht⟩) hS.2.2 dX11_isSea_25
  · have hw := hw.2 c_2
    refine lv_aload_n hx hb dX11_isSea_9 rfl (lv_at hl 0 rfl) ?_
    refine lv_iload_n hx hb dX11_isSea_10 rfl (lv_at hl 1 rfl) ?_
    refine lv_iload_n hx hb dX11_isSea_11 rfl (lv_at hl 2 rfl) ?_
    refine lv_iconst (v := (0 : Int32)) hx hb dX11_isSea_12 (by decide) ?_
    have hPc := hP.sub (ws' := [(h, .inr (10, [.ref h_all, .ref h_has, .int f_size, .int f_next, .int f_where, .int f_token, .int f_number, .int f_sign, .int f_word, .int f_wrong, .int f_open, .int f_lines, .int f_acts, .ref h_line, .ref h_act, .ref h_pile, .ref h_comes, .ref h_leaves, .ref h_tried, .ref h_met])), (h_all, .inl (cI, 53700, .inl r_all))]) [0, 1] rfl
    have hDc := hD.sub (ws' := [(h, .inr (10, [.ref h_all, .ref h_has, .int f_size, .int f_next, .int f_where, .int f_token, .int f_number, .int f_sign, .int f_word, .int f_wrong, .int f_open, .int f_lines, .int f_acts, .ref h_line, .ref h_act, .ref h_pile, .ref h_comes, .ref h_leaves, .ref h_tried, .ref h_met])), (h_all, .inl (cI, 53700, .inl r_all))]) [0, 1] (by decide) rfl
    have hFc := va_free (wc := [(h, .inr (10, [.ref h_all, .ref h_has, .int f_size, .int f_next, .int f_where, .int f_token, .int f_number, .int f_sign, .int f_word, .int f_wrong, .int f_open, .int f_lines, .int f_acts, .ref h_line, .ref h_act, .ref h_pile, .ref h_comes, .ref h_leaves, .ref h_tried, .ref h_met])), (h_all, .inl (cI, 53700, .inl r_all))]) hD hS hA [0, 1] rfl
    refine va_calli (va_runV (As := [.int x1, .int x2, .int (0 : Int32)]) (rest := []) ⟨hx, hb, hml, hown, hts⟩ (kX11_of l dC dI cI cZ cO cW h h_all h_has h_line h_act h_pile h_comes h_leaves h_tried h_met H.size f_size f_next f_where f_token f_number f_sign f_word f_wrong f_open f_lines f_acts r_all x1 x2 (0 : Int32) _ hw) (cwV 3 hts (gV gw_634 gw_635 gw_636 gw_622 (gM gw_628)) rfl rfl rfl (by decide +kernel) ⟨Nat.le_of_ble_eq_true rfl, Nat.le_of_ble_eq_true rfl⟩) (pv_of hPc hK hDc (va_recv hK hPc (ci := 10) (q0 := 0) rfl rfl)) rfl rfl hl.1 rfl (lv_room (Nat.le_of_ble_eq_true rfl)) dX11_isSea_13 ⟨Nat.zero_le _, Nat.zero_le _⟩) hS (fun q _ h => hFc q h) hFc (fun r_3 u t H locs ht hvm hw hB hz1 hk1 hS => ?_)
    obtain ⟨hP, hD⟩ := af_join (wr := []) (w1 := [(h, .inr (10, [.ref h_all, .ref h_has, .int f_size, .int f_next, .int f_where, .int f_token, .int f_number, .int f_sign, .int f_word, .int f_wrong, .int f_open, .int f_lines, .int f_acts, .ref h_line, .ref h_act, .ref h_pile, .ref h_comes, .ref h_leaves, .ref h_tried, .ref h_met])), (h_all, .inl (cI, 53700, .inl r_all))]) hB ht hP hD [0, 1] [] rfl rfl (by decide) (by decide) hk1 hFc
    have hP : va_P (dC, dI) vwCl [(h, .inr (10, [.ref h_all, .ref h_has, .int f_size, .int f_next, .int f_where, .int f_token, .int f_number, .int f_sign, .int f_word, .int f_wrong, .int f_open, .int f_lines, .int f_acts, .ref h_line, .ref h_act, .ref h_pile, .ref h_comes, .ref h_leaves, .ref h_tried, .ref h_met])), (h_all, .inl (cI, 53700, .inl r_all))] _ := hP
    have hD : va_D A [(h, .inr (10, [.ref h_all, .ref h_has, .int f_size, .int f_next, .int f_where, .int f_token, .int f_number, .int f_sign, .int f_word, .int f_wrong, .int f_open, .int f_lines, .int f_acts, .ref h_line, .ref h_act, .ref h_pile, .ref h_comes, .ref h_leaves, .ref h_tried, .ref h_met])), (h_all, .inl (cI, 53700, .inl r_all))] := hD
    refine lv_iconst (v := (1 : Int32)) hx hb dX11_isSea_16 (by decide) ?_
    refine lv_icmp_ne (tgt := 24) hx hb dX11_isSea_17 (by decide) (fun c_4 => ?_) (fun c_4 => ?_)
    · have hw := hw.1 c_4
      refine lv_iconst (v := (0 : Int32)) hx hb dX11_isSea_24 (by decide) ?_
      have hP9 := hP.sub (ws' := (vX11_isSea cI cZ h h_all h_has h_line h_act h_pile h_comes h_leaves h_tried h_met f_size f_next f_where f_token f_number f_sign f_word f_wrong f_open f_lines f_acts r_all)) [0, 1] rfl
      have hD9 := hD.sub (ws' := (vX11_isSea cI cZ h h_all h_has h_line h_act h_pile h_comes h_leaves h_tried h_met f_size f_next f_where f_token f_number f_sign f_word f_wrong f_open f_lines f_acts r_all)) [0, 1] (by decide) rfl
      exact W.zret (v := (0 : Int32)) (ty := .boolean) hx hb hr rfl (fun t ht hW => ⟨⟨(0 : Int32), (), rfl, hw, by rw [ht]; exact hP9, va_K.moved hW.alike hK, hD9⟩, hS.F ht⟩) hS.2.2 dX11_isSea_25
    · have hw := hw.2 c_4
      refine lv_iconst (v := (1 : Int32)) hx hb dX11_isSea_20 (by decide) ?_
      refine lv_goto (tgt := 25) hx hb dX11_isSea_21 (by decide) ?_
      have hP9 := hP.sub (ws' := (vX11_isSea cI cZ h h_all h_has h_line h_act h_pile h_comes h_leaves h_tried h_met f_size f_next f_where f_token f_number f_sign f_word f_wrong f_open f_lines f_acts r_all)) [0, 1] rfl
      have hD9 := hD.sub (ws' := (vX11_isSea cI cZ h h_all h_has h_line h_act h_pile h_comes h_leaves h_tried h_met f_size f_next f_where f_token f_number f_sign f_word f_wrong f_open f_lines f_acts r_all)) [0, 1] (by decide) rfl
      exact W.zret (v := (1 : Int32)) (ty := .boolean) hx hb hr rfl (fun t ht hW => ⟨⟨(1 : Int32), (), rfl, hw, by rw [ht]; exact hP9, va_K.moved hW.alike hK, hD9⟩, hS.F ht⟩) hS.2.2 dX11_isSea_25
set_option maxHeartbeats 4000000 in
set_option maxRecDepth 100000 in
theorem kX11_isSea (l : Launch) (dC : Nat → ClassId) (dI : Nat → Nat → Nat) (cI cZ cO cW : ClassId) (h h_all h_has h_line h_act h_pile h_comes h_leaves h_tried h_met : Nat)  (sz : Nat) (f_size : Int32) (f_next : Int32) (f_where : Int32) (f_token : Int32) (f_number : Int32) (f_sign : Int32) (f_word : Int32) (f_wrong : Int32) (f_open : Int32) (f_lines : Int32) (f_acts : Int32) (r_all : Nat → Int32) (x1 : Int32) (x2 : Int32) (Q : Int32 → Prop) (hw : wX11_isSea Q x1 x2 r_all) : Met l yX11_isSea zsX11_isSea rmX11_isSea (va_Pc [.ref h, .int x1, .int x2] (fun U => U.heap.size = sz ∧ va_P (dC, dI) vwCl (vX11_isSea cI cZ h h_all h_has h_line h_act h_pile h_comes h_leaves h_tried h_met f_size f_next f_where f_token f_number f_sign f_word f_wrong f_open f_lines f_acts r_all) U.heap ∧ va_K (dC, dI) vwCl (tysA cI cZ cO cW) U ∧ va_D (fun _ => True) (vX11_isSea cI cZ h h_all h_has h_line h_act h_pile h_comes h_leaves h_tried h_met f_size f_next f_where f_token f_number f_sign f_word f_wrong f_open f_lines f_acts r_all))) (qX11_isSea dC dI cI cZ cO cW h h_all h_has h_line h_act h_pile h_comes h_leaves h_tried h_met f_size f_next f_where f_token f_number f_sign f_word f_wrong f_open f_lines f_acts r_all Q (va_A (vX11_isSea cI cZ h h_all h_has h_line h_act h_pile h_comes h_leaves h_tried h_met f_size f_next f_where f_token f_number f_sign f_word f_wrong f_open f_lines f_acts r_all) sz)) 0 0 (va_A (vX11_isSea cI cZ h h_all h_has h_line h_act h_pile h_comes h_leaves h_tried h_met f_size f_next f_where f_token f_number f_sign f_word f_wrong f_open f_lines f_acts r_all) sz) := by
  refine Met.ofW (cc := cX11_isSea) (maxL := 3) (ret := (some .boolean)) (by decide) rfl ?_
  intro p e s m args below meth c s₁ B hml hv
  obtain ⟨rfl, hsz, hP, hK, hD0⟩ := hv
  subst hsz
  have hC : Cx p s m ([.ref h, .int x1, .int x2] : List Value).toArray meth c cX11_isSea (some .boolean) 3 GW RX11 := ⟨B.exec, B.bytes, B.returns, hml, findClass_of_methodNamed B.named, fun w h => atoms_spec (ws := zsX11_isSea) B.pre w (List.mem_cons_of_mem _ h), B.notSynchronized⟩
  have hD := hD0.self (sz := s.heap.size)
  generalize hAe : va_A (vX11_isSea cI cZ h h_all h_has h_line h_act h_pile h_comes h_leaves h_tried h_met f_size f_next f_where f_token f_number f_sign f_word f_wrong f_open f_lines f_acts r_all) s.heap.size = A at hD ⊢
  have hA : ∀ q : Nat, s.heap.size ≤ q → A q := fun q h => by rw [← hAe]; exact Or.inr h
  have hl := lv_entry ([.ref h, .int x1, .int x2]) (n := 3) (Nat.le_of_ble_eq_true rfl)
  rw [lg_entry_eq]
  generalize (lg_sl ([.ref h, .int x1, .int x2]) ++ List.replicate (3 - (lg_sl ([.ref h, .int x1, .int x2])).length) Slot.unset).toArray = ls at hl ⊢
  exact tX11_isSea_e hC hK hA x1 x2 r_all _ _ ls hw hP hD va_S.rf hl

/-! X11_its -/
def wX11_its (Q : Int32 → Prop) (x1 : Int32) (x2 : Int32) (r_all : Nat → Int32) : Prop :=
  (vp_in (((360 : Int32) + ((12 : Int32) * x1)) + x2) 53700 ∧ (Q (r_all (((360 : Int32) + ((12 : Int32) * x1)) + x2).toNatClampNeg)))
abbrev vX11_its (cI cZ : ClassId) (h h_all h_has h_line h_act h_pile h_comes h_leaves h_tried h_met : Nat) (f_size : Int32) (f_next : Int32) (f_where : Int32) (f_token : Int32) (f_number : Int32) (f_sign : Int32) (f_word : Int32) (f_wrong : Int32) (f_open : Int32) (f_lines : Int32) (f_acts : Int32) (r_all : Nat → Int32) : va_W := [(h, .inr (10, [.ref h_all, .ref h_has, .int f_size, .int f_next, .int f_where, .int f_token, .int f_number, .int f_sign, .int f_word, .int f_wrong, .int f_open, .int f_lines, .int f_acts, .ref h_line, .ref h_act, .ref h_pile, .ref h_comes, .ref h_leaves, .ref h_tried, .ref h_met])), (h_all, .inl (cI, 53700, .inl r_all))]
abbrev rmX11_its : Room := { frames := 0, cells := 0, slots := 0, locals := 0 }
abbrev qX11_its (dC : Nat → ClassId) (dI : Nat → Nat → Nat) (cI cZ cO cW : ClassId) (h h_all h_has h_line h_act h_pile h_comes h_leaves h_tried h_met : Nat) (f_size : Int32) (f_next : Int32) (f_where : Int32) (f_token : Int32) (f_number : Int32) (f_sign : Int32) (f_word : Int32) (f_wrong : Int32) (f_open : Int32) (f_lines : Int32) (f_acts : Int32) (r_all : Nat → Int32) (Q : Int32 → Prop) (A : Nat → Prop) : Array Value → State → Outcome → State → Prop := va_Qi (fun (r : Int32) (u : Unit) => Q r) (fun (u : Unit) (t : State) => va_P (dC, dI) vwCl (vX11_its cI cZ h h_all h_has h_line h_act h_pile h_comes h_leaves h_tried h_met f_size f_next f_where f_token f_number f_sign f_word f_wrong f_open f_lines f_acts r_all) t.heap ∧ va_K (dC, dI) vwCl (tysA cI cZ cO cW) t ∧ va_D A (vX11_its cI cZ h h_all h_has h_line h_act h_pile h_comes h_leaves h_tried h_met f_size f_next f_where f_token f_number f_sign f_word f_wrong f_open f_lines f_acts r_all)) A
def zsX11_its : List Cond := Cond.code yX11_its cX11_its 3 (some .int) :: GW
set_option maxHeartbeats 4000000 in
set_option maxRecDepth 100000 in
theorem tX11_its_e {p : Program} {l : Launch} {e : Env} {s : State} {m : MethodId} {args : Array Value} {below : List Frame} {meth : Method} {c : Code} {dC : Nat → ClassId} {dI : Nat → Nat → Nat} {cI cZ cO cW : ClassId} {A : Nat → Prop} {h h_all h_has h_line h_act h_pile h_comes h_leaves h_tried h_met : Nat} {f_size f_next f_where f_token f_number f_sign f_word f_wrong f_open f_lines f_acts : Int32} {Q : Int32 → Prop} (hC : Cx p s m args meth c cX11_its (some .int) 3 GW RX11) (hK : va_K (dC, dI) vwCl (tysA cI cZ cO cW) s) (hA : ∀ q : Nat, s.heap.size ≤ q → A q) :
    ∀ (x1 : Int32) (x2 : Int32) (r_all : Nat → Int32) (H : Heap) (locs : List Loc) (ls : Array Slot), wX11_its Q x1 x2 r_all → va_P (dC, dI) vwCl (vX11_its cI cZ h h_all h_has h_line h_act h_pile h_comes h_leaves h_tried h_met f_size f_next f_where f_token f_number f_sign f_word f_wrong f_open f_lines f_acts r_all) H → va_D A (vX11_its cI cZ h h_all h_has h_line h_act h_pile h_comes h_leaves h_tried h_met f_size f_next f_where f_token f_number f_sign f_word f_wrong f_open f_lines f_acts r_all) → va_S A s.heap H locs → lv_has ls 3 [(0, .ref h), (1, .int x1), (2, .int x2)] → W p l e rmX11_its s m args below meth c H locs 0 0 (MQ below (qX11_its dC dI cI cZ cO cW h h_all h_has h_line h_act h_pile h_comes h_leaves h_tried h_met f_size f_next f_where f_token f_number f_sign f_word f_wrong f_open f_lines f_acts r_all Q A) args s 0 0 A) (F0 m 0 ls []) := by
  obtain ⟨hx, hb, hr, hml, hown, hts, hlocks⟩ := id hC
  intro x1 x2 r_all H locs ls hw hP hD hS hl
  refine lv_aload_n hx hb dX11_its_0 rfl (lv_at hl 0 rfl) ?_
  refine va_get (D := (dC, dI)) (ci := 10) (v := .ref h_all) (C := RX11) (T := TX11) (N := 20) hx hb hts gu_X11 hown hK hP 0 rfl rfl 0 (by decide) (hts _ gw_607) (fun _ h9 => h9) rfl dX11_its_1 ?_
  refine lv_sipush (v := (360 : Int32)) hx hb dX11_its_4 (by decide) ?_
  refine lv_bipush (v := (12 : Int32)) hx hb dX11_its_7 (by decide) ?_
  refine lv_iload_n hx hb dX11_its_9 rfl (lv_at hl 1 rfl) ?_
  refine lv_imul hx hb dX11_its_10 ?_
  refine lv_iadd hx hb dX11_its_11 ?_
  refine lv_iload_n hx hb dX11_its_12 rfl (lv_at hl 2 rfl) ?_
  refine lv_iadd hx hb dX11_its_13 ?_
  obtain ⟨h_1, hw⟩ := hw
  refine va_iald hx hb hK hP 1 0 rfl rfl h_1 dX11_its_14 ?_
  have hP9 := hP.sub (ws' := (vX11_its cI cZ h h_all h_has h_line h_act h_pile h_comes h_leaves h_tried h_met f_size f_next f_where f_token f_number f_sign f_word f_wrong f_open f_lines f_acts r_all)) [0, 1] rfl
  have hD9 := hD.sub (ws' := (vX11_its cI cZ h h_all h_has h_line h_act h_pile h_comes h_leaves h_tried h_met f_size f_next f_where f_token f_number f_sign f_word f_wrong f_open f_lines f_acts r_all)) [0, 1] (by decide) rfl
  exact W.iret (v := (r_all (((360 : Int32) + ((12 : Int32) * x1)) + x2).toNatClampNeg)) hx hb hr (fun t ht hW => ⟨⟨(r_all (((360 : Int32) + ((12 : Int32) * x1)) + x2).toNatClampNeg), (), rfl, hw, by rw [ht]; exact hP9, va_K.moved hW.alike hK, hD9⟩, hS.F ht⟩) hS.2.2 dX11_its_15
set_option maxHeartbeats 4000000 in
set_option maxRecDepth 100000 in
theorem kX11_its (l : Launch) (dC : Nat → ClassId) (dI : Nat → Nat → Nat) (cI cZ cO cW : ClassId) (h h_all h_has h_line h_act h_pile h_comes h_leaves h_tried h_met : Nat)  (sz : Nat) (f_size : Int32) (f_next : Int32) (f_where : Int32) (f_token : Int32) (f_number : Int32) (f_sign : Int32) (f_word : Int32) (f_wrong : Int32) (f_open : Int32) (f_lines : Int32) (f_acts : Int32) (r_all : Nat → Int32) (x1 : Int32) (x2 : Int32) (Q : Int32 → Prop) (hw : wX11_its Q x1 x2 r_all) : Met l yX11_its zsX11_its rmX11_its (va_Pc [.ref h, .int x1, .int x2] (fun U => U.heap.size = sz ∧ va_P (dC, dI) vwCl (vX11_its cI cZ h h_all h_has h_line h_act h_pile h_comes h_leaves h_tried h_met f_size f_next f_where f_token f_number f_sign f_word f_wrong f_open f_lines f_acts r_all) U.heap ∧ va_K (dC, dI) vwCl (tysA cI cZ cO cW) U ∧ va_D (fun _ => True) (vX11_its cI cZ h h_all h_has h_line h_act h_pile h_comes h_leaves h_tried h_met f_size f_next f_where f_token f_number f_sign f_word f_wrong f_open f_lines f_acts r_all))) (qX11_its dC dI cI cZ cO cW h h_all h_has h_line h_act h_pile h_comes h_leaves h_tried h_met f_size f_next f_where f_token f_number f_sign f_word f_wrong f_open f_lines f_acts r_all Q (va_A (vX11_its cI cZ h h_all h_has h_line h_act h_pile h_comes h_leaves h_tried h_met f_size f_next f_where f_token f_number f_sign f_word f_wrong f_open f_lines f_acts r_all) sz)) 0 0 (va_A (vX11_its cI cZ h h_all h_has h_line h_act h_pile h_comes h_leaves h_tried h_met f_size f_next f_where f_token f_number f_sign f_word f_wrong f_open f_lines f_acts r_all) sz) := by
  refine Met.ofW (cc := cX11_its) (maxL := 3) (ret := (some .int)) (by decide) rfl ?_
  intro p e s m args below meth c s₁ B hml hv
  obtain ⟨rfl, hsz, hP, hK, hD0⟩ := hv
  subst hsz
  have hC : Cx p s m ([.ref h, .int x1, .int x2] : List Value).toArray meth c cX11_its (some .int) 3 GW RX11 := ⟨B.exec, B.bytes, B.returns, hml, findClass_of_methodNamed B.named, fun w h => atoms_spec (ws := zsX11_its) B.pre w (List.mem_cons_of_mem _ h), B.notSynchronized⟩
  have hD := hD0.self (sz := s.heap.size)
  generalize hAe : va_A (vX11_its cI cZ h h_all h_has h_line h_act h_pile h_comes h_leaves h_tried h_met f_size f_next f_where f_token f_number f_sign f_word f_wrong f_open f_lines f_acts r_all) s.heap.size = A at hD ⊢
  have hA : ∀ q : Nat, s.heap.size ≤ q → A q := fun q h => by rw [← hAe]; exact Or.inr h
  have hl := lv_entry ([.ref h, .int x1, .int x2]) (n := 3) (Nat.le_of_ble_eq_true rfl)
  rw [lg_entry_eq]
  generalize (lg_sl ([.ref h, .int x1, .int x2]) ++ List.replicate (3 - (lg_sl ([.ref h, .int x1, .int x2])).length) Slot.unset).toArray = ls at hl ⊢
  exact tX11_its_e hC hK hA x1 x2 r_all _ _ ls hw hP hD va_S.rf hl

/-! X11_ships -/
def wX11_ships (Q : (Nat → Int32) → Prop) (x1 : Int32) (x2 : Int32) (x3 : Int32) (r_all : Nat → Int32) : Prop :=
  (vp_in (((360 : Int32) + ((12 : Int32) * x1)) + x2) 53700 ∧ (Q (upd r_all (((360 : Int32) + ((12 : Int32) * x1)) + x2).toNatClampNeg x3)))
abbrev vX11_ships (cI cZ : ClassId) (h h_all h_has h_line h_act h_pile h_comes h_leaves h_tried h_met : Nat) (f_size : Int32) (f_next : Int32) (f_where : Int32) (f_token : Int32) (f_number : Int32) (f_sign : Int32) (f_word : Int32) (f_wrong : Int32) (f_open : Int32) (f_lines : Int32) (f_acts : Int32) (r_all : Nat → Int32) : va_W := [(h, .inr (10, [.ref h_all, .ref h_has, .int f_size, .int f_next, .int f_where, .int f_token, .int f_number, .int f_sign, .int f_word, .int f_wrong, .int f_open, .int f_lines, .int f_acts, .ref h_line, .ref h_act, .ref h_pile, .ref h_comes, .ref h_leaves, .ref h_tried, .ref h_met])), (h_all, .inl (cI, 53700, .inl r_all))]
abbrev rmX11_ships : Room := { frames := 0, cells := 0, slots := 0, locals := 0 }
abbrev qX11_ships (dC : Nat → ClassId) (dI : Nat → Nat → Nat) (cI cZ cO cW : ClassId) (h h_all h_has h_line h_act h_pile h_comes h_leaves h_tried h_met : Nat) (f_size : Int32) (f_next : Int32) (f_where : Int32) (f_token : Int32) (f_number : Int32) (f_sign : Int32) (f_word : Int32) (f_wrong : Int32) (f_open : Int32) (f_lines : Int32) (f_acts : Int32) (Q : (Nat → Int32) → Prop) (A : Nat → Prop) : Array Value → State → Outcome → State → Prop := va_Qv (fun (u : (Nat → Int32)) => Q u) (fun (u : (Nat → Int32)) (t : State) => va_P (dC, dI) vwCl (vX11_ships cI cZ h h_all h_has h_line h_act h_pile h_comes h_leaves h_tried h_met f_size f_next f_where f_token f_number f_sign f_word f_wrong f_open f_lines f_acts u) t.heap ∧ va_K (dC, dI) vwCl (tysA cI cZ cO cW) t ∧ va_D A (vX11_ships cI cZ h h_all h_has h_line h_act h_pile h_comes h_leaves h_tried h_met f_size f_next f_where f_token f_number f_sign f_word f_wrong f_open f_lines f_acts u)) A
def zsX11_ships : List Cond := Cond.code yX11_ships cX11_ships 4 none :: GW
set_option maxHeartbeats 4000000 in
set_option maxRecDepth 100000 in
theorem tX11_ships_e {p : Program} {l : Launch} {e : Env} {s : State} {m : MethodId} {args : Array Value} {below : List Frame} {meth : Method} {c : Code} {dC : Nat → ClassId} {dI : Nat → Nat → Nat} {cI cZ cO cW : ClassId} {A : Nat → Prop} {h h_all h_has h_line h_act h_pile h_comes h_leaves h_tried h_met : Nat} {f_size f_next f_where f_token f_number f_sign f_word f_wrong f_open f_lines f_acts : Int32} {Q : (Nat → Int32) → Prop} (hC : Cx p s m args meth c cX11_ships none 4 GW RX11) (hK : va_K (dC, dI) vwCl (tysA cI cZ cO cW) s) (hA : ∀ q : Nat, s.heap.size ≤ q → A q) :
    ∀ (x1 : Int32) (x2 : Int32) (x3 : Int32) (r_all : Nat → Int32) (H : Heap) (locs : List Loc) (ls : Array Slot), wX11_ships Q x1 x2 x3 r_all → va_P (dC, dI) vwCl (vX11_ships cI cZ h h_all h_has h_line h_act h_pile h_comes h_leaves h_tried h_met f_size f_next f_where f_token f_number f_sign f_word f_wrong f_open f_lines f_acts r_all) H → va_D A (vX11_ships cI cZ h h_all h_has h_line h_act h_pile h_comes h_leaves h_tried h_met f_size f_next f_where f_token f_number f_sign f_word f_wrong f_open f_lines f_acts r_all) → va_S A s.heap H locs → lv_has ls 4 [(0, .ref h), (1, .int x1), (2, .int x2), (3, .int x3)] → W p l e rmX11_ships s m args below meth c H locs 0 0 (MQ below (qX11_ships dC dI cI cZ cO cW h h_all h_has h_line h_act h_pile h_comes h_leaves h_tried h_met f_size f_next f_where f_token f_number f_sign f_word f_wrong f_open f_lines f_acts Q A) args s 0 0 A) (F0 m 0 ls []) := by
  obtain ⟨hx, hb, hr, hml, hown, hts, hlocks⟩ := id hC
  intro x1 x2 x3 r_all H locs ls hw hP hD hS hl
  refine lv_aload_n hx hb dX11_ships_0 rfl (lv_at hl 0 rfl) ?_
  refine va_get (D := (dC, dI)) (ci := 10) (v := .ref h_all) (C := RX11) (T := TX11) (N := 20) hx hb hts gu_X11 hown hK hP 0 rfl rfl 0 (by decide) (hts _ gw_607) (fun _ h9 => h9) rfl dX11_ships_1 ?_
  refine lv_sipush (v := (360 : Int32)) hx hb dX11_ships_4 (by decide) ?_
  refine lv_bipush (v := (12 : Int32)) hx hb dX11_ships_7 (by decide) ?_
  refine lv_iload_n hx hb dX11_ships_9 rfl (lv_at hl 1 rfl) ?_
  refine lv_imul hx hb dX11_ships_10 ?_
  refine lv_iadd hx hb dX11_ships_11 ?_
  refine lv_iload_n hx hb dX11_ships_12 rfl (lv_at hl 2 rfl) ?_
  refine lv_iadd hx hb dX11_ships_13 ?_
  refine lv_iload_n hx hb dX11_ships_14 rfl (lv_at hl 3 rfl) ?_
  obtain ⟨h_1, hw⟩ := hw
  refine va_iast hx hb hK hP hD hS 1 0 rfl rfl h_1 dX11_ships_15 (fun H locs hP hD hS => ?_)
  have hP : va_P (dC, dI) vwCl [(h, .inr (10, [.ref h_all, .ref h_has, .int f_size, .int f_next, .int f_where, .int f_token, .int f_number, .int f_sign, .int f_word, .int f_wrong, .int f_open, .int f_lines, .int f_acts, .ref h_line, .ref h_act, .ref h_pile, .ref h_comes, .ref h_leaves, .ref h_tried, .ref h_met])), (h_all, .inl (cI, 53700, .inl (upd r_all (((360 : Int32) + ((12 : Int32) * x1)) + x2).toNatClampNeg x3)))] _ := hP
  have hD : va_D A [(h, .inr (10, [.ref h_all, .ref h_has, .int f_size, .int f_next, .int f_where, .int f_token, .int f_number, .int f_sign, .int f_word, .int f_wrong, .int f_open, .int f_lines, .int f_acts, .ref h_line, .ref h_act, .ref h_pile, .ref h_comes, .ref h_leaves, .ref h_tried, .ref h_met])), (h_all, .inl (cI, 53700, .inl (upd r_all (((360 : Int32) + ((12 : Int32) * x1)) + x2).toNatClampNeg x3)))] := hD
  have hP9 := hP.sub (ws' := (vX11_ships cI cZ h h_all h_has h_line h_act h_pile h_comes h_leaves h_tried h_met f_size f_next f_where f_token f_number f_sign f_word f_wrong f_open f_lines f_acts (upd r_all (((360 : Int32) + ((12 : Int32) * x1)) + x2).toNatClampNeg x3))) [0, 1] rfl
  have hD9 := hD.sub (ws' := (vX11_ships cI cZ h h_all h_has h_line h_act h_pile h_comes h_leaves h_tried h_met f_size f_next f_where f_token f_number f_sign f_word f_wrong f_open f_lines f_acts (upd r_all (((360 : Int32) + ((12 : Int32) * x1)) + x2).toNatClampNeg x3))) [0, 1] (by decide) rfl
  exact W.vret hx hb hr (fun t ht hW => ⟨⟨(upd r_all (((360 : Int32) + ((12 : Int32) * x1)) + x2).toNatClampNeg x3), rfl, hw, by rw [ht]; exact hP9, va_K.moved hW.alike hK, hD9⟩, hS.F ht⟩) hS.2.2 dX11_ships_16
set_option maxHeartbeats 4000000 in
set_option maxRecDepth 100000 in
theorem kX11_ships (l : Launch) (dC : Nat → ClassId) (dI : Nat → Nat → Nat) (cI cZ cO cW : ClassId) (h h_all h_has h_line h_act h_pile h_comes h_leaves h_tried h_met : Nat)  (sz : Nat) (f_size : Int32) (f_next : Int32) (f_where : Int32) (f_token : Int32) (f_number : Int32) (f_sign : Int32) (f_word : Int32) (f_wrong : Int32) (f_open : Int32) (f_lines : Int32) (f_acts : Int32) (r_all : Nat → Int32) (x1 : Int32) (x2 : Int32) (x3 : Int32) (Q : (Nat → Int32) → Prop) (hw : wX11_ships Q x1 x2 x3 r_all) : Met l yX11_ships zsX11_ships rmX11_ships (va_Pc [.ref h, .int x1, .int x2, .int x3] (fun U => U.heap.size = sz ∧ va_P (dC, dI) vwCl (vX11_ships cI cZ h h_all h_has h_line h_act h_pile h_comes h_leaves h_tried h_met f_size f_next f_where f_token f_number f_sign f_word f_wrong f_open f_lines f_acts r_all) U.heap ∧ va_K (dC, dI) vwCl (tysA cI cZ cO cW) U ∧ va_D (fun _ => True) (vX11_ships cI cZ h h_all h_has h_line h_act h_pile h_comes h_leaves h_tried h_met f_size f_next f_where f_token f_number f_sign f_word f_wrong f_open f_lines f_acts r_all))) (qX11_ships dC dI cI cZ cO cW h h_all h_has h_line h_act h_pile h_comes h_leaves h_tried h_met f_size f_next f_where f_token f_number f_sign f_word f_wrong f_open f_lines f_acts Q (va_A (vX11_ships cI cZ h h_all h_has h_line h_act h_pile h_comes h_leaves h_tried h_met f_size f_next f_where f_token f_number f_sign f_word f_wrong f_open f_lines f_acts r_all) sz)) 0 0 (va_A (vX11_ships cI cZ h h_all h_has h_line h_act h_pile h_comes h_leaves h_tried h_met f_size f_next f_where f_token f_number f_sign f_word f_wrong f_open f_lines f_acts r_all) sz) := by
  refine Met.ofW (cc := cX11_ships) (maxL := 4) (ret := none) (by decide) rfl ?_
  intro p e s m args below meth c s₁ B hml hv
  obtain ⟨rfl, hsz, hP, hK, hD0⟩ := hv
  subst hsz
  have hC : Cx p s m ([.ref h, .int x1, .int x2, .int x3] : List Value).toArray meth c cX11_ships none 4 GW RX11 := ⟨B.exec, B.bytes, B.returns, hml, findClass_of_methodNamed B.named, fun w h => atoms_spec (ws := zsX11_ships) B.pre w (List.mem_cons_of_mem _ h), B.notSynchronized⟩
  have hD := hD0.self (sz := s.heap.size)
  generalize hAe : va_A (vX11_ships cI cZ h h_all h_has h_line h_act h_pile h_comes h_leaves h_tried h_met f_size f_next f_where f_token f_number f_sign f_word f_wrong f_open f_lines f_acts r_all) s.heap.size = A at hD ⊢
  have hA : ∀ q : Nat, s.heap.size ≤ q → A q := fun q h => by rw [← hAe]; exact Or.inr h
  have hl := lv_entry ([.ref h, .int x1, .int x2, .int x3]) (n := 4) (Nat.le_of_ble_eq_true rfl)
  rw [lg_entry_eq]
  generalize (lg_sl ([.ref h, .int x1, .int x2, .int x3]) ++ List.replicate (4 - (lg_sl ([.ref h, .int x1, .int x2, .int x3])).length) Slot.unset).toArray = ls at hl ⊢
  exact tX11_ships_e hC hK hA x1 x2 x3 r_all _ _ ls hw hP hD va_S.rf hl

/-! X11_shipAt -/
def wX11_shipAt_34 (Q : Int32 → Prop) (K_2 : Int32 → Int32 → Int32 → (Nat → Int32) → Prop)  (x1 : Int32) (x2 : Int32) (x3 : Int32) (r_all : (Nat → Int32)) : Prop :=
  (K_2 x1 x2 (x3 + (1 : Int32)) r_all)
def wX11_shipAt_2 (Q : Int32 → Prop)   : Nat → Int32 → Int32 → Int32 → (Nat → Int32) → Prop
  | 0, _, _, _, _ => False
  | n + 1, x1, x2, x3, r_all => (vp_in (2 : Int32) 53700 ∧ (((r_all (2 : Int32).toNatClampNeg) ≤ x3 → (Q (-1 : Int32))) ∧ (¬ (r_all (2 : Int32).toNatClampNeg) ≤ x3 → (wX11_its (fun r_3 => ((¬ r_3 = x1 → (wX11_shipAt_34 Q (wX11_shipAt_2 Q n) x1 x2 x3 r_all)) ∧ (r_3 = x1 → (wX11_its (fun r_5 => ((¬ r_5 = x2 → (wX11_shipAt_34 Q (wX11_shipAt_2 Q n) x1 x2 x3 r_all)) ∧ (r_5 = x2 → (Q x3)))) x3 (3 : Int32) r_all)))) x3 (2 : Int32) r_all))))
def wX11_shipAt (Q : Int32 → Prop) (x1 : Int32) (x2 : Int32) (r_all : Nat → Int32) : Prop :=
  (∃ j_, wX11_shipAt_2 Q j_ x1 x2 (0 : Int32) r_all)
abbrev vX11_shipAt (cI cZ : ClassId) (h h_all h_has h_line h_act h_pile h_comes h_leaves h_tried h_met : Nat) (f_size : Int32) (f_next : Int32) (f_where : Int32) (f_token : Int32) (f_number : Int32) (f_sign : Int32) (f_word : Int32) (f_wrong : Int32) (f_open : Int32) (f_lines : Int32) (f_acts : Int32) (r_all : Nat → Int32) : va_W := [(h, .inr (10, [.ref h_all, .ref h_has, .int f_size, .int f_next, .int f_where, .int f_token, .int f_number, .int f_sign, .int f_word, .int f_wrong, .int f_open, .int f_lines, .int f_acts, .ref h_line, .ref h_act, .ref h_pile, .ref h_comes, .ref h_leaves, .ref h_tried, .ref h_met])), (h_all, .inl (cI, 53700, .inl r_all))]
abbrev rmX11_shipAt : Room := { frames := 1, cells := 0, slots := 0, locals := 22 }
abbrev qX11_shipAt (dC : Nat → ClassId) (dI : Nat → Nat → Nat) (cI cZ cO cW : ClassId) (h h_all h_has h_line h_act h_pile h_comes h_leaves h_tried h_met : Nat) (f_size : Int32) (f_next : Int32) (f_where : Int32) (f_token : Int32) (f_number : Int32) (f_sign : Int32) (f_word : Int32) (f_wrong : Int32) (f_open : Int32) (f_lines : Int32) (f_acts : Int32) (r_all : Nat → Int32) (Q : Int32 → Prop) (A : Nat → Prop) : Array Value → State → Outcome → State → Prop := va_Qi (fun (r : Int32) (u : Unit) => Q r) (fun (u : Unit) (t : State) => va_P (dC, dI) vwCl (vX11_shipAt cI cZ h h_all h_has h_line h_act h_pile h_comes h_leaves h_tried h_met f_size f_next f_where f_token f_number f_sign f_word f_wrong f_open f_lines f_acts r_all) t.heap ∧ va_K (dC, dI) vwCl (tysA cI cZ cO cW) t ∧ va_D A (vX11_shipAt cI cZ h h_all h_has h_line h_act h_pile h_comes h_leaves h_tried h_met f_size f_next f_where f_token f_number f_sign f_word f_wrong f_open f_lines f_acts r_all)) A
def zsX11_shipAt : List Cond := Cond.code yX11_shipAt cX11_shipAt 4 (some .int) :: GW
set_option maxHeartbeats 4000000 in
set_option maxRecDepth 100000 in
theorem tX11_shipAt_34 {p : Program} {l : Launch} {e : Env} {s : State} {m : MethodId} {args : Array Value} {below : List Frame} {meth : Method} {c : Code} {dC : Nat → ClassId} {dI : Nat → Nat → Nat} {cI cZ cO cW : ClassId} {A : Nat → Prop} {h h_all h_has h_line h_act h_pile h_comes h_leaves h_tried h_met : Nat} {f_size f_next f_where f_token f_number f_sign f_word f_wrong f_open f_lines f_acts : Int32} {Q : Int32 → Prop} {K_2 : Int32 → Int32 → Int32 → (Nat → Int32) → Prop} (hC : Cx p s m args meth c cX11_shipAt (some .int) 4 GW RX11) (hK : va_K (dC, dI) vwCl (tysA cI cZ cO cW) s) (hA : ∀ q : Nat, s.heap.size ≤ q → A q) (hk_2 : ∀ (x1 : Int32) (x2 : Int32) (x3 : Int32) (r_all : (Nat → Int32)) (H : Heap) (locs : List Loc) (ls : Array Slot), K_2 x1 x2 x3 r_all → va_P (dC, dI) vwCl (vX11_shipAt cI cZ h h_all h_has h_line h_act h_pile h_comes h_leaves h_tried h_met f_size f_next f_where f_token f_number f_sign f_word f_wrong f_open f_lines f_acts r_all) H → va_D A (vX11_shipAt cI cZ h h_all h_has h_line h_act h_pile h_comes h_leaves h_tried h_met f_size f_next f_where f_token f_number f_sign f_word f_wrong f_open f_lines f_acts r_all) → va_S A s.heap H locs → lv_has ls 4 [(0, .ref h), (1, .int x1), (2, .int x2), (3, .int x3)] → W p l e rmX11_shipAt s m args below meth c H locs 0 0 (MQ below (qX11_shipAt dC dI cI cZ cO cW h h_all h_has h_line h_act h_pile h_comes h_leaves h_tried h_met f_size f_next f_where f_token f_number f_sign f_word f_wrong f_open f_lines f_acts r_all Q A) args s 0 0 A) (F0 m 2 ls [])) :
    ∀ (x1 : Int32) (x2 : Int32) (x3 : Int32) (r_all : (Nat → Int32)) (H : Heap) (locs : List Loc) (ls : Array Slot), wX11_shipAt_34 Q K_2 x1 x2 x3 r_all → va_P (dC, dI) vwCl (vX11_shipAt cI cZ h h_all h_has h_line h_act h_pile h_comes h_leaves h_tried h_met f_size f_next f_where f_token f_number f_sign f_word f_wrong f_open f_lines f_acts r_all) H → va_D A (vX11_shipAt cI cZ h h_all h_has h_line h_act h_pile h_comes h_leaves h_tried h_met f_size f_next f_where f_token f_number f_sign f_word f_wrong f_open f_lines f_acts r_all) → va_S A s.heap H locs → lv_has ls 4 [(0, .ref h), (1, .int x1), (2, .int x2), (3, .int x3)] → W p l e rmX11_shipAt s m args below meth c H locs 0 0 (MQ below (qX11_shipAt dC dI cI cZ cO cW h h_all h_has h_line h_act h_pile h_comes h_leaves h_tried h_met f_size f_next f_where f_token f_number f_sign f_word f_wrong f_open f_lines f_acts r_all Q A) args s 0 0 A) (F0 m 34 ls []) := by
  obtain ⟨hx, hb, hr, hml, hown, hts, hlocks⟩ := id hC
  intro x1 x2 x3 r_all H locs ls hw hP hD hS hl
  refine lv_iinc (v := (x3 + (1 : Int32))) (lv' := [(3, .int (x3 + (1 : Int32))), (0, .ref h), (1, .int x1), (2, .int x2)]) hx hb dX11_shipAt_34 hl (k := 3) rfl rfl (by decide) rfl (fun ls hl => ?_)
  refine lv_goto (tgt := 2) hx hb dX11_shipAt_37 (by decide) ?_
  exact hk_2 x1 x2 (x3 + (1 : Int32)) r_all _ _ ls hw (hP.sub [0, 1] rfl) (hD.sub [0, 1] (by decide) rfl) hS (lv_sub hl [1, 2, 3, 0] rfl)
set_option maxHeartbeats 4000000 in
set_option maxRecDepth 100000 in
theorem tX11_shipAt_2 {p : Program} {l : Launch} {e : Env} {s : State} {m : MethodId} {args : Array Value} {below : List Frame} {meth : Method} {c : Code} {dC : Nat → ClassId} {dI : Nat → Nat → Nat} {cI cZ cO cW : ClassId} {A : Nat → Prop} {h h_all h_has h_line h_act h_pile h_comes h_leaves h_tried h_met : Nat} {f_size f_next f_where f_token f_number f_sign f_word f_wrong f_open f_lines f_acts : Int32} {Q : Int32 → Prop}  (hC : Cx p s m args meth c cX11_shipAt (some .int) 4 GW RX11) (hK : va_K (dC, dI) vwCl (tysA cI cZ cO cW) s) (hA : ∀ q : Nat, s.heap.size ≤ q → A q) :
    ∀ (n : Nat) (x1 : Int32) (x2 : Int32) (x3 : Int32) (r_all : (Nat → Int32)) (H : Heap) (locs : List Loc) (ls : Array Slot), wX11_shipAt_2 Q  n x1 x2 x3 r_all → va_P (dC, dI) vwCl (vX11_shipAt cI cZ h h_all h_has h_line h_act h_pile h_comes h_leaves h_tried h_met f_size f_next f_where f_token f_number f_sign f_word f_wrong f_open f_lines f_acts r_all) H → va_D A (vX11_shipAt cI cZ h h_all h_has h_line h_act h_pile h_comes h_leaves h_tried h_met f_size f_next f_where f_token f_number f_sign f_word f_wrong f_open f_lines f_acts r_all) → va_S A s.heap H locs → lv_has ls 4 [(0, .ref h), (1, .int x1), (2, .int x2), (3, .int x3)] → W p l e rmX11_shipAt s m args below meth c H locs 0 0 (MQ below (qX11_shipAt dC dI cI cZ cO cW h h_all h_has h_line h_act h_pile h_comes h_leaves h_tried h_met f_size f_next f_where f_token f_number f_sign f_word f_wrong f_open f_lines f_acts r_all Q A) args s 0 0 A) (F0 m 2 ls []) := by
  obtain ⟨hx, hb, hr, hml, hown, hts, hlocks⟩ := id hC
  intro n
  induction n with
  | zero =>
    intro  x1 x2 x3 r_all H locs ls hw
    exact hw.elim
  | succ n ih =>
    intro  x1 x2 x3 r_all H locs ls hw hP hD hS hl
    refine lv_iload_n hx hb dX11_shipAt_2 rfl (lv_at hl 3 rfl) ?_
    refine lv_aload_n hx hb dX11_shipAt_3 rfl (lv_at hl 0 rfl) ?_
    refine va_get (D := (dC, dI)) (ci := 10) (v := .ref h_all) (C := RX11) (T := TX11) (N := 20) hx hb hts gu_X11 hown hK hP 0 rfl rfl 0 (by decide) (hts _ gw_607) (fun _ h9 => h9) rfl dX11_shipAt_4 ?_
    refine lv_iconst (v := (2 : Int32)) hx hb dX11_shipAt_7 (by decide) ?_
    obtain ⟨h_1, hw⟩ := hw
    refine va_iald hx hb hK hP 1 0 rfl rfl h_1 dX11_shipAt_8 ?_
    refine lv_icmp_ge (tgt := 40) hx hb dX11_shipAt_9 (by decide) (fun c_2 => ?_) (fun c_2 => ?_)
    · have hw := hw.1 c_2
      refine lv_iconst (v := (-1 : Int32)) hx hb dX11_shipAt_40 (by decide) ?_
      have hP9 := hP.sub (ws' := (vX11_shipAt cI cZ h h_all h_has h_line h_act h_pile h_comes h_leaves h_tried h_met f_size f_next f_where f_token f_number f_sign f_word f_wrong f_open f_lines f_acts r_all)) [0, 1] rfl
      have hD9 := hD.sub (ws' := (vX11_shipAt cI cZ h h_all h_has h_line h_act h_pile h_comes h_leaves h_tried h_met f_size f_next f_where f_token f_number f_sign f_word f_wrong f_open f_lines f_acts r_all)) [0, 1] (by decide) rfl
      exact W.iret (v := (-1 : Int32)) hx hb hr (fun t ht hW => ⟨⟨(-1 : Int32), (), rfl, hw, by rw [ht]; exact hP9, va_K.moved hW.alike hK, hD9⟩, hS.F ht⟩) hS.2.2 dX11_shipAt_41
    · have hw := hw.2 c_2
      refine lv_aload_n hx hb dX11_shipAt_12 rfl (lv_at hl 0 rfl) ?_
      refine lv_iload_n hx hb dX11_shipAt_13 rfl (lv_at hl 3 rfl) ?_
      refine lv_iconst (v := (2 : Int32)) hx hb dX11_shipAt_14 (by decide) ?_
      have hPc := hP.sub (ws' := [(h, .inr (10, [.ref h_all, .ref h_has, .int f_size, .int f_next, .int f_where, .int f_token, .int f_number, .int f_sign, .int f_word, .int f_wrong, .int f_open, .int f_lines, .int f_acts, .ref h_line, .ref h_act, .ref h_pile, .ref h_comes, .ref h_leaves, .ref h_tried, .ref h_met])), (h_all, .inl (cI, 53700, .inl r_all))]) [0, 1] rfl
      have hDc := hD.sub (ws' := [(h, .inr (10, [.ref h_all, .ref h_has, .int f_size, .int f_next, .int f_where, .int f_token, .int f_number, .int f_sign, .int f_word, .int f_wrong, .int f_open, .int f_lines, .int f_acts, .ref h_line, .ref h_act, .ref h_pile, .ref h_comes, .ref h_leaves, .ref h_tried, .ref h_met])), (h_all, .inl (cI, 53700, .inl r_all))]) [0, 1] (by decide) rfl
      have hFc := va_free (wc := [(h, .inr (10, [.ref h_all, .ref h_has, .int f_size, .int f_next, .int f_where, .int f_token, .int f_number, .int f_sign, .int f_word, .int f_wrong, .int f_open, .int f_lines, .int f_acts, .ref h_line, .ref h_act, .ref h_pile, .ref h_comes, .ref h_leaves, .ref h_tried, .ref h_met])), (h_all, .inl (cI, 53700, .inl r_all))]) hD hS hA [0, 1] rfl
      refine va_calli (va_runV (As := [.int x3, .int (2 : Int32)]) (rest := []) ⟨hx, hb, hml, hown, hts⟩ (kX11_its l dC dI cI cZ cO cW h h_all h_has h_line h_act h_pile h_comes h_leaves h_tried h_met H.size f_size f_next f_where f_token f_number f_sign f_word f_wrong f_open f_lines f_acts r_all x3 (2 : Int32) _ hw) (cwV 2 hts (gV gw_640 gw_641 gw_642 gw_622 (gM gw_637)) rfl rfl rfl (by decide +kernel) ⟨Nat.le_of_ble_eq_true rfl, Nat.le_of_ble_eq_true rfl⟩) (pv_of hPc hK hDc (va_recv hK hPc (ci := 10) (q0 := 0) rfl rfl)) rfl rfl hl.1 rfl (lv_room (Nat.le_of_ble_eq_true rfl)) dX11_shipAt_15 ⟨Nat.zero_le _, Nat.zero_le _⟩) hS (fun q _ h => hFc q h) hFc (fun r_3 u t H locs ht hvm hw hB hz1 hk1 hS => ?_)
      obtain ⟨hP, hD⟩ := af_join (wr := []) (w1 := [(h, .inr (10, [.ref h_all, .ref h_has, .int f_size, .int f_next, .int f_where, .int f_token, .int f_number, .int f_sign, .int f_word, .int f_wrong, .int f_open, .int f_lines, .int f_acts, .ref h_line, .ref h_act, .ref h_pile, .ref h_comes, .ref h_leaves, .ref h_tried, .ref h_met])), (h_all, .inl (cI, 53700, .inl r_all))]) hB ht hP hD [0, 1] [] rfl rfl (by decide) (by decide) hk1 hFc
      have hP : va_P (dC, dI) vwCl [(h, .inr (10, [.ref h_all, .ref h_has, .int f_size, .int f_next, .int f_where, .int f_token, .int f_number, .int f_sign, .int f_word, .int f_wrong, .int f_open, .int f_lines, .int f_acts, .ref h_line, .ref h_act, .ref h_pile, .ref h_comes, .ref h_leaves, .ref h_tried, .ref h_met])), (h_all, .inl (cI, 53700, .inl r_all))] _ := hP
      have hD : va_D A [(h, .inr (10, [.ref h_all, .ref h_has, .int f_size, .int f_next, .int f_where, .int f_token, .int f_number, .int f_sign, .int f_word, .int f_wrong, .int f_open, .int f_lines, .int f_acts, .ref h_line, .ref h_act, .ref h_pile, .ref h_comes, .ref h_leaves, .ref h_tried, .ref h_met])), (h_all, .inl (cI, 53700, .inl r_all))] := hD
      refine lv_iload_n hx hb dX11_shipAt_18 rfl (lv_at hl 1 rfl) ?_
      refine lv_icmp_ne (tgt := 34) hx hb dX11_shipAt_19 (by decide) (fun c_4 => ?_) (fun c_4 => ?_)
      · have hw := hw.1 c_4
        exact tX11_shipAt_34 hC hK hA ih x1 x2 x3 r_all _ _ ls hw (hP.sub [0, 1] rfl) (hD.sub [0, 1] (by decide) rfl) hS (lv_sub hl [0, 1, 2, 3] rfl)
      · have hw := hw.2 c_4
        refine lv_aload_n hx hb dX11_shipAt_22 rfl (lv_at hl 0 rfl) ?_
        refine lv_iload_n hx hb dX11_shipAt_23 rfl (lv_at hl 3 rfl) ?_
        refine lv_iconst (v := (3 : Int32)) hx hb dX11_shipAt_24 (by decide) ?_
        have hPc := hP.sub (ws' := [(h, .inr (10, [.ref h_all, .ref h_has, .int f_size, .int f_next, .int f_where, .int f_token, .int f_number, .int f_sign, .int f_word, .int f_wrong, .int f_open, .int f_lines, .int f_acts, .ref h_line, .ref h_act, .ref h_pile, .ref h_comes, .ref h_leaves, .ref h_tried, .ref h_met])), (h_all, .inl (cI, 53700, .inl r_all))]) [0, 1] rfl
        have hDc := hD.sub (ws' := [(h, .inr (10, [.ref h_all, .ref h_has, .int f_size, .int f_next, .int f_where, .int f_token, .int f_number, .int f_sign, .int f_word, .int f_wrong, .int f_open, .int f_lines, .int f_acts, .ref h_line, .ref h_act, .ref h_pile, .ref h_comes, .ref h_leaves, .ref h_tried, .ref h_met])), (h_all, .inl (cI, 53700, .inl r_all))]) [0, 1] (by decide) rfl
        have hFc := va_free (wc := [(h, .inr (10, [.ref h_all, .ref h_has, .int f_size, .int f_next, .int f_where, .int f_token, .int f_number, .int f_sign, .int f_word, .int f_wrong, .int f_open, .int f_lines, .int f_acts, .ref h_line, .ref h_act, .ref h_pile, .ref h_comes, .ref h_leaves, .ref h_tried, .ref h_met])), (h_all, .inl (cI, 53700, .inl r_all))]) hD hS hA [0, 1] rfl
        refine va_calli (va_runV (As := [.int x3, .int (3 : Int32)]) (rest := []) ⟨hx, hb, hml, hown, hts⟩ (kX11_its l dC dI cI cZ cO cW h h_all h_has h_line h_act h_pile h_comes h_leaves h_tried h_met H.size f_size f_next f_where f_token f_number f_sign f_word f_wrong f_open f_lines f_acts r_all x3 (3 : Int32) _ hw) (cwV 2 hts (gV gw_640 gw_641 gw_642 gw_622 (gM gw_637)) rfl rfl rfl (by decide +kernel) ⟨Nat.le_of_ble_eq_true rfl, Nat.le_of_ble_eq_true rfl⟩) (pv_of hPc hK hDc (va_recv hK hPc (ci := 10) (q0 := 0) rfl rfl)) rfl rfl hl.1 rfl (lv_room (Nat.le_of_ble_eq_true rfl)) dX11_shipAt_25 ⟨Nat.zero_le _, Nat.zero_le _⟩) hS (fun q _ h => hFc q h) hFc (fun r_5 u t H locs ht hvm hw hB hz1 hk1 hS => ?_)
        obtain ⟨hP, hD⟩ := af_join (wr := []) (w1 := [(h, .inr (10, [.ref h_all, .ref h_has, .int f_size, .int f_next, .int f_where, .int f_token, .int f_number, .int f_sign, .int f_word, .int f_wrong, .int f_open, .int f_lines, .int f_acts, .ref h_line, .ref h_act, .ref h_pile, .ref h_comes, .ref h_leaves, .ref h_tried, .ref h_met])), (h_all, .inl (cI, 53700, .inl r_all))]) hB ht hP hD [0, 1] [] rfl rfl (by decide) (by decide) hk1 hFc
        have hP : va_P (dC, dI) vwCl [(h, .inr (10, [.ref h_all, .ref h_has, .int f_size, .int f_next, .int f_where, .int f_token, .int f_number, .int f_sign, .int f_word, .int f_wrong, .int f_open, .int f_lines, .int f_acts, .ref h_line, .ref h_act, .ref h_pile, .ref h_comes, .ref h_leaves, .ref h_tried, .ref h_met])), (h_all, .inl (cI, 53700, .inl r_all))] _ := hP
        have hD : va_D A [(h, .inr (10, [.ref h_all, .ref h_has, .int f_size, .int f_next, .int f_where, .int f_token, .int f_number, .int f_sign, .int f_word, .int f_wrong, .int f_open, .int f_lines, .int f_acts, .ref h_line, .ref h_act, .ref h_pile, .ref h_comes, .ref h_leaves, .ref h_tried, .ref h_met])), (h_all, .inl (cI, 53700, .inl r_all))] := hD
        refine lv_iload_n hx hb dX11_shipAt_28 rfl (lv_at hl 2 rfl) ?_
        refine lv_icmp_ne (tgt := 34) hx hb dX11_shipAt_29 (by decide) (fun c_6 => ?_) (fun c_6 => ?_)
        · have hw := hw.1 c_6
          exact tX11_shipAt_34 hC hK hA ih x1 x2 x3 r_all _ _ ls hw (hP.sub [0, 1] rfl) (hD.sub [0, 1] (by decide) rfl) hS (lv_sub hl [0, 1, 2, 3] rfl)
        · have hw := hw.2 c_6
          refine lv_iload_n hx hb dX11_shipAt_32 rfl (lv_at hl 3 rfl) ?_
          have hP9 := hP.sub (ws' := (vX11_shipAt cI cZ h h_all h_has h_line h_act h_pile h_comes h_leaves h_tried h_met f_size f_next f_where f_token f_number f_sign f_word f_wrong f_open f_lines f_acts r_all)) [0, 1] rfl
          have hD9 := hD.sub (ws' := (vX11_shipAt cI cZ h h_all h_has h_line h_act h_pile h_comes h_leaves h_tried h_met f_size f_next f_where f_token f_number f_sign f_word f_wrong f_open f_lines f_acts r_all)) [0, 1] (by decide) rfl
          exact W.iret (v := x3) hx hb hr (fun t ht hW => ⟨⟨x3, (), rfl, hw, by rw [ht]; exact hP9, va_K.moved hW.alike hK, hD9⟩, hS.F ht⟩) hS.2.2 dX11_shipAt_33
set_option maxHeartbeats 4000000 in
set_option maxRecDepth 100000 in
theorem tX11_shipAt_e {p : Program} {l : Launch} {e : Env} {s : State} {m : MethodId} {args : Array Value} {below : List Frame} {meth : Method} {c : Code} {dC : Nat → ClassId} {dI : Nat → Nat → Nat} {cI cZ cO cW : ClassId} {A : Nat → Prop} {h h_all h_has h_line h_act h_pile h_comes h_leaves h_tried h_met : Nat} {f_size f_next f_where f_token f_number f_sign f_word f_wrong f_open f_lines f_acts : Int32} {Q : Int32 → Prop} (hC : Cx p s m args meth c cX11_shipAt (some .int) 4 GW RX11) (hK : va_K (dC, dI) vwCl (tysA cI cZ cO cW) s) (hA : ∀ q : Nat, s.heap.size ≤ q → A q) :
    ∀ (x1 : Int32) (x2 : Int32) (r_all : Nat → Int32) (H : Heap) (locs : List Loc) (ls : Array Slot), wX11_shipAt Q x1 x2 r_all → va_P (dC, dI) vwCl (vX11_shipAt cI cZ h h_all h_has h_line h_act h_pile h_comes h_leaves h_tried h_met f_size f_next f_where f_token f_number f_sign f_word f_wrong f_open f_lines f_acts r_all) H → va_D A (vX11_shipAt cI cZ h h_all h_has h_line h_act h_pile h_comes h_leaves h_tried h_met f_size f_next f_where f_token f_number f_sign f_word f_wrong f_open f_lines f_acts r_all) → va_S A s.heap H locs → lv_has ls 4 [(0, .ref h), (1, .int x1), (2, .int x2)] → W p l e rmX11_shipAt s m args below meth c H locs 0 0 (MQ below (qX11_shipAt dC dI cI cZ cO cW h h_all h_has h_line h_act h_pile h_comes h_leaves h_tried h_met f_size f_next f_where f_token f_number f_sign f_word f_wrong f_open f_lines f_acts r_all Q A) args s 0 0 A) (F0 m 0 ls []) := by
  obtain ⟨hx, hb, hr, hml, hown, hts, hlocks⟩ := id hC
  intro x1 x2 r_all H locs ls hw hP hD hS hl
  refine lv_iconst (v := (0 : Int32)) hx hb dX11_shipAt_0 (by decide) ?_
  refine lv_istore_n (lv' := [(3, .int (0 : Int32)), (0, .ref h), (1, .int x1), (2, .int x2)]) hx hb dX11_shipAt_1 rfl hl (by decide) rfl (fun ls hl => ?_)
  obtain ⟨n_7, hw⟩ := hw
  exact tX11_shipAt_2 hC hK hA  n_7 x1 x2 (0 : Int32) r_all _ _ ls hw (hP.sub [0, 1] rfl) (hD.sub [0, 1] (by decide) rfl) hS (lv_sub hl [1, 2, 3, 0] rfl)
set_option maxHeartbeats 4000000 in
set_option maxRecDepth 100000 in
theorem kX11_shipAt (l : Launch) (dC : Nat → ClassId) (dI : Nat → Nat → Nat) (cI cZ cO cW : ClassId) (h h_all h_has h_line h_act h_pile h_comes h_leaves h_tried h_met : Nat)  (sz : Nat) (f_size : Int32) (f_next : Int32) (f_where : Int32) (f_token : Int32) (f_number : Int32) (f_sign : Int32) (f_word : Int32) (f_wrong : Int32) (f_open : Int32) (f_lines : Int32) (f_acts : Int32) (r_all : Nat → Int32) (x1 : Int32) (x2 : Int32) (Q : Int32 → Prop) (hw : wX11_shipAt Q x1 x2 r_all) : Met l yX11_shipAt zsX11_shipAt rmX11_shipAt (va_Pc [.ref h, .int x1, .int x2] (fun U => U.heap.size = sz ∧ va_P (dC, dI) vwCl (vX11_shipAt cI cZ h h_all h_has h_line h_act h_pile h_comes h_leaves h_tried h_met f_size f_next f_where f_token f_number f_sign f_word f_wrong f_open f_lines f_acts r_all) U.heap ∧ va_K (dC, dI) vwCl (tysA cI cZ cO cW) U ∧ va_D (fun _ => True) (vX11_shipAt cI cZ h h_all h_has h_line h_act h_pile h_comes h_leaves h_tried h_met f_size f_next f_where f_token f_number f_sign f_word f_wrong f_open f_lines f_acts r_all))) (qX11_shipAt dC dI cI cZ cO cW h h_all h_has h_line h_act h_pile h_comes h_leaves h_tried h_met f_size f_next f_where f_token f_number f_sign f_word f_wrong f_open f_lines f_acts r_all Q (va_A (vX11_shipAt cI cZ h h_all h_has h_line h_act h_pile h_comes h_leaves h_tried h_met f_size f_next f_where f_token f_number f_sign f_word f_wrong f_open f_lines f_acts r_all) sz)) 0 0 (va_A (vX11_shipAt cI cZ h h_all h_has h_line h_act h_pile h_comes h_leaves h_tried h_met f_size f_next f_where f_token f_number f_sign f_word f_wrong f_open f_lines f_acts r_all) sz) := by
  refine Met.ofW (cc := cX11_shipAt) (maxL := 4) (ret := (some .int)) (by decide) rfl ?_
  intro p e s m args below meth c s₁ B hml hv
  obtain ⟨rfl, hsz, hP, hK, hD0⟩ := hv
  subst hsz
  have hC : Cx p s m ([.ref h, .int x1, .int x2] : List Value).toArray meth c cX11_shipAt (some .int) 4 GW RX11 := ⟨B.exec, B.bytes, B.returns, hml, findClass_of_methodNamed B.named, fun w h => atoms_spec (ws := zsX11_shipAt) B.pre w (List.mem_cons_of_mem _ h), B.notSynchronized⟩
  have hD := hD0.self (sz := s.heap.size)
  generalize hAe : va_A (vX11_shipAt cI cZ h h_all h_has h_line h_act h_pile h_comes h_leaves h_tried h_met f_size f_next f_where f_token f_number f_sign f_word f_wrong f_open f_lines f_acts r_all) s.heap.size = A at hD ⊢
  have hA : ∀ q : Nat, s.heap.size ≤ q → A q := fun q h => by rw [← hAe]; exact Or.inr h
  have hl := lv_entry ([.ref h, .int x1, .int x2]) (n := 4) (Nat.le_of_ble_eq_true rfl)
  rw [lg_entry_eq]
  generalize (lg_sl ([.ref h, .int x1, .int x2]) ++ List.replicate (4 - (lg_sl ([.ref h, .int x1, .int x2])).length) Slot.unset).toArray = ls at hl ⊢
  exact tX11_shipAt_e hC hK hA x1 x2 r_all _ _ ls hw hP hD va_S.rf hl

/-! X11_land -/
def wX11_land_105 (Q : Int32 → (Nat → Int32) → Prop) (K_66 : Int32 → Int32 → Int32 → Int32 → (Nat → Int32) → Prop)  (x1 : Int32) (x2 : Int32) (x3 : Int32) (x4 : Int32) (s1 : Int32) (s2 : Int32) (s3 : Int32) (s4 : Int32) (r_all : (Nat → Int32)) : Prop :=
  (wX11_sets (fun r_all_1 => (K_66 x1 x2 x3 (x4 + (1 : Int32)) r_all_1)) s1 s2 s3 s4 r_all)
def wX11_land_66 (Q : Int32 → (Nat → Int32) → Prop)   : Nat → Int32 → Int32 → Int32 → Int32 → (Nat → Int32) → Prop
  | 0, _, _, _, _, _ => False
  | n + 1, x1, x2, x3, x4, r_all => (((5 : Int32) ≤ x4 → (Q (1 : Int32) r_all)) ∧ (¬ (5 : Int32) ≤ x4 → ((¬ x4 = 0 → ((¬ x4 = (3 : Int32) → (wX11_land_105 Q (wX11_land_66 Q n) x1 x2 x3 x4 x1 x2 x4 (0 : Int32) r_all)) ∧ (x4 = (3 : Int32) → (wX11_land_105 Q (wX11_land_66 Q n) x1 x2 x3 x4 x1 x2 x4 (-1 : Int32) r_all)))) ∧ (x4 = 0 → ((x3 = 0 → (wX11_land_105 Q (wX11_land_66 Q n) x1 x2 x3 x4 x1 x2 x4 (1 : Int32) r_all)) ∧ (¬ x3 = 0 → (wX11_land_105 Q (wX11_land_66 Q n) x1 x2 x3 x4 x1 x2 x4 (0 : Int32) r_all)))))))
def wX11_land_24 (Q : Int32 → (Nat → Int32) → Prop)   (x1 : Int32) (x2 : Int32) (x3 : Int32) (s0 : Int32) (r_all : (Nat → Int32)) : Prop :=
  ((s0 = x3 → (Q (0 : Int32) r_all)) ∧ (¬ s0 = x3 → (wX11_shipAt (fun r_7 => ((r_7 < 0 → (vp_in (4 : Int32) 53700 ∧ (wX11_of (fun r_10 => (wX11_of (fun r_11 => (vp_in (4 : Int32) 53700 ∧ (∃ j_, wX11_land_66 Q j_ x1 x2 x3 (0 : Int32) (upd r_all (4 : Int32).toNatClampNeg ((r_all (4 : Int32).toNatClampNeg) - (r_10 + r_11)))))) x1 x2 (2 : Int32) r_all)) x1 x2 (1 : Int32) r_all))) ∧ (¬ r_7 < 0 → (Q (0 : Int32) r_all)))) x1 x2 r_all)))
def wX11_land (Q : Int32 → (Nat → Int32) → Prop) (x1 : Int32) (x2 : Int32) (x3 : Int32) (r_all : Nat → Int32) : Prop :=
  (wX11_isCell (fun r_14 => ((r_14 = 0 → (Q (0 : Int32) r_all)) ∧ (¬ r_14 = 0 → (wX11_of (fun r_16 => ((¬ r_16 = 0 → (wX11_land_24 Q x1 x2 x3 (0 : Int32) r_all)) ∧ (r_16 = 0 → (wX11_land_24 Q x1 x2 x3 (1 : Int32) r_all)))) x1 x2 (0 : Int32) r_all)))) x1 x2 r_all)
abbrev vX11_land (cI cZ : ClassId) (h h_all h_has h_line h_act h_pile h_comes h_leaves h_tried h_met : Nat) (f_size : Int32) (f_next : Int32) (f_where : Int32) (f_token : Int32) (f_number : Int32) (f_sign : Int32) (f_word : Int32) (f_wrong : Int32) (f_open : Int32) (f_lines : Int32) (f_acts : Int32) (r_all : Nat → Int32) : va_W := [(h, .inr (10, [.ref h_all, .ref h_has, .int f_size, .int f_next, .int f_where, .int f_token, .int f_number, .int f_sign, .int f_word, .int f_wrong, .int f_open, .int f_lines, .int f_acts, .ref h_line, .ref h_act, .ref h_pile, .ref h_comes, .ref h_leaves, .ref h_tried, .ref h_met])), (h_all, .inl (cI, 53700, .inl r_all))]
abbrev rmX11_land : Room := { frames := 2, cells := 0, slots := 0, locals := 45 }
abbrev qX11_land (dC : Nat → ClassId) (dI : Nat → Nat → Nat) (cI cZ cO cW : ClassId) (h h_all h_has h_line h_act h_pile h_comes h_leaves h_tried h_met : Nat) (f_size : Int32) (f_next : Int32) (f_where : Int32) (f_token : Int32) (f_number : Int32) (f_sign : Int32) (f_word : Int32) (f_wrong : Int32) (f_open : Int32) (f_lines : Int32) (f_acts : Int32) (Q : Int32 → (Nat → Int32) → Prop) (A : Nat → Prop) : Array Value → State → Outcome → State → Prop := va_Qi (fun (r : Int32) (u : (Nat → Int32)) => Q r u) (fun (u : (Nat → Int32)) (t : State) => va_P (dC, dI) vwCl (vX11_land cI cZ h h_all h_has h_line h_act h_pile h_comes h_leaves h_tried h_met f_size f_next f_where f_token f_number f_sign f_word f_wrong f_open f_lines f_acts u) t.heap ∧ va_K (dC, dI) vwCl (tysA cI cZ cO cW) t ∧ va_D A (vX11_land cI cZ h h_all h_has h_line h_act h_pile h_comes h_leaves h_tried h_met f_size f_next f_where f_token f_number f_sign f_word f_wrong f_open f_lines f_acts u)) A
def zsX11_land : List Cond := Cond.code yX11_land cX11_land 5 (some .boolean) :: GW
set_option maxHeartbeats 4000000 in
set_option maxRecDepth 100000 in
theorem tX11_land_105 {p : Program} {l : Launch} {e : Env} {s : State} {m : MethodId} {args : Array Value} {below : List Frame} {meth : Method} {c : Code} {dC : Nat → ClassId} {dI : Nat → Nat → Nat} {cI cZ cO cW : ClassId} {A : Nat → Prop} {h h_all h_has h_line h_act h_pile h_comes h_leaves h_tried h_met : Nat} {f_size f_next f_where f_token f_number f_sign f_word f_wrong f_open f_lines f_acts : Int32} {Q : Int32 → (Nat → Int32) → Prop} {K_66 : Int32 → Int32 → Int32 → Int32 → (Nat → Int32) → Prop} (hC : Cx p s m args meth c cX11_land (some .boolean) 5 GW RX11) (hK : va_K (dC, dI) vwCl (tysA cI cZ cO cW) s) (hA : ∀ q : Nat, s.heap.size ≤ q → A q) (hk_66 : ∀ (x1 : Int32) (x2 : Int32) (x3 : Int32) (x4 : Int32) (r_all : (Nat → Int32)) (H : Heap) (locs : List Loc) (ls : Array Slot), K_66 x1 x2 x3 x4 r_all → va_P (dC, dI) vwCl (vX11_land cI cZ h h_all h_has h_line h_act h_pile h_comes h_leaves h_tried h_met f_size f_next f_where f_token f_number f_sign f_word f_wrong f_open f_lines f_acts r_all) H → va_D A (vX11_land cI cZ h h_all h_has h_line h_act h_pile h_comes h_leaves h_tried h_met f_size f_next f_where f_token f_number f_sign f_word f_wrong f_open f_lines f_acts r_all) → va_S A s.heap H locs → lv_has ls 5 [(0, .ref h), (1, .int x1), (2, .int x2), (3, .int x3), (4, .int x4)] → W p l e rmX11_land s m args below meth c H locs 0 0 (MQ below (qX11_land dC dI cI cZ cO cW h h_all h_has h_line h_act h_pile h_comes h_leaves h_tried h_met f_size f_next f_where f_token f_number f_sign f_word f_wrong f_open f_lines f_acts Q A) args s 0 0 A) (F0 m 66 ls [])) :
    ∀ (x1 : Int32) (x2 : Int32) (x3 : Int32) (x4 : Int32) (s1 : Int32) (s2 : Int32) (s3 : Int32) (s4 : Int32) (r_all : (Nat → Int32)) (H : Heap) (locs : List Loc) (ls : Array Slot), wX11_land_105 Q K_66 x1 x2 x3 x4 s1 s2 s3 s4 r_all → va_P (dC, dI) vwCl (vX11_land cI cZ h h_all h_has h_line h_act h_pile h_comes h_leaves h_tried h_met f_size f_next f_where f_token f_number f_sign f_word f_wrong f_open f_lines f_acts r_all) H → va_D A (vX11_land cI cZ h h_all h_has h_line h_act h_pile h_comes h_leaves h_tried h_met f_size f_next f_where f_token f_number f_sign f_word f_wrong f_open f_lines f_acts r_all) → va_S A s.heap H locs → lv_has ls 5 [(0, .ref h), (1, .int x1), (2, .int x2), (3, .int x3), (4, .int x4)] → W p l e rmX11_land s m args below meth c H locs 0 0 (MQ below (qX11_land dC dI cI cZ cO cW h h_all h_has h_line h_act h_pile h_comes h_leaves h_tried h_met f_size f_next f_where f_token f_number f_sign f_word f_wrong f_open f_lines f_acts Q A) args s 0 0 A) (F0 m 105 ls [.int s4, .int s3, .int s2, .int s1, .ref h]) := by
  obtain ⟨hx, hb, hr, hml, hown, hts, hlocks⟩ := id hC
  intro x1 x2 x3 x4 s1 s2 s3 s4 r_all H locs ls hw hP hD hS hl
  have hPc := hP.sub (ws' := [(h, .inr (10, [.ref h_all, .ref h_has, .int f_size, .int f_next, .int f_where, .int f_token, .int f_number, .int f_sign, .int f_word, .int f_wrong, .int f_open, .int f_lines, .int f_acts, .ref h_line, .ref h_act, .ref h_pile, .ref h_comes, .ref h_leaves, .ref h_tried, .ref h_met])), (h_all, .inl (cI, 53700, .inl r_all))]) [0, 1] rfl
  have hDc := hD.sub (ws' := [(h, .inr (10, [.ref h_all, .ref h_has, .int f_size, .int f_next, .int f_where, .int f_token, .int f_number, .int f_sign, .int f_word, .int f_wrong, .int f_open, .int f_lines, .int f_acts, .ref h_line, .ref h_act, .ref h_pile, .ref h_comes, .ref h_leaves, .ref h_tried, .ref h_met])), (h_all, .inl (cI, 53700, .inl r_all))]) [0, 1] (by decide) rfl
  have hFc := va_free (wc := [(h, .inr (10, [.ref h_all, .ref h_has, .int f_size, .int f_next, .int f_where, .int f_token, .int f_number, .int f_sign, .int f_word, .int f_wrong, .int f_open, .int f_lines, .int f_acts, .ref h_line, .ref h_act, .ref h_pile, .ref h_comes, .ref h_leaves, .ref h_tried, .ref h_met])), (h_all, .inl (cI, 53700, .inl r_all))]) hD hS hA [0, 1] rfl
  refine va_callv (va_runV (As := [.int s1, .int s2, .int s3, .int s4]) (rest := []) ⟨hx, hb, hml, hown, hts⟩ (kX11_sets l dC dI cI cZ cO cW h h_all h_has h_line h_act h_pile h_comes h_leaves h_tried h_met H.size f_size f_next f_where f_token f_number f_sign f_word f_wrong f_open f_lines f_acts r_all s1 s2 s3 s4 _ hw) (cwV 4 hts (gV gw_646 gw_647 gw_648 gw_622 (gM gw_629)) rfl rfl rfl (by decide +kernel) ⟨Nat.le_of_ble_eq_true rfl, Nat.le_of_ble_eq_true rfl⟩) (pv_of hPc hK hDc (va_recv hK hPc (ci := 10) (q0 := 0) rfl rfl)) rfl rfl hl.1 rfl (lv_room (Nat.le_of_ble_eq_true rfl)) dX11_land_105 ⟨Nat.zero_le _, Nat.zero_le _⟩) hS (fun q _ h => hFc q h) hFc (fun u t H locs ht hvm hw hB hz1 hk1 hS => ?_)
  obtain ⟨r_all_1, rfl⟩ : ∃ z, z = u := ⟨_, rfl⟩
  obtain ⟨hP, hD⟩ := af_join (wr := []) (w1 := [(h, .inr (10, [.ref h_all, .ref h_has, .int f_size, .int f_next, .int f_where, .int f_token, .int f_number, .int f_sign, .int f_word, .int f_wrong, .int f_open, .int f_lines, .int f_acts, .ref h_line, .ref h_act, .ref h_pile, .ref h_comes, .ref h_leaves, .ref h_tried, .ref h_met])), (h_all, .inl (cI, 53700, .inl r_all_1))]) hB ht hP hD [0, 1] [] rfl rfl (by decide) (by decide) hk1 hFc
  have hP : va_P (dC, dI) vwCl [(h, .inr (10, [.ref h_all, .ref h_has, .int f_size, .int f_next, .int f_where, .int f_token, .int f_number, .int f_sign, .int f_word, .int f_wrong, .int f_open, .int f_lines, .int f_acts, .ref h_line, .ref h_act, .ref h_pile, .ref h_comes, .ref h_leaves, .ref h_tried, .ref h_met])), (h_all, .inl (cI, 53700, .inl r_all_1))] _ := hP
  have hD : va_D A [(h, .inr (10, [.ref h_all, .ref h_has, .int f_size, .int f_next, .int f_where, .int f_token, .int f_number, .int f_sign, .int f_word, .int f_wrong, .int f_open, .int f_lines, .int f_acts, .ref h_line, .ref h_act, .ref h_pile, .ref h_comes, .ref h_leaves, .ref h_tried, .ref h_met])), (h_all, .inl (cI, 53700, .inl r_all_1))] := hD
  refine lv_iinc (v := (x4 + (1 : Int32))) (lv' := [(4, .int (x4 + (1 : Int32))), (0, .ref h), (1, .int x1), (2, .int x2), (3, .int x3)]) hx hb dX11_land_108 hl (k := 4) rfl rfl (by decide) rfl (fun ls hl => ?_)
  refine lv_goto (tgt := 66) hx hb dX11_land_111 (by decide) ?_
  exact hk_66 x1 x2 x3 (x4 + (1 : Int32)) r_all_1 _ _ ls hw (hP.sub [0, 1] rfl) (hD.sub [0, 1] (by decide) rfl) hS (lv_sub hl [1, 2, 3, 4, 0] rfl)
set_option maxHeartbeats 4000000 in
set_option maxRecDepth 100000 in
theorem tX11_land_66 {p : Program} {l : Launch} {e : Env} {s : State} {m : MethodId} {args : Array Value} {below : List Frame} {meth : Method} {c : Code} {dC : Nat → ClassId} {dI : Nat → Nat → Nat} {cI cZ cO cW : ClassId} {A : Nat → Prop} {h h_all h_has h_line h_act h_pile h_comes h_leaves h_tried h_met : Nat} {f_size f_next f_where f_token f_number f_sign f_word f_wrong f_open f_lines f_acts : Int32} {Q : Int32 → (Nat → Int32) → Prop}  (hC : Cx p s m args meth c cX11_land (some .boolean) 5 GW RX11) (hK : va_K (dC, dI) vwCl (tysA cI cZ cO cW) s) (hA : ∀ q : Nat, s.heap.size ≤ q → A q) :
    ∀ (n : Nat) (x1 : Int32) (x2 : Int32) (x3 : Int32) (x4 : Int32) (r_all : (Nat → Int32)) (H : Heap) (locs : List Loc) (ls : Array Slot), wX11_land_66 Q  n x1 x2 x3 x4 r_all → va_P (dC, dI) vwCl (vX11_land cI cZ h h_all h_has h_line h_act h_pile h_comes h_leaves h_tried h_met f_size f_next f_where f_token f_number f_sign f_word f_wrong f_open f_lines f_acts r_all) H → va_D A (vX11_land cI cZ h h_all h_has h_line h_act h_pile h_comes h_leaves h_tried h_met f_size f_next f_where f_token f_number f_sign f_word f_wrong f_open f_lines f_acts r_all) → va_S A s.heap H locs → lv_has ls 5 [(0, .ref h), (1, .int x1), (2, .int x2), (3, .int x3), (4, .int x4)] → W p l e rmX11_land s m args below meth c H locs 0 0 (MQ below (qX11_land dC dI cI cZ cO cW h h_all h_has h_line h_act h_pile h_comes h_leaves h_tried h_met f_size f_next f_where f_token f_number f_sign f_word f_wrong f_open f_lines f_acts Q A) args s 0 0 A) (F0 m 66 ls []) := by
  obtain ⟨hx, hb, hr, hml, hown, hts, hlocks⟩ := id hC
  intro n
  induction n with
  | zero =>
    intro  x1 x2 x3 x4 r_all H locs ls hw
    exact hw.elim
  | succ n ih =>
    intro  x1 x2 x3 x4 r_all H locs ls hw hP hD hS hl
    refine lv_iload hx hb dX11_land_66 (lv_at hl 4 rfl) ?_
    refine lv_iconst (v := (5 : Int32)) hx hb dX11_land_68 (by decide) ?_
    refine lv_icmp_ge (tgt := 114) hx hb dX11_land_69 (by decide) (fun c_2 => ?_) (fun c_2 => ?_)
    · have hw := hw.1 c_2
      refine lv_iconst (v := (1 : Int32)) hx hb dX11_land_114 (by decide) ?_
      have hP9 := hP.sub (ws' := (vX11_land cI cZ h h_all h_has h_line h_act h_pile h_comes h_leaves h_tried h_met f_size f_next f_where f_token f_number f_sign f_word f_wrong f_open f_lines f_acts r_all)) [0, 1] rfl
      have hD9 := hD.sub (ws' := (vX11_land cI cZ h h_all h_has h_line h_act h_pile h_comes h_leaves h_tried h_met f_size f_next f_where f_token f_number f_sign f_word f_wrong f_open f_lines f_acts r_all)) [0, 1] (by decide) rfl
      exact W.zret (v := (1 : Int32)) (ty := .boolean) hx hb hr rfl (fun t ht hW => ⟨⟨(1 : Int32), r_all, rfl, hw, by rw [ht]; exact hP9, va_K.moved hW.alike hK, hD9⟩, hS.F ht⟩) hS.2.2 dX11_land_115
    · have hw := hw.2 c_2
      refine lv_aload_n hx hb dX11_land_72 rfl (lv_at hl 0 rfl) ?_
      refine lv_iload_n hx hb dX11_land_73 rfl (lv_at hl 1 rfl) ?_
      refine lv_iload_n hx hb dX11_land_74 rfl (lv_at hl 2 rfl) ?_
      refine lv_iload hx hb dX11_land_75 (lv_at hl 4 rfl) ?_
      refine lv_iload hx hb dX11_land_77 (lv_at hl 4 rfl) ?_
      refine lv_if_ne (tgt := 94) hx hb dX11_land_79 (by decide) (fun c_3 => ?_) (fun c_3 => ?_)
      · have hw := hw.1 c_3
        refine lv_iload hx hb dX11_land_94 (lv_at hl 4 rfl) ?_
        refine lv_iconst (v := (3 : Int32)) hx hb dX11_land_96 (by decide) ?_
        refine lv_icmp_ne (tgt := 104) hx hb dX11_land_97 (by decide) (fun c_4 => ?_) (fun c_4 => ?_)
        · have hw := hw.1 c_4
          refine lv_iconst (v := (0 : Int32)) hx hb dX11_land_104 (by decide) ?_
          exact tX11_land_105 hC hK hA ih x1 x2 x3 x4 x1 x2 x4 (0 : Int32) r_all _ _ ls hw (hP.sub [0, 1] rfl) (hD.sub [0, 1] (by decide) rfl) hS (lv_sub hl [0, 1, 2, 3, 4] rfl)
        · have hw := hw.2 c_4
          refine lv_iconst (v := (-1 : Int32)) hx hb dX11_land_100 (by decide) ?_
          refine lv_goto (tgt := 105) hx hb dX11_land_101 (by decide) ?_
          exact tX11_land_105 hC hK hA ih x1 x2 x3 x4 x1 x2 x4 (-1 : Int32) r_all _ _ ls hw (hP.sub [0, 1] rfl) (hD.sub [0, 1] (by decide) rfl) hS (lv_sub hl [0, 1, 2, 3, 4] rfl)
      · have hw := hw.2 c_3
        refine lv_iload_n hx hb dX11_land_82 rfl (lv_at hl 3 rfl) ?_
        refine lv_if_eq (tgt := 90) hx hb dX11_land_83 (by decide) (fun c_5 => ?_) (fun c_5 => ?_)
        · have hw := hw.1 c_5
          refine lv_iconst (v := (1 : Int32)) hx hb dX11_land_90 (by decide) ?_
          refine lv_goto (tgt := 105) hx hb dX11_land_91 (by decide) ?_
          exact tX11_land_105 hC hK hA ih x1 x2 x3 x4 x1 x2 x4 (1 : Int32) r_all _ _ ls hw (hP.sub [0, 1] rfl) (hD.sub [0, 1] (by decide) rfl) hS (lv_sub hl [0, 1, 2, 3, 4] rfl)
        · have hw := hw.2 c_5
          refine lv_iconst (v := (0 : Int32)) hx hb dX11_land_86 (by decide) ?_
          refine lv_goto (tgt := 105) hx hb dX11_land_87 (by decide) ?_
          exact tX11_land_105 hC hK hA ih x1 x2 x3 x4 x1 x2 x4 (0 : Int32) r_all _ _ ls hw (hP.sub [0, 1] rfl) (hD.sub [0, 1] (by decide) rfl) hS (lv_sub hl [0, 1, 2, 3, 4] rfl)
set_option maxHeartbeats 4000000 in
set_option maxRecDepth 100000 in
theorem tX11_land_24 {p : Program} {l : Launch} {e : Env} {s : State} {m : MethodId} {args : Array Value} {below : List Frame} {meth : Method} {c : Code} {dC : Nat → ClassId} {dI : Nat → Nat → Nat} {cI cZ cO cW : ClassId} {A : Nat → Prop} {h h_all h_has h_line h_act h_pile h_comes h_leaves h_tried h_met : Nat} {f_size f_next f_where f_token f_number f_sign f_word f_wrong f_open f_lines f_acts : Int32} {Q : Int32 → (Nat → Int32) → Prop}  (hC : Cx p s m args meth c cX11_land (some .boolean) 5 GW RX11) (hK : va_K (dC, dI) vwCl (tysA cI cZ cO cW) s) (hA : ∀ q : Nat, s.heap.size ≤ q → A q) :
    ∀ (x1 : Int32) (x2 : Int32) (x3 : Int32) (s0 : Int32) (r_all : (Nat → Int32)) (H : Heap) (locs : List Loc) (ls : Array Slot), wX11_land_24 Q  x1 x2 x3 s0 r_all → va_P (dC, dI) vwCl (vX11_land cI cZ h h_all h_has h_line h_act h_pile h_comes h_leaves h_tried h_met f_size f_next f_where f_token f_number f_sign f_word f_wrong f_open f_lines f_acts r_all) H → va_D A (vX11_land cI cZ h h_all h_has h_line h_act h_pile h_comes h_leaves h_tried h_met f_size f_next f_where f_token f_number f_sign f_word f_wrong f_open f_lines f_acts r_all) → va_S A s.heap H locs → lv_has ls 5 [(0, .ref h), (1, .int x1), (2, .int x2), (3, .int x3)] → W p l e rmX11_land s m args below meth c H locs 0 0 (MQ below (qX11_land dC dI cI cZ cO cW h h_all h_has h_line h_act h_pile h_comes h_leaves h_tried h_met f_size f_next f_where f_token f_number f_sign f_word f_wrong f_open f_lines f_acts Q A) args s 0 0 A) (F0 m 24 ls [.int s0]) := by
  obtain ⟨hx, hb, hr, hml, hown, hts, hlocks⟩ := id hC
  intro x1 x2 x3 s0 r_all H locs ls hw hP hD hS hl
  refine lv_iload_n hx hb dX11_land_24 rfl (lv_at hl 3 rfl) ?_
  refine lv_icmp_eq (tgt := 37) hx hb dX11_land_25 (by decide) (fun c_6 => ?_) (fun c_6 => ?_)
  · have hw := hw.1 c_6
    refine lv_iconst (v := (0 : Int32)) hx hb dX11_land_37 (by decide) ?_
    have hP9 := hP.sub (ws' := (vX11_land cI cZ h h_all h_has h_line h_act h_pile h_comes h_leaves h_tried h_met f_size f_next f_where f_token f_number f_sign f_word f_wrong f_open f_lines f_acts r_all)) [0, 1] rfl
    have hD9 := hD.sub (ws' := (vX11_land cI cZ h h_all h_has h_line h_act h_pile h_comes h_leaves h_tried h_met f_size f_next f_where f_token f_number f_sign f_word f_wrong f_open f_lines f_acts r_all)) [0, 1] (by decide) rfl
    exact W.zret (v := (0 : Int32)) (ty := .boolean) hx hb hr rfl (fun t ht hW => ⟨⟨(0 : Int32), r_all, rfl, hw, by rw [ht]; exact hP9, va_K.moved hW.alike hK, hD9⟩, hS.F ht⟩) hS.2.2 dX11_land_38
  · have hw := hw.2 c_6
    refine lv_aload_n hx hb dX11_land_28 rfl (lv_at hl 0 rfl) ?_
    refine lv_iload_n hx hb dX11_land_29 rfl (lv_at hl 1 rfl) ?_
    refine lv_iload_n hx hb dX11_land_30 rfl (lv_at hl 2 rfl) ?_
    have hPc := hP.sub (ws' := [(h, .inr (10, [.ref h_all, .ref h_has, .int f_size, .int f_next, .int f_where, .int f_token, .int f_number, .int f_sign, .int f_word, .int f_wrong, .int f_open, .int f_lines, .int f_acts, .ref h_line, .ref h_act, .ref h_pile, .ref h_comes, .ref h_leaves, .ref h_tried, .ref h_met])), (h_all, .inl (cI, 53700, .inl r_all))]) [0, 1] rfl
    have hDc := hD.sub (ws' := [(h, .inr (10, [.ref h_all, .ref h_has, .int f_size, .int f_next, .int f_where, .int f_token, .int f_number, .int f_sign, .int f_word, .int f_wrong, .int f_open, .int f_lines, .int f_acts, .ref h_line, .ref h_act, .ref h_pile, .ref h_comes, .ref h_leaves, .ref h_tried, .ref h_met])), (h_all, .inl (cI, 53700, .inl r_all))]) [0, 1] (by decide) rfl
    have hFc := va_free (wc := [(h, .inr (10, [.ref h_all, .ref h_has, .int f_size, .int f_next, .int f_where, .int f_token, .int f_number, .int f_sign, .int f_word, .int f_wrong, .int f_open, .int f_lines, .int f_acts, .ref h_line, .ref h_act, .ref h_pile, .ref h_comes, .ref h_leaves, .ref h_tried, .ref h_met])), (h_all, .inl (cI, 53700, .inl r_all))]) hD hS hA [0, 1] rfl
    refine va_calli (va_runV (As := [.int x1, .int x2]) (rest := []) ⟨hx, hb, hml, hown, hts⟩ (kX11_shipAt l dC dI cI cZ cO cW h h_all h_has h_line h_act h_pile h_comes h_leaves h_tried h_met H.size f_size f_next f_where f_token f_number f_sign f_word f_wrong f_open f_lines f_acts r_all x1 x2 _ hw) (cwV 2 hts (gV gw_643 gw_644 gw_645 gw_622 (gM gw_639)) rfl rfl rfl (by decide +kernel) ⟨Nat.le_of_ble_eq_true rfl, Nat.le_of_ble_eq_true rfl⟩) (pv_of hPc hK hDc (va_recv hK hPc (ci := 10) (q0 := 0) rfl rfl)) rfl rfl hl.1 rfl (lv_room (Nat.le_of_ble_eq_true rfl)) dX11_land_31 ⟨Nat.zero_le _, Nat.zero_le _⟩) hS (fun q _ h => hFc q h) hFc (fun r_7 u t H locs ht hvm hw hB hz1 hk1 hS => ?_)
    obtain ⟨hP, hD⟩ := af_join (wr := []) (w1 := [(h, .inr (10, [.ref h_all, .ref h_has, .int f_size, .int f_next, .int f_where, .int f_token, .int f_number, .int f_sign, .int f_word, .int f_wrong, .int f_open, .int f_lines, .int f_acts, .ref h_line, .ref h_act, .ref h_pile, .ref h_comes, .ref h_leaves, .ref h_tried, .ref h_met])), (h_all, .inl (cI, 53700, .inl r_all))]) hB ht hP hD [0, 1] [] rfl rfl (by decide) (by decide) hk1 hFc
    have hP : va_P (dC, dI) vwCl [(h, .inr (10, [.ref h_all, .ref h_has, .int f_size, .int f_next, .int f_where, .int f_token, .int f_number, .int f_sign, .int f_word, .int f_wrong, .int f_open, .int f_lines, .int f_acts, .ref h_line, .ref h_act, .ref h_pile, .ref h_comes, .ref h_leaves, .ref h_tried, .ref h_met])), (h_all, .inl (cI, 53700, .inl r_all))] _ := hP
    have hD : va_D A [(h, .inr (10, [.ref h_all, .ref h_has, .int f_size, .int f_next, .int f_where, .int f_token, .int f_number, .int f_sign, .int f_word, .int f_wrong, .int f_open, .int f_lines, .int f_acts, .ref h_line, .ref h_act, .ref h_pile, .ref h_comes, .ref h_leaves, .ref h_tried, .ref h_met])), (h_all, .inl (cI, 53700, .inl r_all))] := hD
    refine lv_if_lt (tgt := 39) hx hb dX11_land_34 (by decide) (fun c_8 => ?_) (fun c_8 => ?_)
    · have hw := hw.1 c_8
      refine lv_aload_n hx hb dX11_land_39 rfl (lv_at hl 0 rfl) ?_
      refine va_get (D := (dC, dI)) (ci := 10) (v := .ref h_all) (C := RX11) (T := TX11) (N := 20) hx hb hts gu_X11 hown hK hP 0 rfl rfl 0 (by decide) (hts _ gw_607) (fun _ h9 => h9) rfl dX11_land_40 ?_
      refine lv_iconst (v := (4 : Int32)) hx hb dX11_land_43 (by decide) ?_
      refine lv_dup2_11 hx hb dX11_land_44 rfl rfl ?_
      obtain ⟨h_9, hw⟩ := hw
      refine va_iald hx hb hK hP 1 0 rfl rfl h_9 dX11_land_45 ?_
      refine lv_aload_n hx hb dX11_land_46 rfl (lv_at hl 0 rfl) ?_
      refine lv_iload_n hx hb dX11_land_47 rfl (lv_at hl 1 rfl) ?_
      refine lv_iload_n hx hb dX11_land_48 rfl (lv_at hl 2 rfl) ?_
      refine lv_iconst (v := (1 : Int32)) hx hb dX11_land_49 (by decide) ?_
      have hPc := hP.sub (ws' := [(h, .inr (10, [.ref h_all, .ref h_has, .int f_size, .int f_next, .int f_where, .int f_token, .int f_number, .int f_sign, .int f_word, .int f_wrong, .int f_open, .int f_lines, .int f_acts, .ref h_line, .ref h_act, .ref h_pile, .ref h_comes, .ref h_leaves, .ref h_tried, .ref h_met])), (h_all, .inl (cI, 53700, .inl r_all))]) [0, 1] rfl
      have hDc := hD.sub (ws' := [(h, .inr (10, [.ref h_all, .ref h_has, .int f_size, .int f_next, .int f_where, .int f_token, .int f_number, .int f_sign, .int f_word, .int f_wrong, .int f_open, .int f_lines, .int f_acts, .ref h_line, .ref h_act, .ref h_pile, .ref h_comes, .ref h_leaves, .ref h_tried, .ref h_met])), (h_all, .inl (cI, 53700, .inl r_all))]) [0, 1] (by decide) rfl
      have hFc := va_free (wc := [(h, .inr (10, [.ref h_all, .ref h_has, .int f_size, .int f_next, .int f_where, .int f_token, .int f_number, .int f_sign, .int f_word, .int f_wrong, .int f_open, .int f_lines, .int f_acts, .ref h_line, .ref h_act, .ref h_pile, .ref h_comes, .ref h_leaves, .ref h_tried, .ref h_met])), (h_all, .inl (cI, 53700, .inl r_all))]) hD hS hA [0, 1] rfl
      refine va_calli (va_runV (As := [.int x1, .int x2, .int (1 : Int32)]) (rest := [.int (r_all (4 : Int32).toNatClampNeg), .int (4 : Int32), .ref h_all]) ⟨hx, hb, hml, hown, hts⟩ (kX11_of l dC dI cI cZ cO cW h h_all h_has h_line h_act h_pile h_comes h_leaves h_tried h_met H.size f_size f_next f_where f_token f_number f_sign f_word f_wrong f_open f_lines f_acts r_all x1 x2 (1 : Int32) _ hw) (cwV 3 hts (gV gw_634 gw_635 gw_636 gw_622 (gM gw_628)) rfl rfl rfl (by decide +kernel) ⟨Nat.le_of_ble_eq_true rfl, Nat.le_of_ble_eq_true rfl⟩) (pv_of hPc hK hDc (va_recv hK hPc (ci := 10) (q0 := 0) rfl rfl)) rfl rfl hl.1 rfl (lv_room (Nat.le_of_ble_eq_true rfl)) dX11_land_50 ⟨Nat.zero_le _, Nat.zero_le _⟩) hS (fun q _ h => hFc q h) hFc (fun r_10 u t H locs ht hvm hw hB hz1 hk1 hS => ?_)
      obtain ⟨hP, hD⟩ := af_join (wr := []) (w1 := [(h, .inr (10, [.ref h_all, .ref h_has, .int f_size, .int f_next, .int f_where, .int f_token, .int f_number, .int f_sign, .int f_word, .int f_wrong, .int f_open, .int f_lines, .int f_acts, .ref h_line, .ref h_act, .ref h_pile, .ref h_comes, .ref h_leaves, .ref h_tried, .ref h_met])), (h_all, .inl (cI, 53700, .inl r_all))]) hB ht hP hD [0, 1] [] rfl rfl (by decide) (by decide) hk1 hFc
      have hP : va_P (dC, dI) vwCl [(h, .inr (10, [.ref h_all, .ref h_has, .int f_size, .int f_next, .int f_where, .int f_token, .int f_number, .int f_sign, .int f_word, .int f_wrong, .int f_open, .int f_lines, .int f_acts, .ref h_line, .ref h_act, .ref h_pile, .ref h_comes, .ref h_leaves, .ref h_tried, .ref h_met])), (h_all, .inl (cI, 53700, .inl r_all))] _ := hP
      have hD : va_D A [(h, .inr (10, [.ref h_all, .ref h_has, .int f_size, .int f_next, .int f_where, .int f_token, .int f_number, .int f_sign, .int f_word, .int f_wrong, .int f_open, .int f_lines, .int f_acts, .ref h_line, .ref h_act, .ref h_pile, .ref h_comes, .ref h_leaves, .ref h_tried, .ref h_met])), (h_all, .inl (cI, 53700, .inl r_all))] := hD
      refine lv_aload_n hx hb dX11_land_53 rfl (lv_at hl 0 rfl) ?_
      refine lv_iload_n hx hb dX11_land_54 rfl (lv_at hl 1 rfl) ?_
      refine lv_iload_n hx hb dX11_land_55 rfl (lv_at hl 2 rfl) ?_
      refine lv_iconst (v := (2 : Int32)) hx hb dX11_land_56 (by decide) ?_
      have hPc := hP.sub (ws' := [(h, .inr (10, [.ref h_all, .ref h_has, .int f_size, .int f_next, .int f_where, .int f_token, .int f_number, .int f_sign, .int f_word, .int f_wrong, .int f_open, .int f_lines, .int f_acts, .ref h_line, .ref h_act, .ref h_pile, .ref h_comes, .ref h_leaves, .ref h_tried, .ref h_met])), (h_all, .inl (cI, 53700, .inl r_all))]) [0, 1] rfl
      have hDc := hD.sub (ws' := [(h, .inr (10, [.ref h_all, .ref h_has, .int f_size, .int f_next, .int f_where, .int f_token, .int f_number, .int f_sign, .int f_word, .int f_wrong, .int f_open, .int f_lines, .int f_acts, .ref h_line, .ref h_act, .ref h_pile, .ref h_comes, .ref h_leaves, .ref h_tried, .ref h_met])), (h_all, .inl (cI, 53700, .inl r_all))]) [0, 1] (by decide) rfl
      have hFc := va_free (wc := [(h, .inr (10, [.ref h_all, .ref h_has, .int f_size, .int f_next, .int f_where, .int f_token, .int f_number, .int f_sign, .int f_word, .int f_wrong, .int f_open, .int f_lines, .int f_acts, .ref h_line, .ref h_act, .ref h_pile, .ref h_comes, .ref h_leaves, .ref h_tried, .ref h_met])), (h_all, .inl (cI, 53700, .inl r_all))]) hD hS hA [0, 1] rfl
      refine va_calli (va_runV (As := [.int x1, .int x2, .int (2 : Int32)]) (rest := [.int r_10, .int (r_all (4 : Int32).toNatClampNeg), .int (4 : Int32), .ref h_all]) ⟨hx, hb, hml, hown, hts⟩ (kX11_of l dC dI cI cZ cO cW h h_all h_has h_line h_act h_pile h_comes h_leaves h_tried h_met H.size f_size f_next f_where f_token f_number f_sign f_word f_wrong f_open f_lines f_acts r_all x1 x2 (2 : Int32) _ hw) (cwV 3 hts (gV gw_634 gw_635 gw_636 gw_622 (gM gw_628)) rfl rfl rfl (by decide +kernel) ⟨Nat.le_of_ble_eq_true rfl, Nat.le_of_ble_eq_true rfl⟩) (pv_of hPc hK hDc (va_recv hK hPc (ci := 10) (q0 := 0) rfl rfl)) rfl rfl hl.1 rfl (lv_room (Nat.le_of_ble_eq_true rfl)) dX11_land_57 ⟨Nat.zero_le _, Nat.zero_le _⟩) hS (fun q _ h => hFc q h) hFc (fun r_11 u t H locs ht hvm hw hB hz1 hk1 hS => ?_)
      obtain ⟨hP, hD⟩ := af_join (wr := []) (w1 := [(h, .inr (10, [.ref h_all, .ref h_has, .int f_size, .int f_next, .int f_where, .int f_token, .int f_number, .int f_sign, .int f_word, .int f_wrong, .int f_open, .int f_lines, .int f_acts, .ref h_line, .ref h_act, .ref h_pile, .ref h_comes, .ref h_leaves, .ref h_tried, .ref h_met])), (h_all, .inl (cI, 53700, .inl r_all))]) hB ht hP hD [0, 1] [] rfl rfl (by decide) (by decide) hk1 hFc
      have hP : va_P (dC, dI) vwCl [(h, .inr (10, [.ref h_all, .ref h_has, .int f_size, .int f_next, .int f_where, .int f_token, .int f_number, .int f_sign, .int f_word, .int f_wrong, .int f_open, .int f_lines, .int f_acts, .ref h_line, .ref h_act, .ref h_pile, .ref h_comes, .ref h_leaves, .ref h_tried, .ref h_met])), (h_all, .inl (cI, 53700, .inl r_all))] _ := hP
      have hD : va_D A [(h, .inr (10, [.ref h_all, .ref h_has, .int f_size, .int f_next, .int f_where, .int f_token, .int f_number, .int f_sign, .int f_word, .int f_wrong, .int f_open, .int f_lines, .int f_acts, .ref h_line, .ref h_act, .ref h_pile, .ref h_comes, .ref h_leaves, .ref h_tried, .ref h_met])), (h_all, .inl (cI, 53700, .inl r_all))] := hD
      refine lv_iadd hx hb dX11_land_60 ?_
      refine lv_isub hx hb dX11_land_61 ?_
      obtain ⟨h_12, hw⟩ := hw
      refine va_iast hx hb hK hP hD hS 1 0 rfl rfl h_12 dX11_land_62 (fun H locs hP hD hS => ?_)
      have hP : va_P (dC, dI) vwCl [(h, .inr (10, [.ref h_all, .ref h_has, .int f_size, .int f_next, .int f_where, .int f_token, .int f_number, .int f_sign, .int f_word, .int f_wrong, .int f_open, .int f_lines, .int f_acts, .ref h_line, .ref h_act, .ref h_pile, .ref h_comes, .ref h_leaves, .ref h_tried, .ref h_met])), (h_all, .inl (cI, 53700, .inl (upd r_all (4 : Int32).toNatClampNeg ((r_all (4 : Int32).toNatClampNeg) - (r_10 + r_11)))))] _ := hP
      have hD : va_D A [(h, .inr (10, [.ref h_all, .ref h_has, .int f_size, .int f_next, .int f_where, .int f_token, .int f_number, .int f_sign, .int f_word, .int f_wrong, .int f_open, .int f_lines, .int f_acts, .ref h_line, .ref h_act, .ref h_pile, .ref h_comes, .ref h_leaves, .ref h_tried, .ref h_met])), (h_all, .inl (cI, 53700, .inl (upd r_all (4 : Int32).toNatClampNeg ((r_all (4 : Int32).toNatClampNeg) - (r_10 + r_11)))))] := hD
      refine lv_iconst (v := (0 : Int32)) hx hb dX11_land_63 (by decide) ?_
      refine lv_istore (lv' := [(4, .int (0 : Int32)), (0, .ref h), (1, .int x1), (2, .int x2), (3, .int x3)]) hx hb dX11_land_64 hl (by decide) rfl (fun ls hl => ?_)
      obtain ⟨n_13, hw⟩ := hw
      exact tX11_land_66 hC hK hA  n_13 x1 x2 x3 (0 : Int32) (upd r_all (4 : Int32).toNatClampNeg ((r_all (4 : Int32).toNatClampNeg) - (r_10 + r_11))) _ _ ls hw (hP.sub [0, 1] rfl) (hD.sub [0, 1] (by decide) rfl) hS (lv_sub hl [1, 2, 3, 4, 0] rfl)
    · have hw := hw.2 c_8
      refine lv_iconst (v := (0 : Int32)) hx hb dX11_land_37 (by decide) ?_
      have hP9 := hP.sub (ws' := (vX11_land cI cZ h h_all h_has h_line h_act h_pile h_comes h_leaves h_tried h_met f_size f_next f_where f_token f_number f_sign f_word f_wrong f_open f_lines f_acts r_all)) [0, 1] rfl
      have hD9 := hD.sub (ws' := (vX11_land cI cZ h h_all h_has h_line h_act h_pile h_comes h_leaves h_tried h_met f_size f_next f_where f_token f_number f_sign f_word f_wrong f_open f_lines f_acts r_all)) [0, 1] (by decide) rfl
      exact W.zret (v := (0 : Int32)) (ty := .boolean) hx hb hr rfl (fun t ht hW => ⟨⟨(0 : Int32), r_all, rfl, hw, by rw [ht]; exact hP9, va_K.moved hW.alike hK, hD9⟩, hS.F ht⟩) hS.2.2 dX11_land_38
set_option maxHeartbeats 4000000 in
set_option maxRecDepth 100000 in
theorem tX11_land_e {p : Program} {l : Launch} {e : Env} {s : State} {m : MethodId} {args : Array Value} {below : List Frame} {meth : Method} {c : Code} {dC : Nat → ClassId} {dI : Nat → Nat → Nat} {cI cZ cO cW : ClassId} {A : Nat → Prop} {h h_all h_has h_line h_act h_pile h_comes h_leaves h_tried h_met : Nat} {f_size f_next f_where f_token f_number f_sign f_word f_wrong f_open f_lines f_acts : Int32} {Q : Int32 → (Nat → Int32) → Prop} (hC : Cx p s m args meth c cX11_land (some .boolean) 5 GW RX11) (hK : va_K (dC, dI) vwCl (tysA cI cZ cO cW) s) (hA : ∀ q : Nat, s.heap.size ≤ q → A q) :
    ∀ (x1 : Int32) (x2 : Int32) (x3 : Int32) (r_all : Nat → Int32) (H : Heap) (locs : List Loc) (ls : Array Slot), wX11_land Q x1 x2 x3 r_all → va_P (dC, dI) vwCl (vX11_land cI cZ h h_all h_has h_line h_act h_pile h_comes h_leaves h_tried h_met f_size f_next f_where f_token f_number f_sign f_word f_wrong f_open f_lines f_acts r_all) H → va_D A (vX11_land cI cZ h h_all h_has h_line h_act h_pile h_comes h_leaves h_tried h_met f_size f_next f_where f_token f_number f_sign f_word f_wrong f_open f_lines f_acts r_all) → va_S A s.heap H locs → lv_has ls 5 [(0, .ref h), (1, .int x1), (2, .int x2), (3, .int x3)] → W p l e rmX11_land s m args below meth c H locs 0 0 (MQ below (qX11_land dC dI cI cZ cO cW h h_all h_has h_line h_act h_pile h_comes h_leaves h_tried h_met f_size f_next f_where f_token f_number f_sign f_word f_wrong f_open f_lines f_acts Q A) args s 0 0 A) (F0 m 0 ls []) := by
  obtain ⟨hx, hb, hr, hml, hown, hts, hlocks⟩ := id hC
  intro x1 x2 x3 r_all H locs ls hw hP hD hS hl
  refine lv_aload_n hx hb dX11_land_0 rfl (lv_at hl 0 rfl) ?_
  refine lv_iload_n hx hb dX11_land_1 rfl (lv_at hl 1 rfl) ?_
  refine lv_iload_n hx hb dX11_land_2 rfl (lv_at hl 2 rfl) ?_
  have hPc := hP.sub (ws' := [(h, .inr (10, [.ref h_all, .ref h_has, .int f_size, .int f_next, .int f_where, .int f_token, .int f_number, .int f_sign, .int f_word, .int f_wrong, .int f_open, .int f_lines, .int f_acts, .ref h_line, .ref h_act, .ref h_pile, .ref h_comes, .ref h_leaves, .ref h_tried, .ref h_met])), (h_all, .inl (cI, 53700, .inl r_all))]) [0, 1] rfl
  have hDc := hD.sub (ws' := [(h, .inr (10, [.ref h_all, .ref h_has, .int f_size, .int f_next, .int f_where, .int f_token, .int f_number, .int f_sign, .int f_word, .int f_wrong, .int f_open, .int f_lines, .int f_acts, .ref h_line, .ref h_act, .ref h_pile, .ref h_comes, .ref h_leaves, .ref h_tried, .ref h_met])), (h_all, .inl (cI, 53700, .inl r_all))]) [0, 1] (by decide) rfl
  have hFc := va_free (wc := [(h, .inr (10, [.ref h_all, .ref h_has, .int f_size, .int f_next, .int f_where, .int f_token, .int f_number, .int f_sign, .int f_word, .int f_wrong, .int f_open, .int f_lines, .int f_acts, .ref h_line, .ref h_act, .ref h_pile, .ref h_comes, .ref h_leaves, .ref h_tried, .ref h_met])), (h_all, .inl (cI, 53700, .inl r_all))]) hD hS hA [0, 1] rfl
  refine va_calli (va_runV (As := [.int x1, .int x2]) (rest := []) ⟨hx, hb, hml, hown, hts⟩ (kX11_isCell l dC dI cI cZ cO cW h h_all h_has h_line h_act h_pile h_comes h_leaves h_tried h_met H.size f_size f_next f_where f_token f_number f_sign f_word f_wrong f_open f_lines f_acts r_all x1 x2 _ hw) (cwV 2 hts (gV gw_631 gw_632 gw_633 gw_622 (gM gw_627)) rfl rfl rfl (by decide +kernel) ⟨Nat.le_of_ble_eq_true rfl, Nat.le_of_ble_eq_true rfl⟩) (pv_of hPc hK hDc (va_recv hK hPc (ci := 10) (q0 := 0) rfl rfl)) rfl rfl hl.1 rfl (lv_room (Nat.le_of_ble_eq_true rfl)) dX11_land_3 ⟨Nat.zero_le _, Nat.zero_le _⟩) hS (fun q _ h => hFc q h) hFc (fun r_14 u t H locs ht hvm hw hB hz1 hk1 hS => ?_)
  obtain ⟨hP, hD⟩ := af_join (wr := []) (w1 := [(h, .inr (10, [.ref h_all, .ref h_has, .int f_size, .int f_next, .int f_where, .int f_token, .int f_number, .int f_sign, .int f_word, .int f_wrong, .int f_open, .int f_lines, .int f_acts, .ref h_line, .ref h_act, .ref h_pile, .ref h_comes, .ref h_leaves, .ref h_tried, .ref h_met])), (h_all, .inl (cI, 53700, .inl r_all))]) hB ht hP hD [0, 1] [] rfl rfl (by decide) (by decide) hk1 hFc
  have hP : va_P (dC, dI) vwCl [(h, .inr (10, [.ref h_all, .ref h_has, .int f_size, .int f_next, .int f_where, .int f_token, .int f_number, .int f_sign, .int f_word, .int f_wrong, .int f_open, .int f_lines, .int f_acts, .ref h_line, .ref h_act, .ref h_pile, .ref h_comes, .ref h_leaves, .ref h_tried, .ref h_met])), (h_all, .inl (cI, 53700, .inl r_all))] _ := hP
  have hD : va_D A [(h, .inr (10, [.ref h_all, .ref h_has, .int f_size, .int f_next, .int f_where, .int f_token, .int f_number, .int f_sign, .int f_word, .int f_wrong, .int f_open, .int f_lines, .int f_acts, .ref h_line, .ref h_act, .ref h_pile, .ref h_comes, .ref h_leaves, .ref h_tried, .ref h_met])), (h_all, .inl (cI, 53700, .inl r_all))] := hD
  refine lv_if_eq (tgt := 37) hx hb dX11_land_6 (by decide) (fun c_15 => ?_) (fun c_15 => ?_)
  · have hw := hw.1 c_15
    refine lv_iconst (v := (0 : Int32)) hx hb dX11_land_37 (by decide) ?_
    have hP9 := hP.sub (ws' := (vX11_land cI cZ h h_all h_has h_line h_act h_pile h_comes h_leaves h_tried h_met f_size f_next f_where f_token f_number f_sign f_word f_wrong f_open f_lines f_acts r_all)) [0, 1] rfl
    have hD9 := hD.sub (ws' := (vX11_land cI cZ h h_all h_has h_line h_act h_pile h_comes h_leaves h_tried h_met f_size f_next f_where f_token f_number f_sign f_word f_wrong f_open f_lines f_acts r_all)) [0, 1] (by decide) rfl
    exact W.zret (v := (0 : Int32)) (ty := .boolean) hx hb hr rfl (fun t ht hW => ⟨⟨(0 : Int32), r_all, rfl, hw, by rw [ht]; exact hP9, va_K.moved hW.alike hK, hD9⟩, hS.F ht⟩) hS.2.2 dX11_land_38
  · have hw := hw.2 c_15
    refine lv_aload_n hx hb dX11_land_9 rfl (lv_at hl 0 rfl) ?_
    refine lv_iload_n hx hb dX11_land_10 rfl (lv_at hl 1 rfl) ?_
    refine lv_iload_n hx hb dX11_land_11 rfl (lv_at hl 2 rfl) ?_
    refine lv_iconst (v := (0 : Int32)) hx hb dX11_land_12 (by decide) ?_
    have hPc := hP.sub (ws' := [(h, .inr (10, [.ref h_all, .ref h_has, .int f_size, .int f_next, .int f_where, .int f_token, .int f_number, .int f_sign, .int f_word, .int f_wrong, .int f_open, .int f_lines, .int f_acts, .ref h_line, .ref h_act, .ref h_pile, .ref h_comes, .ref h_leaves, .ref h_tried, .ref h_met])), (h_all, .inl (cI, 53700, .inl r_all))]) [0, 1] rfl
    have hDc := hD.sub (ws' := [(h, .inr (10, [.ref h_all, .ref h_has, .int f_size, .int f_next, .int f_where, .int f_token, .int f_number, .int f_sign, .int f_word, .int f_wrong, .int f_open, .int f_lines, .int f_acts, .ref h_line, .ref h_act, .ref h_pile, .ref h_comes, .ref h_leaves, .ref h_tried, .ref h_met])), (h_all, .inl (cI, 53700, .inl r_all))]) [0, 1] (by decide) rfl
    have hFc := va_free (wc := [(h, .inr (10, [.ref h_all, .ref h_has, .int f_size, .int f_next, .int f_where, .int f_token, .int f_number, .int f_sign, .int f_word, .int f_wrong, .int f_open, .int f_lines, .int f_acts, .ref h_line, .ref h_act, .ref h_pile, .ref h_comes, .ref h_leaves, .ref h_tried, .ref h_met])), (h_all, .inl (cI, 53700, .inl r_all))]) hD hS hA [0, 1] rfl
    refine va_calli (va_runV (As := [.int x1, .int x2, .int (0 : Int32)]) (rest := []) ⟨hx, hb, hml, hown, hts⟩ (kX11_of l dC dI cI cZ cO cW h h_all h_has h_line h_act h_pile h_comes h_leaves h_tried h_met H.size f_size f_next f_where f_token f_number f_sign f_word f_wrong f_open f_lines f_acts r_all x1 x2 (0 : Int32) _ hw) (cwV 3 hts (gV gw_634 gw_635 gw_636 gw_622 (gM gw_628)) rfl rfl rfl (by decide +kernel) ⟨Nat.le_of_ble_eq_true rfl, Nat.le_of_ble_eq_true rfl⟩) (pv_of hPc hK hDc (va_recv hK hPc (ci := 10) (q0 := 0) rfl rfl)) rfl rfl hl.1 rfl (lv_room (Nat.le_of_ble_eq_true rfl)) dX11_land_13 ⟨Nat.zero_le _, Nat.zero_le _⟩) hS (fun q _ h => hFc q h) hFc (fun r_16 u t H locs ht hvm hw hB hz1 hk1 hS => ?_)
    obtain ⟨hP, hD⟩ := af_join (wr := []) (w1 := [(h, .inr (10, [.ref h_all, .ref h_has, .int f_size, .int f_next, .int f_where, .int f_token, .int f_number, .int f_sign, .int f_word, .int f_wrong, .int f_open, .int f_lines, .int f_acts, .ref h_line, .ref h_act, .ref h_pile, .ref h_comes, .ref h_leaves, .ref h_tried, .ref h_met])), (h_all, .inl (cI, 53700, .inl r_all))]) hB ht hP hD [0, 1] [] rfl rfl (by decide) (by decide) hk1 hFc
    have hP : va_P (dC, dI) vwCl [(h, .inr (10, [.ref h_all, .ref h_has, .int f_size, .int f_next, .int f_where, .int f_token, .int f_number, .int f_sign, .int f_word, .int f_wrong, .int f_open, .int f_lines, .int f_acts, .ref h_line, .ref h_act, .ref h_pile, .ref h_comes, .ref h_leaves, .ref h_tried, .ref h_met])), (h_all, .inl (cI, 53700, .inl r_all))] _ := hP
    have hD : va_D A [(h, .inr (10, [.ref h_all, .ref h_has, .int f_size, .int f_next, .int f_where, .int f_token, .int f_number, .int f_sign, .int f_word, .int f_wrong, .int f_open, .int f_lines, .int f_acts, .ref h_line, .ref h_act, .ref h_pile, .ref h_comes, .ref h_leaves, .ref h_tried, .ref h_met])), (h_all, .inl (cI, 53700, .inl r_all))] := hD
    refine lv_if_ne (tgt := 23) hx hb dX11_land_16 (by decide) (fun c_17 => ?_) (fun c_17 => ?_)
    · have hw := hw.1 c_17
      refine lv_iconst (v := (0 : Int32)) hx hb dX11_land_23 (by decide) ?_
      exact tX11_land_24 hC hK hA  x1 x2 x3 (0 : Int32) r_all _ _ ls hw (hP.sub [0, 1] rfl) (hD.sub [0, 1] (by decide) rfl) hS (lv_sub hl [0, 1, 2, 3] rfl)
    · have hw := hw.2 c_17
      refine lv_iconst (v := (1 : Int32)) hx hb dX11_land_19 (by decide) ?_
      refine lv_goto (tgt := 24) hx hb dX11_land_20 (by decide) ?_
      exact tX11_land_24 hC hK hA  x1 x2 x3 (1 : Int32) r_all _ _ ls hw (hP.sub [0, 1] rfl) (hD.sub [0, 1] (by decide) rfl) hS (lv_sub hl [0, 1, 2, 3] rfl)
set_option maxHeartbeats 4000000 in
set_option maxRecDepth 100000 in
theorem kX11_land (l : Launch) (dC : Nat → ClassId) (dI : Nat → Nat → Nat) (cI cZ cO cW : ClassId) (h h_all h_has h_line h_act h_pile h_comes h_leaves h_tried h_met : Nat)  (sz : Nat) (f_size : Int32) (f_next : Int32) (f_where : Int32) (f_token : Int32) (f_number : Int32) (f_sign : Int32) (f_word : Int32) (f_wrong : Int32) (f_open : Int32) (f_lines : Int32) (f_acts : Int32) (r_all : Nat → Int32) (x1 : Int32) (x2 : Int32) (x3 : Int32) (Q : Int32 → (Nat → Int32) → Prop) (hw : wX11_land Q x1 x2 x3 r_all) : Met l yX11_land zsX11_land rmX11_land (va_Pc [.ref h, .int x1, .int x2, .int x3] (fun U => U.heap.size = sz ∧ va_P (dC, dI) vwCl (vX11_land cI cZ h h_all h_has h_line h_act h_pile h_comes h_leaves h_tried h_met f_size f_next f_where f_token f_number f_sign f_word f_wrong f_open f_lines f_acts r_all) U.heap ∧ va_K (dC, dI) vwCl (tysA cI cZ cO cW) U ∧ va_D (fun _ => True) (vX11_land cI cZ h h_all h_has h_line h_act h_pile h_comes h_leaves h_tried h_met f_size f_next f_where f_token f_number f_sign f_word f_wrong f_open f_lines f_acts r_all))) (qX11_land dC dI cI cZ cO cW h h_all h_has h_line h_act h_pile h_comes h_leaves h_tried h_met f_size f_next f_where f_token f_number f_sign f_word f_wrong f_open f_lines f_acts Q (va_A (vX11_land cI cZ h h_all h_has h_line h_act h_pile h_comes h_leaves h_tried h_met f_size f_next f_where f_token f_number f_sign f_word f_wrong f_open f_lines f_acts r_all) sz)) 0 0 (va_A (vX11_land cI cZ h h_all h_has h_line h_act h_pile h_comes h_leaves h_tried h_met f_size f_next f_where f_token f_number f_sign f_word f_wrong f_open f_lines f_acts r_all) sz) := by
  refine Met.ofW (cc := cX11_land) (maxL := 5) (ret := (some .boolean)) (by decide) rfl ?_
  intro p e s m args below meth c s₁ B hml hv
  obtain ⟨rfl, hsz, hP, hK, hD0⟩ := hv
  subst hsz
  have hC : Cx p s m ([.ref h, .int x1, .int x2, .int x3] : List Value).toArray meth c cX11_land (some .boolean) 5 GW RX11 := ⟨B.exec, B.bytes, B.returns, hml, findClass_of_methodNamed B.named, fun w h => atoms_spec (ws := zsX11_land) B.pre w (List.mem_cons_of_mem _ h), B.notSynchronized⟩
  have hD := hD0.self (sz := s.heap.size)
  generalize hAe : va_A (vX11_land cI cZ h h_all h_has h_line h_act h_pile h_comes h_leaves h_tried h_met f_size f_next f_where f_token f_number f_sign f_word f_wrong f_open f_lines f_acts r_all) s.heap.size = A at hD ⊢
  have hA : ∀ q : Nat, s.heap.size ≤ q → A q := fun q h => by rw [← hAe]; exact Or.inr h
  have hl := lv_entry ([.ref h, .int x1, .int x2, .int x3]) (n := 5) (Nat.le_of_ble_eq_true rfl)
  rw [lg_entry_eq]
  generalize (lg_sl ([.ref h, .int x1, .int x2, .int x3]) ++ List.replicate (5 - (lg_sl ([.ref h, .int x1, .int x2, .int x3])).length) Slot.unset).toArray = ls at hl ⊢
  exact tX11_land_e hC hK hA x1 x2 x3 r_all _ _ ls hw hP hD va_S.rf hl

/-! X11_ice -/
def wX11_ice_100 (Q : Int32 → (Nat → Int32) → Prop)   (s1 : Int32) (s2 : Int32) (s3 : Int32) (s4 : Int32) (r_all : (Nat → Int32)) : Prop :=
  (wX11_sets (fun r_all_1 => (Q (1 : Int32) r_all_1)) s1 s2 s3 s4 r_all)
def wX11_ice (Q : Int32 → (Nat → Int32) → Prop) (x1 : Int32) (x2 : Int32) (x3 : Int32) (x4 : Int32) (x5 : Int32) (r_all : Nat → Int32) : Prop :=
  (wX11_isSea (fun r_2 => ((r_2 = 0 → (Q (0 : Int32) r_all)) ∧ (¬ r_2 = 0 → (wX11_isIn (fun r_4 => ((r_4 = 0 → (Q (0 : Int32) r_all)) ∧ (¬ r_4 = 0 → (wX11_isIn (fun r_6 => ((¬ r_6 = 0 → (vp_in (4 : Int32) 53700 ∧ (wX11_of (fun r_9 => (wX11_of (fun r_10 => (vp_in (4 : Int32) 53700 ∧ (wX11_sets (fun r_all_12 => (wX11_sets (fun r_all_13 => (wX11_sets (fun r_all_14 => ((x5 = 0 → (wX11_ice_100 Q x1 x2 (4 : Int32) (0 : Int32) r_all_14)) ∧ (¬ x5 = 0 → (wX11_ice_100 Q x1 x2 (4 : Int32) (1 : Int32) r_all_14)))) x1 x2 (3 : Int32) (-1 : Int32) r_all_13)) x1 x2 (2 : Int32) x4 r_all_12)) x1 x2 (1 : Int32) x3 (upd r_all (4 : Int32).toNatClampNeg ((r_all (4 : Int32).toNatClampNeg) + (((x3 + x4) - r_9) - r_10)))))) x1 x2 (2 : Int32) r_all)) x1 x2 (1 : Int32) r_all))) ∧ (r_6 = 0 → (Q (0 : Int32) r_all)))) x4 (0 : Int32) (100 : Int32))))) x3 (0 : Int32) (100 : Int32))))) x1 x2 r_all)
abbrev vX11_ice (cI cZ : ClassId) (h h_all h_has h_line h_act h_pile h_comes h_leaves h_tried h_met : Nat) (f_size : Int32) (f_next : Int32) (f_where : Int32) (f_token : Int32) (f_number : Int32) (f_sign : Int32) (f_word : Int32) (f_wrong : Int32) (f_open : Int32) (f_lines : Int32) (f_acts : Int32) (r_all : Nat → Int32) : va_W := [(h, .inr (10, [.ref h_all, .ref h_has, .int f_size, .int f_next, .int f_where, .int f_token, .int f_number, .int f_sign, .int f_word, .int f_wrong, .int f_open, .int f_lines, .int f_acts, .ref h_line, .ref h_act, .ref h_pile, .ref h_comes, .ref h_leaves, .ref h_tried, .ref h_met])), (h_all, .inl (cI, 53700, .inl r_all))]
abbrev rmX11_ice : Room := { frames := 3, cells := 0, slots := 0, locals := 66 }
abbrev qX11_ice (dC : Nat → ClassId) (dI : Nat → Nat → Nat) (cI cZ cO cW : ClassId) (h h_all h_has h_line h_act h_pile h_comes h_leaves h_tried h_met : Nat) (f_size : Int32) (f_next : Int32) (f_where : Int32) (f_token : Int32) (f_number : Int32) (f_sign : Int32) (f_word : Int32) (f_wrong : Int32) (f_open : Int32) (f_lines : Int32) (f_acts : Int32) (Q : Int32 → (Nat → Int32) → Prop) (A : Nat → Prop) : Array Value → State → Outcome → State → Prop := va_Qi (fun (r : Int32) (u : (Nat → Int32)) => Q r u) (fun (u : (Nat → Int32)) (t : State) => va_P (dC, dI) vwCl (vX11_ice cI cZ h h_all h_has h_line h_act h_pile h_comes h_leaves h_tried h_met f_size f_next f_where f_token f_number f_sign f_word f_wrong f_open f_lines f_acts u) t.heap ∧ va_K (dC, dI) vwCl (tysA cI cZ cO cW) t ∧ va_D A (vX11_ice cI cZ h h_all h_has h_line h_act h_pile h_comes h_leaves h_tried h_met f_size f_next f_where f_token f_number f_sign f_word f_wrong f_open f_lines f_acts u)) A
def zsX11_ice : List Cond := Cond.code yX11_ice cX11_ice 6 (some .boolean) :: GW
set_option maxHeartbeats 4000000 in
set_option maxRecDepth 100000 in
theorem tX11_ice_100 {p : Program} {l : Launch} {e : Env} {s : State} {m : MethodId} {args : Array Value} {below : List Frame} {meth : Method} {c : Code} {dC : Nat → ClassId} {dI : Nat → Nat → Nat} {cI cZ cO cW : ClassId} {A : Nat → Prop} {h h_all h_has h_line h_act h_pile h_comes h_leaves h_tried h_met : Nat} {f_size f_next f_where f_token f_number f_sign f_word f_wrong f_open f_lines f_acts : Int32} {Q : Int32 → (Nat → Int32) → Prop}  (hC : Cx p s m args meth c cX11_ice (some .boolean) 6 GW RX11) (hK : va_K (dC, dI) vwCl (tysA cI cZ cO cW) s) (hA : ∀ q : Nat, s.heap.size ≤ q → A q) :
    ∀ (s1 : Int32) (s2 : Int32) (s3 : Int32) (s4 : Int32) (r_all : (Nat → Int32)) (H : Heap) (locs : List Loc) (ls : Array Slot), wX11_ice_100 Q  s1 s2 s3 s4 r_all → va_P (dC, dI) vwCl (vX11_ice cI cZ h h_all h_has h_line h_act h_pile h_comes h_leaves h_tried h_met f_size f_next f_where f_token f_number f_sign f_word f_wrong f_open f_lines f_acts r_all) H → va_D A (vX11_ice cI cZ h h_all h_has h_line h_act h_pile h_comes h_leaves h_tried h_met f_size f_next f_where f_token f_number f_sign f_word f_wrong f_open f_lines f_acts r_all) → va_S A s.heap H locs → lv_has ls 6 [] → W p l e rmX11_ice s m args below meth c H locs 0 0 (MQ below (qX11_ice dC dI cI cZ cO cW h h_all h_has h_line h_act h_pile h_comes h_leaves h_tried h_met f_size f_next f_where f_token f_number f_sign f_word f_wrong f_open f_lines f_acts Q A) args s 0 0 A) (F0 m 100 ls [.int s4, .int s3, .int s2, .int s1, .ref h]) := by
  obtain ⟨hx, hb, hr, hml, hown, hts, hlocks⟩ := id hC
  intro s1 s2 s3 s4 r_all H locs ls hw hP hD hS hl
  have hPc := hP.sub (ws' := [(h, .inr (10, [.ref h_all, .ref h_has, .int f_size, .int f_next, .int f_where, .int f_token, .int f_number, .int f_sign, .int f_word, .int f_wrong, .int f_open, .int f_lines, .int f_acts, .ref h_line, .ref h_act, .ref h_pile, .ref h_comes, .ref h_leaves, .ref h_tried, .ref h_met])), (h_all, .inl (cI, 53700, .inl r_all))]) [0, 1] rfl
  have hDc := hD.sub (ws' := [(h, .inr (10, [.ref h_all, .ref h_has, .int f_size, .int f_next, .int f_where, .int f_token, .int f_number, .int f_sign, .int f_word, .int f_wrong, .int f_open, .int f_lines, .int f_acts, .ref h_line, .ref h_act, .ref h_pile, .ref h_comes, .ref h_leaves, .ref h_tried, .ref h_met])), (h_all, .inl (cI, 53700, .inl r_all))]) [0, 1] (by decide) rfl
  have hFc := va_free (wc := [(h, .inr (10, [.ref h_all, .ref h_has, .int f_size, .int f_next, .int f_where, .int f_token, .int f_number, .int f_sign, .int f_word, .int f_wrong, .int f_open, .int f_lines, .int f_acts, .ref h_line, .ref h_act, .ref h_pile, .ref h_comes, .ref h_leaves, .ref h_tried, .ref h_met])), (h_all, .inl (cI, 53700, .inl r_all))]) hD hS hA [0, 1] rfl
  refine va_callv (va_runV (As := [.int s1, .int s2, .int s3, .int s4]) (rest := []) ⟨hx, hb, hml, hown, hts⟩ (kX11_sets l dC dI cI cZ cO cW h h_all h_has h_line h_act h_pile h_comes h_leaves h_tried h_met H.size f_size f_next f_where f_token f_number f_sign f_word f_wrong f_open f_lines f_acts r_all s1 s2 s3 s4 _ hw) (cwV 4 hts (gV gw_646 gw_647 gw_648 gw_622 (gM gw_629)) rfl rfl rfl (by decide +kernel) ⟨Nat.le_of_ble_eq_true rfl, Nat.le_of_ble_eq_true rfl⟩) (pv_of hPc hK hDc (va_recv hK hPc (ci := 10) (q0 := 0) rfl rfl)) rfl rfl hl.1 rfl (lv_room (Nat.le_of_ble_eq_true rfl)) dX11_ice_100 ⟨Nat.zero_le _, Nat.zero_le _⟩) hS (fun q _ h => hFc q h) hFc (fun u t H locs ht hvm hw hB hz1 hk1 hS => ?_)
  obtain ⟨r_all_1, rfl⟩ : ∃ z, z = u := ⟨_, rfl⟩
  obtain ⟨hP, hD⟩ := af_join (wr := []) (w1 := [(h, .inr (10, [.ref h_all, .ref h_has, .int f_size, .int f_next, .int f_where, .int f_token, .int f_number, .int f_sign, .int f_word, .int f_wrong, .int f_open, .int f_lines, .int f_acts, .ref h_line, .ref h_act, .ref h_pile, .ref h_comes, .ref h_leaves, .ref h_tried, .ref h_met])), (h_all, .inl (cI, 53700, .inl r_all_1))]) hB ht hP hD [0, 1] [] rfl rfl (by decide) (by decide) hk1 hFc
  have hP : va_P (dC, dI) vwCl [(h, .inr (10, [.ref h_all, .ref h_has, .int f_size, .int f_next, .int f_where, .int f_token, .int f_number, .int f_sign, .int f_word, .int f_wrong, .int f_open, .int f_lines, .int f_acts, .ref h_line, .ref h_act, .ref h_pile, .ref h_comes, .ref h_leaves, .ref h_tried, .ref h_met])), (h_all, .inl (cI, 53700, .inl r_all_1))] _ := hP
  have hD : va_D A [(h, .inr (10, [.ref h_all, .ref h_has, .int f_size, .int f_next, .int f_where, .int f_token, .int f_number, .int f_sign, .int f_word, .int f_wrong, .int f_open, .int f_lines, .int f_acts, .ref h_line, .ref h_act, .ref h_pile, .ref h_comes, .ref h_leaves, .ref h_tried, .ref h_met])), (h_all, .inl (cI, 53700, .inl r_all_1))] := hD
  refine lv_iconst (v := (1 : Int32)) hx hb dX11_ice_103 (by decide) ?_
  have hP9 := hP.sub (ws' := (vX11_ice cI cZ h h_all h_has h_line h_act h_pile h_comes h_leaves h_tried h_met f_size f_next f_where f_token f_number f_sign f_word f_wrong f_open f_lines f_acts r_all_1)) [0, 1] rfl
  have hD9 := hD.sub (ws' := (vX11_ice cI cZ h h_all h_has h_line h_act h_pile h_comes h_leaves h_tried h_met f_size f_next f_where f_token f_number f_sign f_word f_wrong f_open f_lines f_acts r_all_1)) [0, 1] (by decide) rfl
  exact W.zret (v := (1 : Int32)) (ty := .boolean) hx hb hr rfl (fun t ht hW => ⟨⟨(1 : Int32), r_all_1, rfl, hw, by rw [ht]; exact hP9, va_K.moved hW.alike hK, hD9⟩, hS.F ht⟩) hS.2.2 dX11_ice_104
set_option maxHeartbeats 4000000 in
set_option maxRecDepth 100000 in
theorem tX11_ice_e {p : Program} {l : Launch} {e : Env} {s : State} {m : MethodId} {args : Array Value} {below : List Frame} {meth : Method} {c : Code} {dC : Nat → ClassId} {dI : Nat → Nat → Nat} {cI cZ cO cW : ClassId} {A : Nat → Prop} {h h_all h_has h_line h_act h_pile h_comes h_leaves h_tried h_met : Nat} {f_size f_next f_where f_token f_number f_sign f_word f_wrong f_open f_lines f_acts : Int32} {Q : Int32 → (Nat → Int32) → Prop} (hC : Cx p s m args meth c cX11_ice (some .boolean) 6 GW RX11) (hK : va_K (dC, dI) vwCl (tysA cI cZ cO cW) s) (hA : ∀ q : Nat, s.heap.size ≤ q → A q) :
    ∀ (x1 : Int32) (x2 : Int32) (x3 : Int32) (x4 : Int32) (x5 : Int32) (r_all : Nat → Int32) (H : Heap) (locs : List Loc) (ls : Array Slot), wX11_ice Q x1 x2 x3 x4 x5 r_all → va_P (dC, dI) vwCl (vX11_ice cI cZ h h_all h_has h_line h_act h_pile h_comes h_leaves h_tried h_met f_size f_next f_where f_token f_number f_sign f_word f_wrong f_open f_lines f_acts r_all) H → va_D A (vX11_ice cI cZ h h_all h_has h_line h_act h_pile h_comes h_leaves h_tried h_met f_size f_next f_where f_token f_number f_sign f_word f_wrong f_open f_lines f_acts r_all) → va_S A s.heap H locs → lv_has ls 6 [(0, .ref h), (1, .int x1), (2, .int x2), (3, .int x3), (4, .int x4), (5, .int x5)] → W p l e rmX11_ice s m args below meth c H locs 0 0 (MQ below (qX11_ice dC dI cI cZ cO cW h h_all h_has h_line h_act h_pile h_comes h_leaves h_tried h_met f_size f_next f_where f_token f_number f_sign f_word f_wrong f_open f_lines f_acts Q A) args s 0 0 A) (F0 m 0 ls []) := by
  obtain ⟨hx, hb, hr, hml, hown, hts, hlocks⟩ := id hC
  intro x1 x2 x3 x4 x5 r_all H locs ls hw hP hD hS hl
  refine lv_aload_n hx hb dX11_ice_0 rfl (lv_at hl 0 rfl) ?_
  refine lv_iload_n hx hb dX11_ice_1 rfl (lv_at hl 1 rfl) ?_
  refine lv_iload_n hx hb dX11_ice_2 rfl (lv_at hl 2 rfl) ?_
  have hPc := hP.sub (ws' := [(h, .inr (10, [.ref h_all, .ref h_has, .int f_size, .int f_next, .int f_where, .int f_token, .int f_number, .int f_sign, .int f_word, .int f_wrong, .int f_open, .int f_lines, .int f_acts, .ref h_line, .ref h_act, .ref h_pile, .ref h_comes, .ref h_leaves, .ref h_tried, .ref h_met])), (h_all, .inl (cI, 53700, .inl r_all))]) [0, 1] rfl
  have hDc := hD.sub (ws' := [(h, .inr (10, [.ref h_all, .ref h_has, .int f_size, .int f_next, .int f_where, .int f_token, .int f_number, .int f_sign, .int f_word, .int f_wrong, .int f_open, .int f_lines, .int f_acts, .ref h_line, .ref h_act, .ref h_pile, .ref h_comes, .ref h_leaves, .ref h_tried, .ref h_met])), (h_all, .inl (cI, 53700, .inl r_all))]) [0, 1] (by decide) rfl
  have hFc := va_free (wc := [(h, .inr (10, [.ref h_all, .ref h_has, .int f_size, .int f_next, .int f_where, .int f_token, .int f_number, .int f_sign, .int f_word, .int f_wrong, .int f_open, .int f_lines, .int f_acts, .ref h_line, .ref h_act, .ref h_pile, .ref h_comes, .ref h_leaves, .ref h_tried, .ref h_met])), (h_all, .inl (cI, 53700, .inl r_all))]) hD hS hA [0, 1] rfl
  refine va_calli (va_runV (As := [.int x1, .int x2]) (rest := []) ⟨hx, hb, hml, hown, hts⟩ (kX11_isSea l dC dI cI cZ cO cW h h_all h_has h_line h_act h_pile h_comes h_leaves h_tried h_met H.size f_size f_next f_where f_token f_number f_sign f_word f_wrong f_open f_lines f_acts r_all x1 x2 _ hw) (cwV 2 hts (gV gw_651 gw_652 gw_653 gw_622 (gM gw_630)) rfl rfl rfl (by decide +kernel) ⟨Nat.le_of_ble_eq_true rfl, Nat.le_of_ble_eq_true rfl⟩) (pv_of hPc hK hDc (va_recv hK hPc (ci := 10) (q0 := 0) rfl rfl)) rfl rfl hl.1 rfl (lv_room (Nat.le_of_ble_eq_true rfl)) dX11_ice_3 ⟨Nat.zero_le _, Nat.zero_le _⟩) hS (fun q _ h => hFc q h) hFc (fun r_2 u t H locs ht hvm hw hB hz1 hk1 hS => ?_)
  obtain ⟨hP, hD⟩ := af_join (wr := []) (w1 := [(h, .inr (10, [.ref h_all, .ref h_has, .int f_size, .int f_next, .int f_where, .int f_token, .int f_number, .int f_sign, .int f_word, .int f_wrong, .int f_open, .int f_lines, .int f_acts, .ref h_line, .ref h_act, .ref h_pile, .ref h_comes, .ref h_leaves, .ref h_tried, .ref h_met])), (h_all, .inl (cI, 53700, .inl r_all))]) hB ht hP hD [0, 1] [] rfl rfl (by decide) (by decide) hk1 hFc
  have hP : va_P (dC, dI) vwCl [(h, .inr (10, [.ref h_all, .ref h_has, .int f_size, .int f_next, .int f_where, .int f_token, .int f_number, .int f_sign, .int f_word, .int f_wrong, .int f_open, .int f_lines, .int f_acts, .ref h_line, .ref h_act, .ref h_pile, .ref h_comes, .ref h_leaves, .ref h_tried, .ref h_met])), (h_all, .inl (cI, 53700, .inl r_all))] _ := hP
  have hD : va_D A [(h, .inr (10, [.ref h_all, .ref h_has, .int f_size, .int f_next, .int f_where, .int f_token, .int f_number, .int f_sign, .int f_word, .int f_wrong, .int f_open, .int f_lines, .int f_acts, .ref h_line, .ref h_act, .ref h_pile, .ref h_comes, .ref h_leaves, .ref h_tried, .ref h_met])), (h_all, .inl (cI, 53700, .inl r_all))] := hD
  refine lv_if_eq (tgt := 30) hx hb dX11_ice_6 (by decide) (fun c_3 => ?_) (fun c_3 => ?_)
  · have hw := hw.1 c_3
    refine lv_iconst (v := (0 : Int32)) hx hb dX11_ice_30 (by decide) ?_
    have hP9 := hP.sub (ws' := (vX11_ice cI cZ h h_all h_has h_line h_act h_pile h_comes h_leaves h_tried h_met f_size f_next f_where f_token f_number f_sign f_word f_wrong f_open f_lines f_acts r_all)) [0, 1] rfl
    have hD9 := hD.sub (ws' := (vX11_ice cI cZ h h_all h_has h_line h_act h_pile h_comes h_leaves h_tried h_met f_size f_next f_where f_token f_number f_sign f_word f_wrong f_open f_lines f_acts r_all)) [0, 1] (by decide) rfl
    exact W.zret (v := (0 : Int32)) (ty := .boolean) hx hb hr rfl (fun t ht hW => ⟨⟨(0 : Int32), r_all, rfl, hw, by rw [ht]; exact hP9, va_K.moved hW.alike hK, hD9⟩, hS.F ht⟩) hS.2.2 dX11_ice_31
  · have hw := hw.2 c_3
    refine lv_iload_n hx hb dX11_ice_9 rfl (lv_at hl 3 rfl) ?_
    refine lv_iconst (v := (0 : Int32)) hx hb dX11_ice_10 (by decide) ?_
    refine lv_bipush (v := (100 : Int32)) hx hb dX11_ice_11 (by decide) ?_
    have hPc := hP.sub (ws' := []) [] rfl
    have hDc := hD.sub (ws' := []) [] (by decide) rfl
    have hFc := va_free (wc := []) hD hS hA [] rfl
    refine va_calli (va_runS (As := [.int x3, .int (0 : Int32), .int (100 : Int32)]) (rest := []) ⟨hx, hb, hml, hown, hts⟩ (kX11_isIn l dC dI cI cZ cO cW H.size x3 (0 : Int32) (100 : Int32) _ hw) (va_cwS 3 hts (gS gw_625 gw_626 gw_622 (gM gw_623)) rfl rfl rfl (by decide +kernel) ⟨Nat.le_of_ble_eq_true rfl, Nat.le_of_ble_eq_true rfl⟩) (ps_of hPc hK hDc) rfl rfl hl.1 rfl (lv_room (Nat.le_of_ble_eq_true rfl)) dX11_ice_13 ⟨Nat.zero_le _, Nat.zero_le _⟩) hS (fun q _ h => hFc q h) hFc (fun r_4 u t H locs ht hvm hw hB hz1 hk1 hS => ?_)
    obtain ⟨hP, hD⟩ := af_join (wr := [(h, .inr (10, [.ref h_all, .ref h_has, .int f_size, .int f_next, .int f_where, .int f_token, .int f_number, .int f_sign, .int f_word, .int f_wrong, .int f_open, .int f_lines, .int f_acts, .ref h_line, .ref h_act, .ref h_pile, .ref h_comes, .ref h_leaves, .ref h_tried, .ref h_met])), (h_all, .inl (cI, 53700, .inl r_all))]) (w1 := []) hB ht hP hD [] [0, 1] rfl rfl (by decide) (by decide) hk1 hFc
    have hP : va_P (dC, dI) vwCl [(h, .inr (10, [.ref h_all, .ref h_has, .int f_size, .int f_next, .int f_where, .int f_token, .int f_number, .int f_sign, .int f_word, .int f_wrong, .int f_open, .int f_lines, .int f_acts, .ref h_line, .ref h_act, .ref h_pile, .ref h_comes, .ref h_leaves, .ref h_tried, .ref h_met])), (h_all, .inl (cI, 53700, .inl r_all))] _ := hP
    have hD : va_D A [(h, .inr (10, [.ref h_all, .ref h_has, .int f_size, .int f_next, .int f_where, .int f_token, .int f_number, .int f_sign, .int f_word, .int f_wrong, .int f_open, .int f_lines, .int f_acts, .ref h_line, .ref h_act, .ref h_pile, .ref h_comes, .ref h_leaves, .ref h_tried, .ref h_met])), (h_all, .inl (cI, 53700, .inl r_all))] := hD
    refine lv_if_eq (tgt := 30) hx hb dX11_ice_16 (by decide) (fun c_5 => ?_) (fun c_5 => ?_)
    · have hw := hw.1 c_5
      refine lv_iconst (v := (0 : Int32)) hx hb dX11_ice_30 (by decide) ?_
      have hP9 := hP.sub (ws' := (vX11_ice cI cZ h h_all h_has h_line h_act h_pile h_comes h_leaves h_tried h_met f_size f_next f_where f_token f_number f_sign f_word f_wrong f_open f_lines f_acts r_all)) [0, 1] rfl
      have hD9 := hD.sub (ws' := (vX11_ice cI cZ h h_all h_has h_line h_act h_pile h_comes h_leaves h_tried h_met f_size f_next f_where f_token f_number f_sign f_word f_wrong f_open f_lines f_acts r_all)) [0, 1] (by decide) rfl
      exact W.zret (v := (0 : Int32)) (ty := .boolean) hx hb hr rfl (fun t ht hW => ⟨⟨(0 : Int32), r_all, rfl, hw, by rw [ht]; exact hP9, va_K.moved hW.alike hK, hD9⟩, hS.F ht⟩) hS.2.2 dX11_ice_31
    · have hw := hw.2 c_5
      refine lv_iload hx hb dX11_ice_19 (lv_at hl 4 rfl) ?_
      refine lv_iconst (v := (0 : Int32)) hx hb dX11_ice_21 (by decide) ?_
      refine lv_bipush (v := (100 : Int32)) hx hb dX11_ice_22 (by decide) ?_
      have hPc := hP.sub (ws' := []) [] rfl
      have hDc := hD.sub (ws' := []) [] (by decide) rfl
      have hFc := va_free (wc := []) hD hS hA [] rfl
      refine va_calli (va_runS (As := [.int x4, .int (0 : Int32), .int (100 : Int32)]) (rest := []) ⟨hx, hb, hml, hown, hts⟩ (kX11_isIn l dC dI cI cZ cO cW H.size x4 (0 : Int32) (100 : Int32) _ hw) (va_cwS 3 hts (gS gw_625 gw_626 gw_622 (gM gw_623)) rfl rfl rfl (by decide +kernel) ⟨Nat.le_of_ble_eq_true rfl, Nat.le_of_ble_eq_true rfl⟩) (ps_of hPc hK hDc) rfl rfl hl.1 rfl (lv_room (Nat.le_of_ble_eq_true rfl)) dX11_ice_24 ⟨Nat.zero_le _, Nat.zero_le _⟩) hS (fun q _ h => hFc q h) hFc (fun r_6 u t H locs ht hvm hw hB hz1 hk1 hS => ?_)
      obtain ⟨hP, hD⟩ := af_join (wr := [(h, .inr (10, [.ref h_all, .ref h_has, .int f_size, .int f_next, .int f_where, .int f_token, .int f_number, .int f_sign, .int f_word, .int f_wrong, .int f_open, .int f_lines, .int f_acts, .ref h_line, .ref h_act, .ref h_pile, .ref h_comes, .ref h_leaves, .ref h_tried, .ref h_met])), (h_all, .inl (cI, 53700, .inl r_all))]) (w1 := []) hB ht hP hD [] [0, 1] rfl rfl (by decide) (by decide) hk1 hFc
      have hP : va_P (dC, dI) vwCl [(h, .inr (10, [.ref h_all, .ref h_has, .int f_size, .int f_next, .int f_where, .int f_token, .int f_number, .int f_sign, .int f_word, .int f_wrong, .int f_open, .int f_lines, .int f_acts, .ref h_line, .ref h_act, .ref h_pile, .ref h_comes, .ref h_leaves, .ref h_tried, .ref h_met])), (h_all, .inl (cI, 53700, .inl r_all))] _ := hP
      have hD : va_D A [(h, .inr (10, [.ref h_all, .ref h_has, .int f_size, .int f_next, .int f_where, .int f_token, .int f_number, .int f_sign, .int f_word, .int f_wrong, .int f_open, .int f_lines, .int f_acts, .ref h_line, .ref h_act, .ref h_pile, .ref h_comes, .ref h_leaves, .ref h_tried, .ref h_met])), (h_all, .inl (cI, 53700, .inl r_all))] := hD
      refine lv_if_ne (tgt := 32) hx hb dX11_ice_27 (by decide) (fun c_7 => ?_) (fun c_7 => ?_)
      · have hw := hw.1 c_7
        refine lv_aload_n hx hb dX11_ice_32 rfl (lv_at hl 0 rfl) ?_
        refine va_get (D := (dC, dI)) (ci := 10) (v := .ref h_all) (C := RX11) (T := TX11) (N := 20) hx hb hts gu_X11 hown hK hP 0 rfl rfl 0 (by decide) (hts _ gw_607) (fun _ h9 => h9) rfl dX11_ice_33 ?_
        refine lv_iconst (v := (4 : Int32)) hx hb dX11_ice_36 (by decide) ?_
        refine lv_dup2_11 hx hb dX11_ice_37 rfl rfl ?_
        obtain ⟨h_8, hw⟩ := hw
        refine va_iald hx hb hK hP 1 0 rfl rfl h_8 dX11_ice_38 ?_
        refine lv_iload_n hx hb dX11_ice_39 rfl (lv_at hl 3 rfl) ?_
        refine lv_iload hx hb dX11_ice_40 (lv_at hl 4 rfl) ?_
        refine lv_iadd hx hb dX11_ice_42 ?_
        refine lv_aload_n hx hb dX11_ice_43 rfl (lv_at hl 0 rfl) ?_
        refine lv_iload_n hx hb dX11_ice_44 rfl (lv_at hl 1 rfl) ?_
        refine lv_iload_n hx hb dX11_ice_45 rfl (lv_at hl 2 rfl) ?_
        refine lv_iconst (v := (1 : Int32)) hx hb dX11_ice_46 (by decide) ?_
        have hPc := hP.sub (ws' := [(h, .inr (10, [.ref h_all, .ref h_has, .int f_size, .int f_next, .int f_where, .int f_token, .int f_number, .int f_sign, .int f_word, .int f_wrong, .int f_open, .int f_lines, .int f_acts, .ref h_line, .ref h_act, .ref h_pile, .ref h_comes, .ref h_leaves, .ref h_tried, .ref h_met])), (h_all, .inl (cI, 53700, .inl r_all))]) [0, 1] rfl
        have hDc := hD.sub (ws' := [(h, .inr (10, [.ref h_all, .ref h_has, .int f_size, .int f_next, .int f_where, .int f_token, .int f_number, .int f_sign, .int f_word, .int f_wrong, .int f_open, .int f_lines, .int f_acts, .ref h_line, .ref h_act, .ref h_pile, .ref h_comes, .ref h_leaves, .ref h_tried, .ref h_met])), (h_all, .inl (cI, 53700, .inl r_all))]) [0, 1] (by decide) rfl
        have hFc := va_free (wc := [(h, .inr (10, [.ref h_all, .ref h_has, .int f_size, .int f_next, .int f_where, .int f_token, .int f_number, .int f_sign, .int f_word, .int f_wrong, .int f_open, .int f_lines, .int f_acts, .ref h_line, .ref h_act, .ref h_pile, .ref h_comes, .ref h_leaves, .ref h_tried, .ref h_met])), (h_all, .inl (cI, 53700, .inl r_all))]) hD hS hA [0, 1] rfl
        refine va_calli (va_runV (As := [.int x1, .int x2, .int (1 : Int32)]) (rest := [.int (x3 + x4), .int (r_all (4 : Int32).toNatClampNeg), .int (4 : Int32), .ref h_all]) ⟨hx, hb, hml, hown, hts⟩ (kX11_of l dC dI cI cZ cO cW h h_all h_has h_line h_act h_pile h_comes h_leaves h_tried h_met H.size f_size f_next f_where f_token f_number f_sign f_word f_wrong f_open f_lines f_acts r_all x1 x2 (1 : Int32) _ hw) (cwV 3 hts (gV gw_634 gw_635 gw_636 gw_622 (gM gw_628)) rfl rfl rfl (by decide +kernel) ⟨Nat.le_of_ble_eq_true rfl, Nat.le_of_ble_eq_true rfl⟩) (pv_of hPc hK hDc (va_recv hK hPc (ci := 10) (q0 := 0) rfl rfl)) rfl rfl hl.1 rfl (lv_room (Nat.le_of_ble_eq_true rfl)) dX11_ice_47 ⟨Nat.zero_le _, Nat.zero_le _⟩) hS (fun q _ h => hFc q h) hFc (fun r_9 u t H locs ht hvm hw hB hz1 hk1 hS => ?_)
        obtain ⟨hP, hD⟩ := af_join (wr := []) (w1 := [(h, .inr (10, [.ref h_all, .ref h_has, .int f_size, .int f_next, .int f_where, .int f_token, .int f_number, .int f_sign, .int f_word, .int f_wrong, .int f_open, .int f_lines, .int f_acts, .ref h_line, .ref h_act, .ref h_pile, .ref h_comes, .ref h_leaves, .ref h_tried, .ref h_met])), (h_all, .inl (cI, 53700, .inl r_all))]) hB ht hP hD [0, 1] [] rfl rfl (by decide) (by decide) hk1 hFc
        have hP : va_P (dC, dI) vwCl [(h, .inr (10, [.ref h_all, .ref h_has, .int f_size, .int f_next, .int f_where, .int f_token, .int f_number, .int f_sign, .int f_word, .int f_wrong, .int f_open, .int f_lines, .int f_acts, .ref h_line, .ref h_act, .ref h_pile, .ref h_comes, .ref h_leaves, .ref h_tried, .ref h_met])), (h_all, .inl (cI, 53700, .inl r_all))] _ := hP
        have hD : va_D A [(h, .inr (10, [.ref h_all, .ref h_has, .int f_size, .int f_next, .int f_where, .int f_token, .int f_number, .int f_sign, .int f_word, .int f_wrong, .int f_open, .int f_lines, .int f_acts, .ref h_line, .ref h_act, .ref h_pile, .ref h_comes, .ref h_leaves, .ref h_tried, .ref h_met])), (h_all, .inl (cI, 53700, .inl r_all))] := hD
        refine lv_isub hx hb dX11_ice_50 ?_
        refine lv_aload_n hx hb dX11_ice_51 rfl (lv_at hl 0 rfl) ?_
        refine lv_iload_n hx hb dX11_ice_52 rfl (lv_at hl 1 rfl) ?_
        refine lv_iload_n hx hb dX11_ice_53 rfl (lv_at hl 2 rfl) ?_
        refine lv_iconst (v := (2 : Int32)) hx hb dX11_ice_54 (by decide) ?_
        have hPc := hP.sub (ws' := [(h, .inr (10, [.ref h_all, .ref h_has, .int f_size, .int f_next, .int f_where, .int f_token, .int f_number, .int f_sign, .int f_word, .int f_wrong, .int f_open, .int f_lines, .int f_acts, .ref h_line, .ref h_act, .ref h_pile, .ref h_comes, .ref h_leaves, .ref h_tried, .ref h_met])), (h_all, .inl (cI, 53700, .inl r_all))]) [0, 1] rfl
        have hDc := hD.sub (ws' := [(h, .inr (10, [.ref h_all, .ref h_has, .int f_size, .int f_next, .int f_where, .int f_token, .int f_number, .int f_sign, .int f_word, .int f_wrong, .int f_open, .int f_lines, .int f_acts, .ref h_line, .ref h_act, .ref h_pile, .ref h_comes, .ref h_leaves, .ref h_tried, .ref h_met])), (h_all, .inl (cI, 53700, .inl r_all))]) [0, 1] (by decide) rfl
        have hFc := va_free (wc := [(h, .inr (10, [.ref h_all, .ref h_has, .int f_size, .int f_next, .int f_where, .int f_token, .int f_number, .int f_sign, .int f_word, .int f_wrong, .int f_open, .int f_lines, .int f_acts, .ref h_line, .ref h_act, .ref h_pile, .ref h_comes, .ref h_leaves, .ref h_tried, .ref h_met])), (h_all, .inl (cI, 53700, .inl r_all))]) hD hS hA [0, 1] rfl
        refine va_calli (va_runV (As := [.int x1, .int x2, .int (2 : Int32)]) (rest := [.int ((x3 + x4) - r_9), .int (r_all (4 : Int32).toNatClampNeg), .int (4 : Int32), .ref h_all]) ⟨hx, hb, hml, hown, hts⟩ (kX11_of l dC dI cI cZ cO cW h h_all h_has h_line h_act h_pile h_comes h_leaves h_tried h_met H.size f_size f_next f_where f_token f_number f_sign f_word f_wrong f_open f_lines f_acts r_all x1 x2 (2 : Int32) _ hw) (cwV 3 hts (gV gw_634 gw_635 gw_636 gw_622 (gM gw_628)) rfl rfl rfl (by decide +kernel) ⟨Nat.le_of_ble_eq_true rfl, Nat.le_of_ble_eq_true rfl⟩) (pv_of hPc hK hDc (va_recv hK hPc (ci := 10) (q0 := 0) rfl rfl)) rfl rfl hl.1 rfl (lv_room (Nat.le_of_ble_eq_true rfl)) dX11_ice_55 ⟨Nat.zero_le _, Nat.zero_le _⟩) hS (fun q _ h => hFc q h) hFc (fun r_10 u t H locs ht hvm hw hB hz1 hk1 hS => ?_)
        obtain ⟨hP, hD⟩ := af_join (wr := []) (w1 := [(h, .inr (10, [.ref h_all, .ref h_has, .int f_size, .int f_next, .int f_where, .int f_token, .int f_number, .int f_sign, .int f_word, .int f_wrong, .int f_open, .int f_lines, .int f_acts, .ref h_line, .ref h_act, .ref h_pile, .ref h_comes, .ref h_leaves, .ref h_tried, .ref h_met])), (h_all, .inl (cI, 53700, .inl r_all))]) hB ht hP hD [0, 1] [] rfl rfl (by decide) (by decide) hk1 hFc
        have hP : va_P (dC, dI) vwCl [(h, .inr (10, [.ref h_all, .ref h_has, .int f_size, .int f_next, .int f_where, .int f_token, .int f_number, .int f_sign, .int f_word, .int f_wrong, .int f_open, .int f_lines, .int f_acts, .ref h_line, .ref h_act, .ref h_pile, .ref h_comes, .ref h_leaves, .ref h_tried, .ref h_met])), (h_all, .inl (cI, 53700, .inl r_all))] _ := hP
        have hD : va_D A [(h, .inr (10, [.ref h_all, .ref h_has, .int f_size, .int f_next, .int f_where, .int f_token, .int f_number, .int f_sign, .int f_word, .int f_wrong, .int f_open, .int f_lines, .int f_acts, .ref h_line, .ref h_act, .ref h_pile, .ref h_comes, .ref h_leaves, .ref h_tried, .ref h_met])), (h_all, .inl (cI, 53700, .inl r_all))] := hD
        refine lv_isub hx hb dX11_ice_58 ?_
        refine lv_iadd hx hb dX11_ice_59 ?_
        obtain ⟨h_11, hw⟩ := hw
        refine va_iast hx hb hK hP hD hS 1 0 rfl rfl h_11 dX11_ice_60 (fun H locs hP hD hS => ?_)
        have hP : va_P (dC, dI) vwCl [(h, .inr (10, [.ref h_all, .ref h_has, .int f_size, .int f_next, .int f_where, .int f_token, .int f_number, .int f_sign, .int f_word, .int f_wrong, .int f_open, .int f_lines, .int f_acts, .ref h_line, .ref h_act, .ref h_pile, .ref h_comes, .ref h_leaves, .ref h_tried, .ref h_met])), (h_all, .inl (cI, 53700, .inl (upd r_all (4 : Int32).toNatClampNeg ((r_all (4 : Int32).toNatClampNeg) + (((x3 + x4) - r_9) - r_10)))))] _ := hP
        have hD : va_D A [(h, .inr (10, [.ref h_all, .ref h_has, .int f_size, .int f_next, .int f_where, .int f_token, .int f_number, .int f_sign, .int f_word, .int f_wrong, .int f_open, .int f_lines, .int f_acts, .ref h_line, .ref h_act, .ref h_pile, .ref h_comes, .ref h_leaves, .ref h_tried, .ref h_met])), (h_all, .inl (cI, 53700, .inl (upd r_all (4 : Int32).toNatClampNeg ((r_all (4 : Int32).toNatClampNeg) + (((x3 + x4) - r_9) - r_10)))))] := hD
        refine lv_aload_n hx hb dX11_ice_61 rfl (lv_at hl 0 rfl) ?_
        refine lv_iload_n hx hb dX11_ice_62 rfl (lv_at hl 1 rfl) ?_
        refine lv_iload_n hx hb dX11_ice_63 rfl (lv_at hl 2 rfl) ?_
        refine lv_iconst (v := (1 : Int32)) hx hb dX11_ice_64 (by decide) ?_
        refine lv_iload_n hx hb dX11_ice_65 rfl (lv_at hl 3 rfl) ?_
        have hPc := hP.sub (ws' := [(h, .inr (10, [.ref h_all, .ref h_has, .int f_size, .int f_next, .int f_where, .int f_token, .int f_number, .int f_sign, .int f_word, .int f_wrong, .int f_open, .int f_lines, .int f_acts, .ref h_line, .ref h_act, .ref h_pile, .ref h_comes, .ref h_leaves, .ref h_tried, .ref h_met])), (h_all, .inl (cI, 53700, .inl (upd r_all (4 : Int32).toNatClampNeg ((r_all (4 : Int32).toNatClampNeg) + (((x3 + x4) - r_9) - r_10)))))]) [0, 1] rfl
        have hDc := hD.sub (ws' := [(h, .inr (10, [.ref h_all, .ref h_has, .int f_size, .int f_next, .int f_where, .int f_token, .int f_number, .int f_sign, .int f_word, .int f_wrong, .int f_open, .int f_lines, .int f_acts, .ref h_line, .ref h_act, .ref h_pile, .ref h_comes, .ref h_leaves, .ref h_tried, .ref h_met])), (h_all, .inl (cI, 53700, .inl (upd r_all (4 : Int32).toNatClampNeg ((r_all (4 : Int32).toNatClampNeg) + (((x3 + x4) - r_9) - r_10)))))]) [0, 1] (by decide) rfl
        have hFc := va_free (wc := [(h, .inr (10, [.ref h_all, .ref h_has, .int f_size, .int f_next, .int f_where, .int f_token, .int f_number, .int f_sign, .int f_word, .int f_wrong, .int f_open, .int f_lines, .int f_acts, .ref h_line, .ref h_act, .ref h_pile, .ref h_comes, .ref h_leaves, .ref h_tried, .ref h_met])), (h_all, .inl (cI, 53700, .inl (upd r_all (4 : Int32).toNatClampNeg ((r_all (4 : Int32).toNatClampNeg) + (((x3 + x4) - r_9) - r_10)))))]) hD hS hA [0, 1] rfl
        refine va_callv (va_runV (As := [.int x1, .int x2, .int (1 : Int32), .int x3]) (rest := []) ⟨hx, hb, hml, hown, hts⟩ (kX11_sets l dC dI cI cZ cO cW h h_all h_has h_line h_act h_pile h_comes h_leaves h_tried h_met H.size f_size f_next f_where f_token f_number f_sign f_word f_wrong f_open f_lines f_acts (upd r_all (4 : Int32).toNatClampNeg ((r_all (4 : Int32).toNatClampNeg) + (((x3 + x4) - r_9) - r_10))) x1 x2 (1 : Int32) x3 _ hw) (cwV 4 hts (gV gw_646 gw_647 gw_648 gw_622 (gM gw_629)) rfl rfl rfl (by decide +kernel) ⟨Nat.le_of_ble_eq_true rfl, Nat.le_of_ble_eq_true rfl⟩) (pv_of hPc hK hDc (va_recv hK hPc (ci := 10) (q0 := 0) rfl rfl)) rfl rfl hl.1 rfl (lv_room (Nat.le_of_ble_eq_true rfl)) dX11_ice_66 ⟨Nat.zero_le _, Nat.zero_le _⟩) hS (fun q _ h => hFc q h) hFc (fun u t H locs ht hvm hw hB hz1 hk1 hS => ?_)
        obtain ⟨r_all_12, rfl⟩ : ∃ z, z = u := ⟨_, rfl⟩
        obtain ⟨hP, hD⟩ := af_join (wr := []) (w1 := [(h, .inr (10, [.ref h_all, .ref h_has, .int f_size, .int f_next, .int f_where, .int f_token, .int f_number, .int f_sign, .int f_word, .int f_wrong, .int f_open, .int f_lines, .int f_acts, .ref h_line, .ref h_act, .ref h_pile, .ref h_comes, .ref h_leaves, .ref h_tried, .ref h_met])), (h_all, .inl (cI, 53700, .inl r_all_12))]) hB ht hP hD [0, 1] [] rfl rfl (by decide) (by decide) hk1 hFc
        have hP : va_P (dC, dI) vwCl [(h, .inr (10, [.ref h_all, .ref h_has, .int f_size, .int f_next, .int f_where, .int f_token, .int f_number, .int f_sign, .int f_word, .int f_wrong, .int f_open, .int f_lines, .int f_acts, .ref h_line, .ref h_act, .ref h_pile, .ref h_comes, .ref h_leaves, .ref h_tried, .ref h_met])), (h_all, .inl (cI, 53700, .inl r_all_12))] _ := hP
        have hD : va_D A [(h, .inr (10, [.ref h_all, .ref h_has, .int f_size, .int f_next, .int f_where, .int f_token, .int f_number, .int f_sign, .int f_word, .int f_wrong, .int f_open, .int f_lines, .int f_acts, .ref h_line, .ref h_act, .ref h_pile, .ref h_comes, .ref h_leaves, .ref h_tried, .ref h_met])), (h_all, .inl (cI, 53700, .inl r_all_12))] := hD
        refine lv_aload_n hx hb dX11_ice_69 rfl (lv_at hl 0 rfl) ?_
        refine lv_iload_n hx hb dX11_ice_70 rfl (lv_at hl 1 rfl) ?_
        refine lv_iload_n hx hb dX11_ice_71 rfl (lv_at hl 2 rfl) ?_
        refine lv_iconst (v := (2 : Int32)) hx hb dX11_ice_72 (by decide) ?_
        refine lv_iload hx hb dX11_ice_73 (lv_at hl 4 rfl) ?_
        have hPc := hP.sub (ws' := [(h, .inr (10, [.ref h_all, .ref h_has, .int f_size, .int f_next, .int f_where, .int f_token, .int f_number, .int f_sign, .int f_word, .int f_wrong, .int f_open, .int f_lines, .int f_acts, .ref h_line, .ref h_act, .ref h_pile, .ref h_comes, .ref h_leaves, .ref h_tried, .ref h_met])), (h_all, .inl (cI, 53700, .inl r_all_12))]) [0, 1] rfl
        have hDc := hD.sub (ws' := [(h, .inr (10, [.ref h_all, .ref h_has, .int f_size, .int f_next, .int f_where, .int f_token, .int f_number, .int f_sign, .int f_word, .int f_wrong, .int f_open, .int f_lines, .int f_acts, .ref h_line, .ref h_act, .ref h_pile, .ref h_comes, .ref h_leaves, .ref h_tried, .ref h_met])), (h_all, .inl (cI, 53700, .inl r_all_12))]) [0, 1] (by decide) rfl
        have hFc := va_free (wc := [(h, .inr (10, [.ref h_all, .ref h_has, .int f_size, .int f_next, .int f_where, .int f_token, .int f_number, .int f_sign, .int f_word, .int f_wrong, .int f_open, .int f_lines, .int f_acts, .ref h_line, .ref h_act, .ref h_pile, .ref h_comes, .ref h_leaves, .ref h_tried, .ref h_met])), (h_all, .inl (cI, 53700, .inl r_all_12))]) hD hS hA [0, 1] rfl
        refine va_callv (va_runV (As := [.int x1, .int x2, .int (2 : Int32), .int x4]) (rest := []) ⟨hx, hb, hml, hown, hts⟩ (kX11_sets l dC dI cI cZ cO cW h h_all h_has h_line h_act h_pile h_comes h_leaves h_tried h_met H.size f_size f_next f_where f_token f_number f_sign f_word f_wrong f_open f_lines f_acts r_all_12 x1 x2 (2 : Int32) x4 _ hw) (cwV 4 hts (gV gw_646 gw_647 gw_648 gw_622 (gM gw_629)) rfl rfl rfl (by decide +kernel) ⟨Nat.le_of_ble_eq_true rfl, Nat.le_of_ble_eq_true rfl⟩) (pv_of hPc hK hDc (va_recv hK hPc (ci := 10) (q0 := 0) rfl rfl)) rfl rfl hl.1 rfl (lv_room (Nat.le_of_ble_eq_true rfl)) dX11_ice_75 ⟨Nat.zero_le _, Nat.zero_le _⟩) hS (fun q _ h => hFc q h) hFc (fun u t H locs ht hvm hw hB hz1 hk1 hS => ?_)
        obtain ⟨r_all_13, rfl⟩ : ∃ z, z = u := ⟨_, rfl⟩
        obtain ⟨hP, hD⟩ := af_join (wr := []) (w1 := [(h, .inr (10, [.ref h_all, .ref h_has, .int f_size, .int f_next, .int f_where, .int f_token, .int f_number, .int f_sign, .int f_word, .int f_wrong, .int f_open, .int f_lines, .int f_acts, .ref h_line, .ref h_act, .ref h_pile, .ref h_comes, .ref h_leaves, .ref h_tried, .ref h_met])), (h_all, .inl (cI, 53700, .inl r_all_13))]) hB ht hP hD [0, 1] [] rfl rfl (by decide) (by decide) hk1 hFc
        have hP : va_P (dC, dI) vwCl [(h, .inr (10, [.ref h_all, .ref h_has, .int f_size, .int f_next, .int f_where, .int f_token, .int f_number, .int f_sign, .int f_word, .int f_wrong, .int f_open, .int f_lines, .int f_acts, .ref h_line, .ref h_act, .ref h_pile, .ref h_comes, .ref h_leaves, .ref h_tried, .ref h_met])), (h_all, .inl (cI, 53700, .inl r_all_13))] _ := hP
        have hD : va_D A [(h, .inr (10, [.ref h_all, .ref h_has, .int f_size, .int f_next, .int f_where, .int f_token, .int f_number, .int f_sign, .int f_word, .int f_wrong, .int f_open, .int f_lines, .int f_acts, .ref h_line, .ref h_act, .ref h_pile, .ref h_comes, .ref h_leaves, .ref h_tried, .ref h_met])), (h_all, .inl (cI, 53700, .inl r_all_13))] := hD
        refine lv_aload_n hx hb dX11_ice_78 rfl (lv_at hl 0 rfl) ?_
        refine lv_iload_n hx hb dX11_ice_79 rfl (lv_at hl 1 rfl) ?_
        refine lv_iload_n hx hb dX11_ice_80 rfl (lv_at hl 2 rfl) ?_
        refine lv_iconst (v := (3 : Int32)) hx hb dX11_ice_81 (by decide) ?_
        refine lv_iconst (v := (-1 : Int32)) hx hb dX11_ice_82 (by decide) ?_
        have hPc := hP.sub (ws' := [(h, .inr (10, [.ref h_all, .ref h_has, .int f_size, .int f_next, .int f_where, .int f_token, .int f_number, .int f_sign, .int f_word, .int f_wrong, .int f_open, .int f_lines, .int f_acts, .ref h_line, .ref h_act, .ref h_pile, .ref h_comes, .ref h_leaves, .ref h_tried, .ref h_met])), (h_all, .inl (cI, 53700, .inl r_all_13))]) [0, 1] rfl
        have hDc := hD.sub (ws' := [(h, .inr (10, [.ref h_all, .ref h_has, .int f_size, .int f_next, .int f_where, .int f_token, .int f_number, .int f_sign, .int f_word, .int f_wrong, .int f_open, .int f_lines, .int f_acts, .ref h_line, .ref h_act, .ref h_pile, .ref h_comes, .ref h_leaves, .ref h_tried, .ref h_met])), (h_all, .inl (cI, 53700, .inl r_all_13))]) [0, 1] (by decide) rfl
        have hFc := va_free (wc := [(h, .inr (10, [.ref h_all, .ref h_has, .int f_size, .int f_next, .int f_where, .int f_token, .int f_number, .int f_sign, .int f_word, .int f_wrong, .int f_open, .int f_lines, .int f_acts, .ref h_line, .ref h_act, .ref h_pile, .ref h_comes, .ref h_leaves, .ref h_tried, .ref h_met])), (h_all, .inl (cI, 53700, .inl r_all_13))]) hD hS hA [0, 1] rfl
        refine va_callv (va_runV (As := [.int x1, .int x2, .int (3 : Int32), .int (-1 : Int32)]) (rest := []) ⟨hx, hb, hml, hown, hts⟩ (kX11_sets l dC dI cI cZ cO cW h h_all h_has h_line h_act h_pile h_comes h_leaves h_tried h_met H.size f_size f_next f_where f_token f_number f_sign f_word f_wrong f_open f_lines f_acts r_all_13 x1 x2 (3 : Int32) (-1 : Int32) _ hw) (cwV 4 hts (gV gw_646 gw_647 gw_648 gw_622 (gM gw_629)) rfl rfl rfl (by decide +kernel) ⟨Nat.le_of_ble_eq_true rfl, Nat.le_of_ble_eq_true rfl⟩) (pv_of hPc hK hDc (va_recv hK hPc (ci := 10) (q0 := 0) rfl rfl)) rfl rfl hl.1 rfl (lv_room (Nat.le_of_ble_eq_true rfl)) dX11_ice_83 ⟨Nat.zero_le _, Nat.zero_le _⟩) hS (fun q _ h => hFc q h) hFc (fun u t H locs ht hvm hw hB hz1 hk1 hS => ?_)
        obtain ⟨r_all_14, rfl⟩ : ∃ z, z = u := ⟨_, rfl⟩
        obtain ⟨hP, hD⟩ := af_join (wr := []) (w1 := [(h, .inr (10, [.ref h_all, .ref h_has, .int f_size, .int f_next, .int f_where, .int f_token, .int f_number, .int f_sign, .int f_word, .int f_wrong, .int f_open, .int f_lines, .int f_acts, .ref h_line, .ref h_act, .ref h_pile, .ref h_comes, .ref h_leaves, .ref h_tried, .ref h_met])), (h_all, .inl (cI, 53700, .inl r_all_14))]) hB ht hP hD [0, 1] [] rfl rfl (by decide) (by decide) hk1 hFc
        have hP : va_P (dC, dI) vwCl [(h, .inr (10, [.ref h_all, .ref h_has, .int f_size, .int f_next, .int f_where, .int f_token, .int f_number, .int f_sign, .int f_word, .int f_wrong, .int f_open, .int f_lines, .int f_acts, .ref h_line, .ref h_act, .ref h_pile, .ref h_comes, .ref h_leaves, .ref h_tried, .ref h_met])), (h_all, .inl (cI, 53700, .inl r_all_14))] _ := hP
        have hD : va_D A [(h, .inr (10, [.ref h_all, .ref h_has, .int f_size, .int f_next, .int f_where, .int f_token, .int f_number, .int f_sign, .int f_word, .int f_wrong, .int f_open, .int f_lines, .int f_acts, .ref h_line, .ref h_act, .ref h_pile, .ref h_comes, .ref h_leaves, .ref h_tried, .ref h_met])), (h_all, .inl (cI, 53700, .inl r_all_14))] := hD
        refine lv_aload_n hx hb dX11_ice_86 rfl (lv_at hl 0 rfl) ?_
        refine lv_iload_n hx hb dX11_ice_87 rfl (lv_at hl 1 rfl) ?_
        refine lv_iload_n hx hb dX11_ice_88 rfl (lv_at hl 2 rfl) ?_
        refine lv_iconst (v := (4 : Int32)) hx hb dX11_ice_89 (by decide) ?_
        refine lv_iload hx hb dX11_ice_90 (lv_at hl 5 rfl) ?_
        refine lv_if_eq (tgt := 99) hx hb dX11_ice_92 (by decide) (fun c_15 => ?_) (fun c_15 => ?_)
        · have hw := hw.1 c_15
          refine lv_iconst (v := (0 : Int32)) hx hb dX11_ice_99 (by decide) ?_
          exact tX11_ice_100 hC hK hA  x1 x2 (4 : Int32) (0 : Int32) r_all_14 _ _ ls hw (hP.sub [0, 1] rfl) (hD.sub [0, 1] (by decide) rfl) hS (lv_sub hl [] rfl)
        · have hw := hw.2 c_15
          refine lv_iconst (v := (1 : Int32)) hx hb dX11_ice_95 (by decide) ?_
          refine lv_goto (tgt := 100) hx hb dX11_ice_96 (by decide) ?_
          exact tX11_ice_100 hC hK hA  x1 x2 (4 : Int32) (1 : Int32) r_all_14 _ _ ls hw (hP.sub [0, 1] rfl) (hD.sub [0, 1] (by decide) rfl) hS (lv_sub hl [] rfl)
      · have hw := hw.2 c_7
        refine lv_iconst (v := (0 : Int32)) hx hb dX11_ice_30 (by decide) ?_
        have hP9 := hP.sub (ws' := (vX11_ice cI cZ h h_all h_has h_line h_act h_pile h_comes h_leaves h_tried h_met f_size f_next f_where f_token f_number f_sign f_word f_wrong f_open f_lines f_acts r_all)) [0, 1] rfl
        have hD9 := hD.sub (ws' := (vX11_ice cI cZ h h_all h_has h_line h_act h_pile h_comes h_leaves h_tried h_met f_size f_next f_where f_token f_number f_sign f_word f_wrong f_open f_lines f_acts r_all)) [0, 1] (by decide) rfl
        exact W.zret (v := (0 : Int32)) (ty := .boolean) hx hb hr rfl (fun t ht hW => ⟨⟨(0 : Int32), r_all, rfl, hw, by rw [ht]; exact hP9, va_K.moved hW.alike hK, hD9⟩, hS.F ht⟩) hS.2.2 dX11_ice_31
set_option maxHeartbeats 4000000 in
set_option maxRecDepth 100000 in
theorem kX11_ice (l : Launch) (dC : Nat → ClassId) (dI : Nat → Nat → Nat) (cI cZ cO cW : ClassId) (h h_all h_has h_line h_act h_pile h_comes h_leaves h_tried h_met : Nat)  (sz : Nat) (f_size : Int32) (f_next : Int32) (f_where : Int32) (f_token : Int32) (f_number : Int32) (f_sign : Int32) (f_word : Int32) (f_wrong : Int32) (f_open : Int32) (f_lines : Int32) (f_acts : Int32) (r_all : Nat → Int32) (x1 : Int32) (x2 : Int32) (x3 : Int32) (x4 : Int32) (x5 : Int32) (Q : Int32 → (Nat → Int32) → Prop) (hw : wX11_ice Q x1 x2 x3 x4 x5 r_all) : Met l yX11_ice zsX11_ice rmX11_ice (va_Pc [.ref h, .int x1, .int x2, .int x3, .int x4, .int x5] (fun U => U.heap.size = sz ∧ va_P (dC, dI) vwCl (vX11_ice cI cZ h h_all h_has h_line h_act h_pile h_comes h_leaves h_tried h_met f_size f_next f_where f_token f_number f_sign f_word f_wrong f_open f_lines f_acts r_all) U.heap ∧ va_K (dC, dI) vwCl (tysA cI cZ cO cW) U ∧ va_D (fun _ => True) (vX11_ice cI cZ h h_all h_has h_line h_act h_pile h_comes h_leaves h_tried h_met f_size f_next f_where f_token f_number f_sign f_word f_wrong f_open f_lines f_acts r_all))) (qX11_ice dC dI cI cZ cO cW h h_all h_has h_line h_act h_pile h_comes h_leaves h_tried h_met f_size f_next f_where f_token f_number f_sign f_word f_wrong f_open f_lines f_acts Q (va_A (vX11_ice cI cZ h h_all h_has h_line h_act h_pile h_comes h_leaves h_tried h_met f_size f_next f_where f_token f_number f_sign f_word f_wrong f_open f_lines f_acts r_all) sz)) 0 0 (va_A (vX11_ice cI cZ h h_all h_has h_line h_act h_pile h_comes h_leaves h_tried h_met f_size f_next f_where f_token f_number f_sign f_word f_wrong f_open f_lines f_acts r_all) sz) := by
  refine Met.ofW (cc := cX11_ice) (maxL := 6) (ret := (some .boolean)) (by decide) rfl ?_
  intro p e s m args below meth c s₁ B hml hv
  obtain ⟨rfl, hsz, hP, hK, hD0⟩ := hv
  subst hsz
  have hC : Cx p s m ([.ref h, .int x1, .int x2, .int x3, .int x4, .int x5] : List Value).toArray meth c cX11_ice (some .boolean) 6 GW RX11 := ⟨B.exec, B.bytes, B.returns, hml, findClass_of_methodNamed B.named, fun w h => atoms_spec (ws := zsX11_ice) B.pre w (List.mem_cons_of_mem _ h), B.notSynchronized⟩
  have hD := hD0.self (sz := s.heap.size)
  generalize hAe : va_A (vX11_ice cI cZ h h_all h_has h_line h_act h_pile h_comes h_leaves h_tried h_met f_size f_next f_where f_token f_number f_sign f_word f_wrong f_open f_lines f_acts r_all) s.heap.size = A at hD ⊢
  have hA : ∀ q : Nat, s.heap.size ≤ q → A q := fun q h => by rw [← hAe]; exact Or.inr h
  have hl := lv_entry ([.ref h, .int x1, .int x2, .int x3, .int x4, .int x5]) (n := 6) (Nat.le_of_ble_eq_true rfl)
  rw [lg_entry_eq]
  generalize (lg_sl ([.ref h, .int x1, .int x2, .int x3, .int x4, .int x5]) ++ List.replicate (6 - (lg_sl ([.ref h, .int x1, .int x2, .int x3, .int x4, .int x5])).length) Slot.unset).toArray = ls at hl ⊢
  exact tX11_ice_e hC hK hA x1 x2 x3 x4 x5 r_all _ _ ls hw hP hD va_S.rf hl

/-! X11_weather -/
def wX11_weather_66 (Q : Int32 → (Nat → Int32) → Prop)   : Nat → Int32 → Int32 → Int32 → Int32 → Int32 → Int32 → (Nat → Int32) → Prop
  | 0, _, _, _, _, _, _, _ => False
  | n + 1, x1, x2, x3, x4, x5, x6, r_all => (((x1 + x2) ≤ x6 → (Q (1 : Int32) r_all)) ∧ (¬ (x1 + x2) ≤ x6 → (vp_in ((460 : Int32) + ((3 : Int32) * x6)) 53700 ∧ (vp_in (((460 : Int32) + ((3 : Int32) * x6)) + (1 : Int32)) 53700 ∧ (vp_in (((460 : Int32) + ((3 : Int32) * x6)) + (2 : Int32)) 53700 ∧ (wX11_weather_66 Q n x1 x2 x3 x4 x5 (x6 + (1 : Int32)) (upd (upd (upd r_all ((460 : Int32) + ((3 : Int32) * x6)).toNatClampNeg x3) (((460 : Int32) + ((3 : Int32) * x6)) + (1 : Int32)).toNatClampNeg x4) (((460 : Int32) + ((3 : Int32) * x6)) + (2 : Int32)).toNatClampNeg x5)))))))
def wX11_weather (Q : Int32 → (Nat → Int32) → Prop) (x1 : Int32) (x2 : Int32) (x3 : Int32) (x4 : Int32) (x5 : Int32) (r_all : Nat → Int32) : Prop :=
  (vp_in (3 : Int32) 53700 ∧ (wX11_isIn (fun r_6 => ((r_6 = 0 → (Q (0 : Int32) r_all)) ∧ (¬ r_6 = 0 → (wX11_isIn (fun r_8 => ((r_8 = 0 → (Q (0 : Int32) r_all)) ∧ (¬ r_8 = 0 → (wX11_isIn (fun r_10 => ((r_10 = 0 → (Q (0 : Int32) r_all)) ∧ (¬ r_10 = 0 → (wX11_isIn (fun r_12 => ((r_12 = 0 → (Q (0 : Int32) r_all)) ∧ (¬ r_12 = 0 → (wX11_isIn (fun r_14 => ((¬ r_14 = 0 → (∃ j_, wX11_weather_66 Q j_ x1 x2 x3 x4 x5 x1 r_all)) ∧ (r_14 = 0 → (Q (0 : Int32) r_all)))) x5 (0 : Int32) (50 : Int32))))) x4 (0 : Int32) (3 : Int32))))) x3 (-40 : Int32) (40 : Int32))))) x2 (1 : Int32) ((1000 : Int32) - x1))))) x1 (r_all (3 : Int32).toNatClampNeg) (999 : Int32)))
abbrev vX11_weather (cI cZ : ClassId) (h h_all h_has h_line h_act h_pile h_comes h_leaves h_tried h_met : Nat) (f_size : Int32) (f_next : Int32) (f_where : Int32) (f_token : Int32) (f_number : Int32) (f_sign : Int32) (f_word : Int32) (f_wrong : Int32) (f_open : Int32) (f_lines : Int32) (f_acts : Int32) (r_all : Nat → Int32) : va_W := [(h, .inr (10, [.ref h_all, .ref h_has, .int f_size, .int f_next, .int f_where, .int f_token, .int f_number, .int f_sign, .int f_word, .int f_wrong, .int f_open, .int f_lines, .int f_acts, .ref h_line, .ref h_act, .ref h_pile, .ref h_comes, .ref h_leaves, .ref h_tried, .ref h_met])), (h_all, .inl (cI, 53700, .inl r_all))]
abbrev rmX11_weather : Room := { frames := 1, cells := 0, slots := 0, locals := 22 }
abbrev qX11_weather (dC : Nat → ClassId) (dI : Nat → Nat → Nat) (cI cZ cO cW : ClassId) (h h_all h_has h_line h_act h_pile h_comes h_leaves h_tried h_met : Nat) (f_size : Int32) (f_next : Int32) (f_where : Int32) (f_token : Int32) (f_number : Int32) (f_sign : Int32) (f_word : Int32) (f_wrong : Int32) (f_open : Int32) (f_lines : Int32) (f_acts : Int32) (Q : Int32 → (Nat → Int32) → Prop) (A : Nat → Prop) : Array Value → State → Outcome → State → Prop := va_Qi (fun (r : Int32) (u : (Nat → Int32)) => Q r u) (fun (u : (Nat → Int32)) (t : State) => va_P (dC, dI) vwCl (vX11_weather cI cZ h h_all h_has h_line h_act h_pile h_comes h_leaves h_tried h_met f_size f_next f_where f_token f_number f_sign f_word f_wrong f_open f_lines f_acts u) t.heap ∧ va_K (dC, dI) vwCl (tysA cI cZ cO cW) t ∧ va_D A (vX11_weather cI cZ h h_all h_has h_line h_act h_pile h_comes h_leaves h_tried h_met f_size f_next f_where f_token f_number f_sign f_word f_wrong f_open f_lines f_acts u)) A
def zsX11_weather : List Cond := Cond.code yX11_weather cX11_weather 7 (some .boolean) :: GW
set_option maxHeartbeats 4000000 in
set_option maxRecDepth 100000 in
theorem tX11_weather_66 {p : Program} {l : Launch} {e : Env} {s : State} {m : MethodId} {args : Array Value} {below : List Frame} {meth : Method} {c : Code} {dC : Nat → ClassId} {dI : Nat → Nat → Nat} {cI cZ cO cW : ClassId} {A : Nat → Prop} {h h_all h_has h_line h_act h_pile h_comes h_leaves h_tried h_met : Nat} {f_size f_next f_where f_token f_number f_sign f_word f_wrong f_open f_lines f_acts : Int32} {Q : Int32 → (Nat → Int32) → Prop}  (hC : Cx p s m args meth c cX11_weather (some .boolean) 7 GW RX11) (hK : va_K (dC, dI) vwCl (tysA cI cZ cO cW) s) (hA : ∀ q : Nat, s.heap.size ≤ q → A q) :
    ∀ (n : Nat) (x1 : Int32) (x2 : Int32) (x3 : Int32) (x4 : Int32) (x5 : Int32) (x6 : Int32) (r_all : (Nat → Int32)) (H : Heap) (locs : List Loc) (ls : Array Slot), wX11_weather_66 Q  n x1 x2 x3 x4 x5 x6 r_all → va_P (dC, dI) vwCl (vX11_weather cI cZ h h_all h_has h_line h_act h_pile h_comes h_leaves h_tried h_met f_size f_next f_where f_token f_number f_sign f_word f_wrong f_open f_lines f_acts r_all) H → va_D A (vX11_weather cI cZ h h_all h_has h_line h_act h_pile h_comes h_leaves h_tried h_met f_size f_next f_where f_token f_number f_sign f_word f_wrong f_open f_lines f_acts r_all) → va_S A s.heap H locs → lv_has ls 7 [(0, .ref h), (1, .int x1), (2, .int x2), (3, .int x3), (4, .int x4), (5, .int x5), (6, .int x6)] → W p l e rmX11_weather s m args below meth c H locs 0 0 (MQ below (qX11_weather dC dI cI cZ cO cW h h_all h_has h_line h_act h_pile h_comes h_leaves h_tried h_met f_size f_next f_where f_token f_number f_sign f_word f_wrong f_open f_lines f_acts Q A) args s 0 0 A) (F0 m 66 ls []) := by
  obtain ⟨hx, hb, hr, hml, hown, hts, hlocks⟩ := id hC
  intro n
  induction n with
  | zero =>
    intro  x1 x2 x3 x4 x5 x6 r_all H locs ls hw
    exact hw.elim
  | succ n ih =>
    intro  x1 x2 x3 x4 x5 x6 r_all H locs ls hw hP hD hS hl
    refine lv_iload hx hb dX11_weather_66 (lv_at hl 6 rfl) ?_
    refine lv_iload_n hx hb dX11_weather_68 rfl (lv_at hl 1 rfl) ?_
    refine lv_iload_n hx hb dX11_weather_69 rfl (lv_at hl 2 rfl) ?_
    refine lv_iadd hx hb dX11_weather_70 ?_
    refine lv_icmp_ge (tgt := 128) hx hb dX11_weather_71 (by decide) (fun c_1 => ?_) (fun c_1 => ?_)
    · have hw := hw.1 c_1
      refine lv_iconst (v := (1 : Int32)) hx hb dX11_weather_128 (by decide) ?_
      have hP9 := hP.sub (ws' := (vX11_weather cI cZ h h_all h_has h_line h_act h_pile h_comes h_leaves h_tried h_met f_size f_next f_where f_token f_number f_sign f_word f_wrong f_open f_lines f_acts r_all)) [0, 1] rfl
      have hD9 := hD.sub (ws' := (vX11_weather cI cZ h h_all h_has h_line h_act h_pile h_comes h_leaves h_tried h_met f_size f_next f_where f_token f_number f_sign f_word f_wrong f_open f_lines f_acts r_all)) [0, 1] (by decide) rfl
      exact W.zret (v := (1 : Int32)) (ty := .boolean) hx hb hr rfl (fun t ht hW => ⟨⟨(1 : Int32), r_all, rfl, hw, by rw [ht]; exact hP9, va_K.moved hW.alike hK, hD9⟩, hS.F ht⟩) hS.2.2 dX11_weather_129
    · have hw := hw.2 c_1
      refine lv_aload_n hx hb dX11_weather_74 rfl (lv_at hl 0 rfl) ?_
      refine va_get (D := (dC, dI)) (ci := 10) (v := .ref h_all) (C := RX11) (T := TX11) (N := 20) hx hb hts gu_X11 hown hK hP 0 rfl rfl 0 (by decide) (hts _ gw_607) (fun _ h9 => h9) rfl dX11_weather_75 ?_
      refine lv_sipush (v := (460 : Int32)) hx hb dX11_weather_78 (by decide) ?_
      refine lv_iconst (v := (3 : Int32)) hx hb dX11_weather_81 (by decide) ?_
      refine lv_iload hx hb dX11_weather_82 (lv_at hl 6 rfl) ?_
      refine lv_imul hx hb dX11_weather_84 ?_
      refine lv_iadd hx hb dX11_weather_85 ?_
      refine lv_iload_n hx hb dX11_weather_86 rfl (lv_at hl 3 rfl) ?_
      obtain ⟨h_2, hw⟩ := hw
      refine va_iast hx hb hK hP hD hS 1 0 rfl rfl h_2 dX11_weather_87 (fun H locs hP hD hS => ?_)
      have hP : va_P (dC, dI) vwCl [(h, .inr (10, [.ref h_all, .ref h_has, .int f_size, .int f_next, .int f_where, .int f_token, .int f_number, .int f_sign, .int f_word, .int f_wrong, .int f_open, .int f_lines, .int f_acts, .ref h_line, .ref h_act, .ref h_pile, .ref h_comes, .ref h_leaves, .ref h_tried, .ref h_met])), (h_all, .inl (cI, 53700, .inl (upd r_all ((460 : Int32) + ((3 : Int32) * x6)).toNatClampNeg x3)))] _ := hP
      have hD : va_D A [(h, .inr (10, [.ref h_all, .ref h_has, .int f_size, .int f_next, .int f_where, .int f_token, .int f_number, .int f_sign, .int f_word, .int f_wrong, .int f_open, .int f_lines, .int f_acts, .ref h_line, .ref h_act, .ref h_pile, .ref h_comes, .ref h_leaves, .ref h_tried, .ref h_met])), (h_all, .inl (cI, 53700, .inl (upd r_all ((460 : Int32) + ((3 : Int32) * x6)).toNatClampNeg x3)))] := hD
      refine lv_aload_n hx hb dX11_weather_88 rfl (lv_at hl 0 rfl) ?_
      refine va_get (D := (dC, dI)) (ci := 10) (v := .ref h_all) (C := RX11) (T := TX11) (N := 20) hx hb hts gu_X11 hown hK hP 0 rfl rfl 0 (by decide) (hts _ gw_607) (fun _ h9 => h9) rfl dX11_weather_89 ?_
      refine lv_sipush (v := (460 : Int32)) hx hb dX11_weather_92 (by decide) ?_
      refine lv_iconst (v := (3 : Int32)) hx hb dX11_weather_95 (by decide) ?_
      refine lv_iload hx hb dX11_weather_96 (lv_at hl 6 rfl) ?_
      refine lv_imul hx hb dX11_weather_98 ?_
      refine lv_iadd hx hb dX11_weather_99 ?_
      refine lv_iconst (v := (1 : Int32)) hx hb dX11_weather_100 (by decide) ?_
      refine lv_iadd hx hb dX11_weather_101 ?_
      refine lv_iload hx hb dX11_weather_102 (lv_at hl 4 rfl) ?_
      obtain ⟨h_3, hw⟩ := hw
      refine va_iast hx hb hK hP hD hS 1 0 rfl rfl h_3 dX11_weather_104 (fun H locs hP hD hS => ?_)
      have hP : va_P (dC, dI) vwCl [(h, .inr (10, [.ref h_all, .ref h_has, .int f_size, .int f_next, .int f_where, .int f_token, .int f_number, .int f_sign, .int f_word, .int f_wrong, .int f_open, .int f_lines, .int f_acts, .ref h_line, .ref h_act, .ref h_pile, .ref h_comes, .ref h_leaves, .ref h_tried, .ref h_met])), (h_all, .inl (cI, 53700, .inl (upd (upd r_all ((460 : Int32) + ((3 : Int32) * x6)).toNatClampNeg x3) (((460 : Int32) + ((3 : Int32) * x6)) + (1 : Int32)).toNatClampNeg x4)))] _ := hP
      have hD : va_D A [(h, .inr (10, [.ref h_all, .ref h_has, .int f_size, .int f_next, .int f_where, .int f_token, .int f_number, .int f_sign, .int f_word, .int f_wrong, .int f_open, .int f_lines, .int f_acts, .ref h_line, .ref h_act, .ref h_pile, .ref h_comes, .ref h_leaves, .ref h_tried, .ref h_met])), (h_all, .inl (cI, 53700, .inl (upd (upd r_all ((460 : Int32) + ((3 : Int32) * x6)).toNatClampNeg x3) (((460 : Int32) + ((3 : Int32) * x6)) + (1 : Int32)).toNatClampNeg x4)))] := hD
      refine lv_aload_n hx hb dX11_weather_105 rfl (lv_at hl 0 rfl) ?_
      refine va_get (D := (dC, dI)) (ci := 10) (v := .ref h_all) (C := RX11) (T := TX11) (N := 20) hx hb hts gu_X11 hown hK hP 0 rfl rfl 0 (by decide) (hts _ gw_607) (fun _ h9 => h9) rfl dX11_weather_106 ?_
      refine lv_sipush (v := (460 : Int32)) hx hb dX11_weather_109 (by decide) ?_
      refine lv_iconst (v := (3 : Int32)) hx hb dX11_weather_112 (by decide) ?_
      refine lv_iload hx hb dX11_weather_113 (lv_at hl 6 rfl) ?_
      refine lv_imul hx hb dX11_weather_115 ?_
      refine lv_iadd hx hb dX11_weather_116 ?_
      refine lv_iconst (v := (2 : Int32)) hx hb dX11_weather_117 (by decide) ?_
      refine lv_iadd hx hb dX11_weather_118 ?_
      refine lv_iload hx hb dX11_weather_119 (lv_at hl 5 rfl) ?_
      obtain ⟨h_4, hw⟩ := hw
      refine va_iast hx hb hK hP hD hS 1 0 rfl rfl h_4 dX11_weather_121 (fun H locs hP hD hS => ?_)
      have hP : va_P (dC, dI) vwCl [(h, .inr (10, [.ref h_all, .ref h_has, .int f_size, .int f_next, .int f_where, .int f_token, .int f_number, .int f_sign, .int f_word, .int f_wrong, .int f_open, .int f_lines, .int f_acts, .ref h_line, .ref h_act, .ref h_pile, .ref h_comes, .ref h_leaves, .ref h_tried, .ref h_met])), (h_all, .inl (cI, 53700, .inl (upd (upd (upd r_all ((460 : Int32) + ((3 : Int32) * x6)).toNatClampNeg x3) (((460 : Int32) + ((3 : Int32) * x6)) + (1 : Int32)).toNatClampNeg x4) (((460 : Int32) + ((3 : Int32) * x6)) + (2 : Int32)).toNatClampNeg x5)))] _ := hP
      have hD : va_D A [(h, .inr (10, [.ref h_all, .ref h_has, .int f_size, .int f_next, .int f_where, .int f_token, .int f_number, .int f_sign, .int f_word, .int f_wrong, .int f_open, .int f_lines, .int f_acts, .ref h_line, .ref h_act, .ref h_pile, .ref h_comes, .ref h_leaves, .ref h_tried, .ref h_met])), (h_all, .inl (cI, 53700, .inl (upd (upd (upd r_all ((460 : Int32) + ((3 : Int32) * x6)).toNatClampNeg x3) (((460 : Int32) + ((3 : Int32) * x6)) + (1 : Int32)).toNatClampNeg x4) (((460 : Int32) + ((3 : Int32) * x6)) + (2 : Int32)).toNatClampNeg x5)))] := hD
      refine lv_iinc (v := (x6 + (1 : Int32))) (lv' := [(6, .int (x6 + (1 : Int32))), (0, .ref h), (1, .int x1), (2, .int x2), (3, .int x3), (4, .int x4), (5, .int x5)]) hx hb dX11_weather_122 hl (k := 6) rfl rfl (by decide) rfl (fun ls hl => ?_)
      refine lv_goto (tgt := 66) hx hb dX11_weather_125 (by decide) ?_
      exact ih x1 x2 x3 x4 x5 (x6 + (1 : Int32)) (upd (upd (upd r_all ((460 : Int32) + ((3 : Int32) * x6)).toNatClampNeg x3) (((460 : Int32) + ((3 : Int32) * x6)) + (1 : Int32)).toNatClampNeg x4) (((460 : Int32) + ((3 : Int32) * x6)) + (2 : Int32)).toNatClampNeg x5) _ _ ls hw (hP.sub [0, 1] rfl) (hD.sub [0, 1] (by decide) rfl) hS (lv_sub hl [1, 2, 3, 4, 5, 6, 0] rfl)
set_option maxHeartbeats 4000000 in
set_option maxRecDepth 100000 in
theorem tX11_weather_e {p : Program} {l : Launch} {e : Env} {s : State} {m : MethodId} {args : Array Value} {below : List Frame} {meth : Method} {c : Code} {dC : Nat → ClassId} {dI : Nat → Nat → Nat} {cI cZ cO cW : ClassId} {A : Nat → Prop} {h h_all h_has h_line h_act h_pile h_comes h_leaves h_tried h_met : Nat} {f_size f_next f_where f_token f_number f_sign f_word f_wrong f_open f_lines f_acts : Int32} {Q : Int32 → (Nat → Int32) → Prop} (hC : Cx p s m args meth c cX11_weather (some .boolean) 7 GW RX11) (hK : va_K (dC, dI) vwCl (tysA cI cZ cO cW) s) (hA : ∀ q : Nat, s.heap.size ≤ q → A q) :
    ∀ (x1 : Int32) (x2 : Int32) (x3 : Int32) (x4 : Int32) (x5 : Int32) (r_all : Nat → Int32) (H : Heap) (locs : List Loc) (ls : Array Slot), wX11_weather Q x1 x2 x3 x4 x5 r_all → va_P (dC, dI) vwCl (vX11_weather cI cZ h h_all h_has h_line h_act h_pile h_comes h_leaves h_tried h_met f_size f_next f_where f_token f_number f_sign f_word f_wrong f_open f_lines f_acts r_all) H → va_D A (vX11_weather cI cZ h h_all h_has h_line h_act h_pile h_comes h_leaves h_tried h_met f_size f_next f_where f_token f_number f_sign f_word f_wrong f_open f_lines f_acts r_all) → va_S A s.heap H locs → lv_has ls 7 [(0, .ref h), (1, .int x1), (2, .int x2), (3, .int x3), (4, .int x4), (5, .int x5)] → W p l e rmX11_weather s m args below meth c H locs 0 0 (MQ below (qX11_weather dC dI cI cZ cO cW h h_all h_has h_line h_act h_pile h_comes h_leaves h_tried h_met f_size f_next f_where f_token f_number f_sign f_word f_wrong f_open f_lines f_acts Q A) args s 0 0 A) (F0 m 0 ls []) := by
  obtain ⟨hx, hb, hr, hml, hown, hts, hlocks⟩ := id hC
  intro x1 x2 x3 x4 x5 r_all H locs ls hw hP hD hS hl
  refine lv_iload_n hx hb dX11_weather_0 rfl (lv_at hl 1 rfl) ?_
  refine lv_aload_n hx hb dX11_weather_1 rfl (lv_at hl 0 rfl) ?_
  refine va_get (D := (dC, dI)) (ci := 10) (v := .ref h_all) (C := RX11) (T := TX11) (N := 20) hx hb hts gu_X11 hown hK hP 0 rfl rfl 0 (by decide) (hts _ gw_607) (fun _ h9 => h9) rfl dX11_weather_2 ?_
  refine lv_iconst (v := (3 : Int32)) hx hb dX11_weather_5 (by decide) ?_
  obtain ⟨h_5, hw⟩ := hw
  refine va_iald hx hb hK hP 1 0 rfl rfl h_5 dX11_weather_6 ?_
  refine lv_sipush (v := (999 : Int32)) hx hb dX11_weather_7 (by decide) ?_
  have hPc := hP.sub (ws' := []) [] rfl
  have hDc := hD.sub (ws' := []) [] (by decide) rfl
  have hFc := va_free (wc := []) hD hS hA [] rfl
  refine va_calli (va_runS (As := [.int x1, .int (r_all (3 : Int32).toNatClampNeg), .int (999 : Int32)]) (rest := []) ⟨hx, hb, hml, hown, hts⟩ (kX11_isIn l dC dI cI cZ cO cW H.size x1 (r_all (3 : Int32).toNatClampNeg) (999 : Int32) _ hw) (va_cwS 3 hts (gS gw_625 gw_626 gw_622 (gM gw_623)) rfl rfl rfl (by decide +kernel) ⟨Nat.le_of_ble_eq_true rfl, Nat.le_of_ble_eq_true rfl⟩) (ps_of hPc hK hDc) rfl rfl hl.1 rfl (lv_room (Nat.le_of_ble_eq_true rfl)) dX11_weather_10 ⟨Nat.zero_le _, Nat.zero_le _⟩) hS (fun q _ h => hFc q h) hFc (fun r_6 u t H locs ht hvm hw hB hz1 hk1 hS => ?_)
  obtain ⟨hP, hD⟩ := af_join (wr := [(h, .inr (10, [.ref h_all, .ref h_has, .int f_size, .int f_next, .int f_where, .int f_token, .int f_number, .int f_sign, .int f_word, .int f_wrong, .int f_open, .int f_lines, .int f_acts, .ref h_line, .ref h_act, .ref h_pile, .ref h_comes, .ref h_leaves, .ref h_tried, .ref h_met])), (h_all, .inl (cI, 53700, .inl r_all))]) (w1 := []) hB ht hP hD [] [0, 1] rfl rfl (by decide) (by decide) hk1 hFc
  have hP : va_P (dC, dI) vwCl [(h, .inr (10, [.ref h_all, .ref h_has, .int f_size, .int f_next, .int f_where, .int f_token, .int f_number, .int f_sign, .int f_word, .int f_wrong, .int f_open, .int f_lines, .int f_acts, .ref h_line, .ref h_act, .ref h_pile, .ref h_comes, .ref h_leaves, .ref h_tried, .ref h_met])), (h_all, .inl (cI, 53700, .inl r_all))] _ := hP
  have hD : va_D A [(h, .inr (10, [.ref h_all, .ref h_has, .int f_size, .int f_next, .int f_where, .int f_token, .int f_number, .int f_sign, .int f_word, .int f_wrong, .int f_open, .int f_lines, .int f_acts, .ref h_line, .ref h_act, .ref h_pile, .ref h_comes, .ref h_leaves, .ref h_tried, .ref h_met])), (h_all, .inl (cI, 53700, .inl r_all))] := hD
  refine lv_if_eq (tgt := 61) hx hb dX11_weather_13 (by decide) (fun c_7 => ?_) (fun c_7 => ?_)
  · have hw := hw.1 c_7
    refine lv_iconst (v := (0 : Int32)) hx hb dX11_weather_61 (by decide) ?_
    have hP9 := hP.sub (ws' := (vX11_weather cI cZ h h_all h_has h_line h_act h_pile h_comes h_leaves h_tried h_met f_size f_next f_where f_token f_number f_sign f_word f_wrong f_open f_lines f_acts r_all)) [0, 1] rfl
    have hD9 := hD.sub (ws' := (vX11_weather cI cZ h h_all h_has h_line h_act h_pile h_comes h_leaves h_tried h_met f_size f_next f_where f_token f_number f_sign f_word f_wrong f_open f_lines f_acts r_all)) [0, 1] (by decide) rfl
    exact W.zret (v := (0 : Int32)) (ty := .boolean) hx hb hr rfl (fun t ht hW => ⟨⟨(0 : Int32), r_all, rfl, hw, by rw [ht]; exact hP9, va_K.moved hW.alike hK, hD9⟩, hS.F ht⟩) hS.2.2 dX11_weather_62
  · have hw := hw.2 c_7
    refine lv_iload_n hx hb dX11_weather_16 rfl (lv_at hl 2 rfl) ?_
    refine lv_iconst (v := (1 : Int32)) hx hb dX11_weather_17 (by decide) ?_
    refine lv_sipush (v := (1000 : Int32)) hx hb dX11_weather_18 (by decide) ?_
    refine lv_iload_n hx hb dX11_weather_21 rfl (lv_at hl 1 rfl) ?_
    refine lv_isub hx hb dX11_weather_22 ?_
    have hPc := hP.sub (ws' := []) [] rfl
    have hDc := hD.sub (ws' := []) [] (by decide) rfl
    have hFc := va_free (wc := []) hD hS hA [] rfl
    refine va_calli (va_runS (As := [.int x2, .int (1 : Int32), .int ((1000 : Int32) - x1)]) (rest := []) ⟨hx, hb, hml, hown, hts⟩ (kX11_isIn l dC dI cI cZ cO cW H.size x2 (1 : Int32) ((1000 : Int32) - x1) _ hw) (va_cwS 3 hts (gS gw_625 gw_626 gw_622 (gM gw_623)) rfl rfl rfl (by decide +kernel) ⟨Nat.le_of_ble_eq_true rfl, Nat.le_of_ble_eq_true rfl⟩) (ps_of hPc hK hDc) rfl rfl hl.1 rfl (lv_room (Nat.le_of_ble_eq_true rfl)) dX11_weather_23 ⟨Nat.zero_le _, Nat.zero_le _⟩) hS (fun q _ h => hFc q h) hFc (fun r_8 u t H locs ht hvm hw hB hz1 hk1 hS => ?_)
    obtain ⟨hP, hD⟩ := af_join (wr := [(h, .inr (10, [.ref h_all, .ref h_has, .int f_size, .int f_next, .int f_where, .int f_token, .int f_number, .int f_sign, .int f_word, .int f_wrong, .int f_open, .int f_lines, .int f_acts, .ref h_line, .ref h_act, .ref h_pile, .ref h_comes, .ref h_leaves, .ref h_tried, .ref h_met])), (h_all, .inl (cI, 53700, .inl r_all))]) (w1 := []) hB ht hP hD [] [0, 1] rfl rfl (by decide) (by decide) hk1 hFc
    have hP : va_P (dC, dI) vwCl [(h, .inr (10, [.ref h_all, .ref h_has, .int f_size, .int f_next, .int f_where, .int f_token, .int f_number, .int f_sign, .int f_word, .int f_wrong, .int f_open, .int f_lines, .int f_acts, .ref h_line, .ref h_act, .ref h_pile, .ref h_comes, .ref h_leaves, .ref h_tried, .ref h_met])), (h_all, .inl (cI, 53700, .inl r_all))] _ := hP
    have hD : va_D A [(h, .inr (10, [.ref h_all, .ref h_has, .int f_size, .int f_next, .int f_where, .int f_token, .int f_number, .int f_sign, .int f_word, .int f_wrong, .int f_open, .int f_lines, .int f_acts, .ref h_line, .ref h_act, .ref h_pile, .ref h_comes, .ref h_leaves, .ref h_tried, .ref h_met])), (h_all, .inl (cI, 53700, .inl r_all))] := hD
    refine lv_if_eq (tgt := 61) hx hb dX11_weather_26 (by decide) (fun c_9 => ?_) (fun c_9 => ?_)
    · have hw := hw.1 c_9
      refine lv_iconst (v := (0 : Int32)) hx hb dX11_weather_61 (by decide) ?_
      have hP9 := hP.sub (ws' := (vX11_weather cI cZ h h_all h_has h_line h_act h_pile h_comes h_leaves h_tried h_met f_size f_next f_where f_token f_number f_sign f_word f_wrong f_open f_lines f_acts r_all)) [0, 1] rfl
      have hD9 := hD.sub (ws' := (vX11_weather cI cZ h h_all h_has h_line h_act h_pile h_comes h_leaves h_tried h_met f_size f_next f_where f_token f_number f_sign f_word f_wrong f_open f_lines f_acts r_all)) [0, 1] (by decide) rfl
      exact W.zret (v := (0 : Int32)) (ty := .boolean) hx hb hr rfl (fun t ht hW => ⟨⟨(0 : Int32), r_all, rfl, hw, by rw [ht]; exact hP9, va_K.moved hW.alike hK, hD9⟩, hS.F ht⟩) hS.2.2 dX11_weather_62
    · have hw := hw.2 c_9
      refine lv_iload_n hx hb dX11_weather_29 rfl (lv_at hl 3 rfl) ?_
      refine lv_bipush (v := (-40 : Int32)) hx hb dX11_weather_30 (by decide) ?_
      refine lv_bipush (v := (40 : Int32)) hx hb dX11_weather_32 (by decide) ?_
      have hPc := hP.sub (ws' := []) [] rfl
      have hDc := hD.sub (ws' := []) [] (by decide) rfl
      have hFc := va_free (wc := []) hD hS hA [] rfl
      refine va_calli (va_runS (As := [.int x3, .int (-40 : Int32), .int (40 : Int32)]) (rest := []) ⟨hx, hb, hml, hown, hts⟩ (kX11_isIn l dC dI cI cZ cO cW H.size x3 (-40 : Int32) (40 : Int32) _ hw) (va_cwS 3 hts (gS gw_625 gw_626 gw_622 (gM gw_623)) rfl rfl rfl (by decide +kernel) ⟨Nat.le_of_ble_eq_true rfl, Nat.le_of_ble_eq_true rfl⟩) (ps_of hPc hK hDc) rfl rfl hl.1 rfl (lv_room (Nat.le_of_ble_eq_true rfl)) dX11_weather_34 ⟨Nat.zero_le _, Nat.zero_le _⟩) hS (fun q _ h => hFc q h) hFc (fun r_10 u t H locs ht hvm hw hB hz1 hk1 hS => ?_)
      obtain ⟨hP, hD⟩ := af_join (wr := [(h, .inr (10, [.ref h_all, .ref h_has, .int f_size, .int f_next, .int f_where, .int f_token, .int f_number, .int f_sign, .int f_word, .int f_wrong, .int f_open, .int f_lines, .int f_acts, .ref h_line, .ref h_act, .ref h_pile, .ref h_comes, .ref h_leaves, .ref h_tried, .ref h_met])), (h_all, .inl (cI, 53700, .inl r_all))]) (w1 := []) hB ht hP hD [] [0, 1] rfl rfl (by decide) (by decide) hk1 hFc
      have hP : va_P (dC, dI) vwCl [(h, .inr (10, [.ref h_all, .ref h_has, .int f_size, .int f_next, .int f_where, .int f_token, .int f_number, .int f_sign, .int f_word, .int f_wrong, .int f_open, .int f_lines, .int f_acts, .ref h_line, .ref h_act, .ref h_pile, .ref h_comes, .ref h_leaves, .ref h_tried, .ref h_met])), (h_all, .inl (cI, 53700, .inl r_all))] _ := hP
      have hD : va_D A [(h, .inr (10, [.ref h_all, .ref h_has, .int f_size, .int f_next, .int f_where, .int f_token, .int f_number, .int f_sign, .int f_word, .int f_wrong, .int f_open, .int f_lines, .int f_acts, .ref h_line, .ref h_act, .ref h_pile, .ref h_comes, .ref h_leaves, .ref h_tried, .ref h_met])), (h_all, .inl (cI, 53700, .inl r_all))] := hD
      refine lv_if_eq (tgt := 61) hx hb dX11_weather_37 (by decide) (fun c_11 => ?_) (fun c_11 => ?_)
      · have hw := hw.1 c_11
        refine lv_iconst (v := (0 : Int32)) hx hb dX11_weather_61 (by decide) ?_
        have hP9 := hP.sub (ws' := (vX11_weather cI cZ h h_all h_has h_line h_act h_pile h_comes h_leaves h_tried h_met f_size f_next f_where f_token f_number f_sign f_word f_wrong f_open f_lines f_acts r_all)) [0, 1] rfl
        have hD9 := hD.sub (ws' := (vX11_weather cI cZ h h_all h_has h_line h_act h_pile h_comes h_leaves h_tried h_met f_size f_next f_where f_token f_number f_sign f_word f_wrong f_open f_lines f_acts r_all)) [0, 1] (by decide) rfl
        exact W.zret (v := (0 : Int32)) (ty := .boolean) hx hb hr rfl (fun t ht hW => ⟨⟨(0 : Int32), r_all, rfl, hw, by rw [ht]; exact hP9, va_K.moved hW.alike hK, hD9⟩, hS.F ht⟩) hS.2.2 dX11_weather_62
      · have hw := hw.2 c_11
        refine lv_iload hx hb dX11_weather_40 (lv_at hl 4 rfl) ?_
        refine lv_iconst (v := (0 : Int32)) hx hb dX11_weather_42 (by decide) ?_
        refine lv_iconst (v := (3 : Int32)) hx hb dX11_weather_43 (by decide) ?_
        have hPc := hP.sub (ws' := []) [] rfl
        have hDc := hD.sub (ws' := []) [] (by decide) rfl
        have hFc := va_free (wc := []) hD hS hA [] rfl
        refine va_calli (va_runS (As := [.int x4, .int (0 : Int32), .int (3 : Int32)]) (rest := []) ⟨hx, hb, hml, hown, hts⟩ (kX11_isIn l dC dI cI cZ cO cW H.size x4 (0 : Int32) (3 : Int32) _ hw) (va_cwS 3 hts (gS gw_625 gw_626 gw_622 (gM gw_623)) rfl rfl rfl (by decide +kernel) ⟨Nat.le_of_ble_eq_true rfl, Nat.le_of_ble_eq_true rfl⟩) (ps_of hPc hK hDc) rfl rfl hl.1 rfl (lv_room (Nat.le_of_ble_eq_true rfl)) dX11_weather_44 ⟨Nat.zero_le _, Nat.zero_le _⟩) hS (fun q _ h => hFc q h) hFc (fun r_12 u t H locs ht hvm hw hB hz1 hk1 hS => ?_)
        obtain ⟨hP, hD⟩ := af_join (wr := [(h, .inr (10, [.ref h_all, .ref h_has, .int f_size, .int f_next, .int f_where, .int f_token, .int f_number, .int f_sign, .int f_word, .int f_wrong, .int f_open, .int f_lines, .int f_acts, .ref h_line, .ref h_act, .ref h_pile, .ref h_comes, .ref h_leaves, .ref h_tried, .ref h_met])), (h_all, .inl (cI, 53700, .inl r_all))]) (w1 := []) hB ht hP hD [] [0, 1] rfl rfl (by decide) (by decide) hk1 hFc
        have hP : va_P (dC, dI) vwCl [(h, .inr (10, [.ref h_all, .ref h_has, .int f_size, .int f_next, .int f_where, .int f_token, .int f_number, .int f_sign, .int f_word, .int f_wrong, .int f_open, .int f_lines, .int f_acts, .ref h_line, .ref h_act, .ref h_pile, .ref h_comes, .ref h_leaves, .ref h_tried, .ref h_met])), (h_all, .inl (cI, 53700, .inl r_all))] _ := hP
        have hD : va_D A [(h, .inr (10, [.ref h_all, .ref h_has, .int f_size, .int f_next, .int f_where, .int f_token, .int f_number, .int f_sign, .int f_word, .int f_wrong, .int f_open, .int f_lines, .int f_acts, .ref h_line, .ref h_act, .ref h_pile, .ref h_comes, .ref h_leaves, .ref h_tried, .ref h_met])), (h_all, .inl (cI, 53700, .inl r_all))] := hD
        refine lv_if_eq (tgt := 61) hx hb dX11_weather_47 (by decide) (fun c_13 => ?_) (fun c_13 => ?_)
        · have hw := hw.1 c_13
          refine lv_iconst (v := (0 : Int32)) hx hb dX11_weather_61 (by decide) ?_
          have hP9 := hP.sub (ws' := (vX11_weather cI cZ h h_all h_has h_line h_act h_pile h_comes h_leaves h_tried h_met f_size f_next f_where f_token f_number f_sign f_word f_wrong f_open f_lines f_acts r_all)) [0, 1] rfl
          have hD9 := hD.sub (ws' := (vX11_weather cI cZ h h_all h_has h_line h_act h_pile h_comes h_leaves h_tried h_met f_size f_next f_where f_token f_number f_sign f_word f_wrong f_open f_lines f_acts r_all)) [0, 1] (by decide) rfl
          exact W.zret (v := (0 : Int32)) (ty := .boolean) hx hb hr rfl (fun t ht hW => ⟨⟨(0 : Int32), r_all, rfl, hw, by rw [ht]; exact hP9, va_K.moved hW.alike hK, hD9⟩, hS.F ht⟩) hS.2.2 dX11_weather_62
        · have hw := hw.2 c_13
          refine lv_iload hx hb dX11_weather_50 (lv_at hl 5 rfl) ?_
          refine lv_iconst (v := (0 : Int32)) hx hb dX11_weather_52 (by decide) ?_
          refine lv_bipush (v := (50 : Int32)) hx hb dX11_weather_53 (by decide) ?_
          have hPc := hP.sub (ws' := []) [] rfl
          have hDc := hD.sub (ws' := []) [] (by decide) rfl
          have hFc := va_free (wc := []) hD hS hA [] rfl
          refine va_calli (va_runS (As := [.int x5, .int (0 : Int32), .int (50 : Int32)]) (rest := []) ⟨hx, hb, hml, hown, hts⟩ (kX11_isIn l dC dI cI cZ cO cW H.size x5 (0 : Int32) (50 : Int32) _ hw) (va_cwS 3 hts (gS gw_625 gw_626 gw_622 (gM gw_623)) rfl rfl rfl (by decide +kernel) ⟨Nat.le_of_ble_eq_true rfl, Nat.le_of_ble_eq_true rfl⟩) (ps_of hPc hK hDc) rfl rfl hl.1 rfl (lv_room (Nat.le_of_ble_eq_true rfl)) dX11_weather_55 ⟨Nat.zero_le _, Nat.zero_le _⟩) hS (fun q _ h => hFc q h) hFc (fun r_14 u t H locs ht hvm hw hB hz1 hk1 hS => ?_)
          obtain ⟨hP, hD⟩ := af_join (wr := [(h, .inr (10, [.ref h_all, .ref h_has, .int f_size, .int f_next, .int f_where, .int f_token, .int f_number, .int f_sign, .int f_word, .int f_wrong, .int f_open, .int f_lines, .int f_acts, .ref h_line, .ref h_act, .ref h_pile, .ref h_comes, .ref h_leaves, .ref h_tried, .ref h_met])), (h_all, .inl (cI, 53700, .inl r_all))]) (w1 := []) hB ht hP hD [] [0, 1] rfl rfl (by decide) (by decide) hk1 hFc
          have hP : va_P (dC, dI) vwCl [(h, .inr (10, [.ref h_all, .ref h_has, .int f_size, .int f_next, .int f_where, .int f_token, .int f_number, .int f_sign, .int f_word, .int f_wrong, .int f_open, .int f_lines, .int f_acts, .ref h_line, .ref h_act, .ref h_pile, .ref h_comes, .ref h_leaves, .ref h_tried, .ref h_met])), (h_all, .inl (cI, 53700, .inl r_all))] _ := hP
          have hD : va_D A [(h, .inr (10, [.ref h_all, .ref h_has, .int f_size, .int f_next, .int f_where, .int f_token, .int f_number, .int f_sign, .int f_word, .int f_wrong, .int f_open, .int f_lines, .int f_acts, .ref h_line, .ref h_act, .ref h_pile, .ref h_comes, .ref h_leaves, .ref h_tried, .ref h_met])), (h_all, .inl (cI, 53700, .inl r_all))] := hD
          refine lv_if_ne (tgt := 63) hx hb dX11_weather_58 (by decide) (fun c_15 => ?_) (fun c_15 => ?_)
          · have hw := hw.1 c_15
            refine lv_iload_n hx hb dX11_weather_63 rfl (lv_at hl 1 rfl) ?_
            refine lv_istore (lv' := [(6, .int x1), (0, .ref h), (1, .int x1), (2, .int x2), (3, .int x3), (4, .int x4), (5, .int x5)]) hx hb dX11_weather_64 hl (by decide) rfl (fun ls hl => ?_)
            obtain ⟨n_16, hw⟩ := hw
            exact tX11_weather_66 hC hK hA  n_16 x1 x2 x3 x4 x5 x1 r_all _ _ ls hw (hP.sub [0, 1] rfl) (hD.sub [0, 1] (by decide) rfl) hS (lv_sub hl [1, 2, 3, 4, 5, 6, 0] rfl)
          · have hw := hw.2 c_15
            refine lv_iconst (v := (0 : Int32)) hx hb dX11_weather_61 (by decide) ?_
            have hP9 := hP.sub (ws' := (vX11_weather cI cZ h h_all h_has h_line h_act h_pile h_comes h_leaves h_tried h_met f_size f_next f_where f_token f_number f_sign f_word f_wrong f_open f_lines f_acts r_all)) [0, 1] rfl
            have hD9 := hD.sub (ws' := (vX11_weather cI cZ h h_all h_has h_line h_act h_pile h_comes h_leaves h_tried h_met f_size f_next f_where f_token f_number f_sign f_word f_wrong f_open f_lines f_acts r_all)) [0, 1] (by decide) rfl
            exact W.zret (v := (0 : Int32)) (ty := .boolean) hx hb hr rfl (fun t ht hW => ⟨⟨(0 : Int32), r_all, rfl, hw, by rw [ht]; exact hP9, va_K.moved hW.alike hK, hD9⟩, hS.F ht⟩) hS.2.2 dX11_weather_62
set_option maxHeartbeats 4000000 in
set_option maxRecDepth 100000 in
theorem kX11_weather (l : Launch) (dC : Nat → ClassId) (dI : Nat → Nat → Nat) (cI cZ cO cW : ClassId) (h h_all h_has h_line h_act h_pile h_comes h_leaves h_tried h_met : Nat)  (sz : Nat) (f_size : Int32) (f_next : Int32) (f_where : Int32) (f_token : Int32) (f_number : Int32) (f_sign : Int32) (f_word : Int32) (f_wrong : Int32) (f_open : Int32) (f_lines : Int32) (f_acts : Int32) (r_all : Nat → Int32) (x1 : Int32) (x2 : Int32) (x3 : Int32) (x4 : Int32) (x5 : Int32) (Q : Int32 → (Nat → Int32) → Prop) (hw : wX11_weather Q x1 x2 x3 x4 x5 r_all) : Met l yX11_weather zsX11_weather rmX11_weather (va_Pc [.ref h, .int x1, .int x2, .int x3, .int x4, .int x5] (fun U => U.heap.size = sz ∧ va_P (dC, dI) vwCl (vX11_weather cI cZ h h_all h_has h_line h_act h_pile h_comes h_leaves h_tried h_met f_size f_next f_where f_token f_number f_sign f_word f_wrong f_open f_lines f_acts r_all) U.heap ∧ va_K (dC, dI) vwCl (tysA cI cZ cO cW) U ∧ va_D (fun _ => True) (vX11_weather cI cZ h h_all h_has h_line h_act h_pile h_comes h_leaves h_tried h_met f_size f_next f_where f_token f_number f_sign f_word f_wrong f_open f_lines f_acts r_all))) (qX11_weather dC dI cI cZ cO cW h h_all h_has h_line h_act h_pile h_comes h_leaves h_tried h_met f_size f_next f_where f_token f_number f_sign f_word f_wrong f_open f_lines f_acts Q (va_A (vX11_weather cI cZ h h_all h_has h_line h_act h_pile h_comes h_leaves h_tried h_met f_size f_next f_where f_token f_number f_sign f_word f_wrong f_open f_lines f_acts r_all) sz)) 0 0 (va_A (vX11_weather cI cZ h h_all h_has h_line h_act h_pile h_comes h_leaves h_tried h_met f_size f_next f_where f_token f_number f_sign f_word f_wrong f_open f_lines f_acts r_all) sz) := by
  refine Met.ofW (cc := cX11_weather) (maxL := 7) (ret := (some .boolean)) (by decide) rfl ?_
  intro p e s m args below meth c s₁ B hml hv
  obtain ⟨rfl, hsz, hP, hK, hD0⟩ := hv
  subst hsz
  have hC : Cx p s m ([.ref h, .int x1, .int x2, .int x3, .int x4, .int x5] : List Value).toArray meth c cX11_weather (some .boolean) 7 GW RX11 := ⟨B.exec, B.bytes, B.returns, hml, findClass_of_methodNamed B.named, fun w h => atoms_spec (ws := zsX11_weather) B.pre w (List.mem_cons_of_mem _ h), B.notSynchronized⟩
  have hD := hD0.self (sz := s.heap.size)
  generalize hAe : va_A (vX11_weather cI cZ h h_all h_has h_line h_act h_pile h_comes h_leaves h_tried h_met f_size f_next f_where f_token f_number f_sign f_word f_wrong f_open f_lines f_acts r_all) s.heap.size = A at hD ⊢
  have hA : ∀ q : Nat, s.heap.size ≤ q → A q := fun q h => by rw [← hAe]; exact Or.inr h
  have hl := lv_entry ([.ref h, .int x1, .int x2, .int x3, .int x4, .int x5]) (n := 7) (Nat.le_of_ble_eq_true rfl)
  rw [lg_entry_eq]
  generalize (lg_sl ([.ref h, .int x1, .int x2, .int x3, .int x4, .int x5]) ++ List.replicate (7 - (lg_sl ([.ref h, .int x1, .int x2, .int x3, .int x4, .int x5])).length) Slot.unset).toArray = ls at hl ⊢
  exact tX11_weather_e hC hK hA x1 x2 x3 x4 x5 r_all _ _ ls hw hP hD va_S.rf hl

/-! X11_ship -/
def wX11_ship_81 (Q : Int32 → (Nat → Int32) → Prop)   : Nat → Int32 → Int32 → Int32 → Int32 → Int32 → Int32 → (Nat → Int32) → Prop
  | 0, _, _, _, _, _, _, _ => False
  | n + 1, x1, x2, x3, x4, x5, x6, r_all => (((12 : Int32) ≤ x6 → (wX11_ships (fun r_all_2 => (wX11_ships (fun r_all_3 => (wX11_ships (fun r_all_4 => (wX11_ships (fun r_all_5 => (wX11_ships (fun r_all_6 => (Q x5 r_all_6)) x5 (6 : Int32) (-1 : Int32) r_all_5)) x5 (3 : Int32) x4 r_all_4)) x5 (2 : Int32) x3 r_all_3)) x5 (1 : Int32) x2 r_all_2)) x5 (0 : Int32) x1 r_all)) ∧ (¬ (12 : Int32) ≤ x6 → (wX11_ships (fun r_all_7 => (wX11_ship_81 Q n x1 x2 x3 x4 x5 (x6 + (1 : Int32)) r_all_7)) x5 x6 (0 : Int32) r_all)))
def wX11_ship_38 (Q : Int32 → (Nat → Int32) → Prop)   (x1 : Int32) (x2 : Int32) (x3 : Int32) (x4 : Int32) (r_all : (Nat → Int32)) : Prop :=
  (wX11_isSea (fun r_8 => ((r_8 = 0 → (Q (-1 : Int32) r_all)) ∧ (¬ r_8 = 0 → (wX11_shipAt (fun r_10 => ((r_10 < 0 → (vp_in (2 : Int32) 53700 ∧ (vp_in (2 : Int32) 53700 ∧ (vp_in (2 : Int32) 53700 ∧ (∃ j_, wX11_ship_81 Q j_ x1 x2 x3 x4 (r_all (2 : Int32).toNatClampNeg) (0 : Int32) (upd r_all (2 : Int32).toNatClampNeg ((r_all (2 : Int32).toNatClampNeg) + (1 : Int32)))))))) ∧ (¬ r_10 < 0 → (Q (-1 : Int32) r_all)))) x3 x4 r_all)))) x3 x4 r_all)
def wX11_ship (Q : Int32 → (Nat → Int32) → Prop) (x1 : Int32) (x2 : Int32) (x3 : Int32) (x4 : Int32) (r_all : Nat → Int32) : Prop :=
  (vp_in (2 : Int32) 53700 ∧ (((r_all (2 : Int32).toNatClampNeg) = (8 : Int32) → (Q (-1 : Int32) r_all)) ∧ (¬ (r_all (2 : Int32).toNatClampNeg) = (8 : Int32) → (wX11_isIn (fun r_18 => ((r_18 = 0 → (Q (-1 : Int32) r_all)) ∧ (¬ r_18 = 0 → ((x2 = (-1 : Int32) → (wX11_ship_38 Q x1 x2 x3 x4 r_all)) ∧ (¬ x2 = (-1 : Int32) → (wX11_isIn (fun r_21 => ((r_21 = 0 → (Q (-1 : Int32) r_all)) ∧ (¬ r_21 = 0 → (wX11_ship_38 Q x1 x2 x3 x4 r_all)))) x2 (1 : Int32) (5000 : Int32))))))) x1 (0 : Int32) (200 : Int32)))))
abbrev vX11_ship (cI cZ : ClassId) (h h_all h_has h_line h_act h_pile h_comes h_leaves h_tried h_met : Nat) (f_size : Int32) (f_next : Int32) (f_where : Int32) (f_token : Int32) (f_number : Int32) (f_sign : Int32) (f_word : Int32) (f_wrong : Int32) (f_open : Int32) (f_lines : Int32) (f_acts : Int32) (r_all : Nat → Int32) : va_W := [(h, .inr (10, [.ref h_all, .ref h_has, .int f_size, .int f_next, .int f_where, .int f_token, .int f_number, .int f_sign, .int f_word, .int f_wrong, .int f_open, .int f_lines, .int f_acts, .ref h_line, .ref h_act, .ref h_pile, .ref h_comes, .ref h_leaves, .ref h_tried, .ref h_met])), (h_all, .inl (cI, 53700, .inl r_all))]
abbrev rmX11_ship : Room := { frames := 3, cells := 0, slots := 0, locals := 66 }
abbrev qX11_ship (dC : Nat → ClassId) (dI : Nat → Nat → Nat) (cI cZ cO cW : ClassId) (h h_all h_has h_line h_act h_pile h_comes h_leaves h_tried h_met : Nat) (f_size : Int32) (f_next : Int32) (f_where : Int32) (f_token : Int32) (f_number : Int32) (f_sign : Int32) (f_word : Int32) (f_wrong : Int32) (f_open : Int32) (f_lines : Int32) (f_acts : Int32) (Q : Int32 → (Nat → Int32) → Prop) (A : Nat → Prop) : Array Value → State → Outcome → State → Prop := va_Qi (fun (r : Int32) (u : (Nat → Int32)) => Q r u) (fun (u : (Nat → Int32)) (t : State) => va_P (dC, dI) vwCl (vX11_ship cI cZ h h_all h_has h_line h_act h_pile h_comes h_leaves h_tried h_met f_size f_next f_where f_token f_number f_sign f_word f_wrong f_open f_lines f_acts u) t.heap ∧ va_K (dC, dI) vwCl (tysA cI cZ cO cW) t ∧ va_D A (vX11_ship cI cZ h h_all h_has h_line h_act h_pile h_comes h_leaves h_tried h_met f_size f_next f_where f_token f_number f_sign f_word f_wrong f_open f_lines f_acts u)) A
def zsX11_ship : List Cond := Cond.code yX11_ship cX11_ship 7 (some .int) :: GW
set_option maxHeartbeats 4000000 in
set_option maxRecDepth 100000 in
theorem tX11_ship_81 {p : Program} {l : Launch} {e : Env} {s : State} {m : MethodId} {args : Array Value} {below : List Frame} {meth : Method} {c : Code} {dC : Nat → ClassId} {dI : Nat → Nat → Nat} {cI cZ cO cW : ClassId} {A : Nat → Prop} {h h_all h_has h_line h_act h_pile h_comes h_leaves h_tried h_met : Nat} {f_size f_next f_where f_token f_number f_sign f_word f_wrong f_open f_lines f_acts : Int32} {Q : Int32 → (Nat → Int32) → Prop}  (hC : Cx p s m args meth c cX11_ship (some .int) 7 GW RX11) (hK : va_K (dC, dI) vwCl (tysA cI cZ cO cW) s) (hA : ∀ q : Nat, s.heap.size ≤ q → A q) :
    ∀ (n : Nat) (x1 : Int32) (x2 : Int32) (x3 : Int32) (x4 : Int32) (x5 : Int32) (x6 : Int32) (r_all : (Nat → Int32)) (H : Heap) (locs : List Loc) (ls : Array Slot), wX11_ship_81 Q  n x1 x2 x3 x4 x5 x6 r_all → va_P (dC, dI) vwCl (vX11_ship cI cZ h h_all h_has h_line h_act h_pile h_comes h_leaves h_tried h_met f_size f_next f_where f_token f_number f_sign f_word f_wrong f_open f_lines f_acts r_all) H → va_D A (vX11_ship cI cZ h h_all h_has h_line h_act h_pile h_comes h_leaves h_tried h_met f_size f_next f_where f_token f_number f_sign f_word f_wrong f_open f_lines f_acts r_all) → va_S A s.heap H locs → lv_has ls 7 [(0, .ref h), (1, .int x1), (2, .int x2), (3, .int x3), (4, .int x4), (5, .int x5), (6, .int x6)] → W p l e rmX11_ship s m args below meth c H locs 0 0 (MQ below (qX11_ship dC dI cI cZ cO cW h h_all h_has h_line h_act h_pile h_comes h_leaves h_tried h_met f_size f_next f_where f_token f_number f_sign f_word f_wrong f_open f_lines f_acts Q A) args s 0 0 A) (F0 m 81 ls []) := by
  obtain ⟨hx, hb, hr, hml, hown, hts, hlocks⟩ := id hC
  intro n
  induction n with
  | zero =>
    intro  x1 x2 x3 x4 x5 x6 r_all H locs ls hw
    exact hw.elim
  | succ n ih =>
    intro  x1 x2 x3 x4 x5 x6 r_all H locs ls hw hP hD hS hl
    refine lv_iload hx hb dX11_ship_81 (lv_at hl 6 rfl) ?_
    refine lv_bipush (v := (12 : Int32)) hx hb dX11_ship_83 (by decide) ?_
    refine lv_icmp_ge (tgt := 103) hx hb dX11_ship_85 (by decide) (fun c_1 => ?_) (fun c_1 => ?_)
    · have hw := hw.1 c_1
      refine lv_aload_n hx hb dX11_ship_103 rfl (lv_at hl 0 rfl) ?_
      refine lv_iload hx hb dX11_ship_104 (lv_at hl 5 rfl) ?_
      refine lv_iconst (v := (0 : Int32)) hx hb dX11_ship_106 (by decide) ?_
      refine lv_iload_n hx hb dX11_ship_107 rfl (lv_at hl 1 rfl) ?_
      have hPc := hP.sub (ws' := [(h, .inr (10, [.ref h_all, .ref h_has, .int f_size, .int f_next, .int f_where, .int f_token, .int f_number, .int f_sign, .int f_word, .int f_wrong, .int f_open, .int f_lines, .int f_acts, .ref h_line, .ref h_act, .ref h_pile, .ref h_comes, .ref h_leaves, .ref h_tried, .ref h_met])), (h_all, .inl (cI, 53700, .inl r_all))]) [0, 1] rfl
      have hDc := hD.sub (ws' := [(h, .inr (10, [.ref h_all, .ref h_has, .int f_size, .int f_next, .int f_where, .int f_token, .int f_number, .int f_sign, .int f_word, .int f_wrong, .int f_open, .int f_lines, .int f_acts, .ref h_line, .ref h_act, .ref h_pile, .ref h_comes, .ref h_leaves, .ref h_tried, .ref h_met])), (h_all, .inl (cI, 53700, .inl r_all))]) [0, 1] (by decide) rfl
      have hFc := va_free (wc := [(h, .inr (10, [.ref h_all, .ref h_has, .int f_size, .int f_next, .int f_where, .int f_token, .int f_number, .int f_sign, .int f_word, .int f_wrong, .int f_open, .int f_lines, .int f_acts, .ref h_line, .ref h_act, .ref h_pile, .ref h_comes, .ref h_leaves, .ref h_tried, .ref h_met])), (h_all, .inl (cI, 53700, .inl r_all))]) hD hS hA [0, 1] rfl
      refine va_callv (va_runV (As := [.int x5, .int (0 : Int32), .int x1]) (rest := []) ⟨hx, hb, hml, hown, hts⟩ (kX11_ships l dC dI cI cZ cO cW h h_all h_has h_line h_act h_pile h_comes h_leaves h_tried h_met H.size f_size f_next f_where f_token f_number f_sign f_word f_wrong f_open f_lines f_acts r_all x5 (0 : Int32) x1 _ hw) (cwV 3 hts (gV gw_655 gw_656 gw_657 gw_622 (gM gw_638)) rfl rfl rfl (by decide +kernel) ⟨Nat.le_of_ble_eq_true rfl, Nat.le_of_ble_eq_true rfl⟩) (pv_of hPc hK hDc (va_recv hK hPc (ci := 10) (q0 := 0) rfl rfl)) rfl rfl hl.1 rfl (lv_room (Nat.le_of_ble_eq_true rfl)) dX11_ship_108 ⟨Nat.zero_le _, Nat.zero_le _⟩) hS (fun q _ h => hFc q h) hFc (fun u t H locs ht hvm hw hB hz1 hk1 hS => ?_)
      obtain ⟨r_all_2, rfl⟩ : ∃ z, z = u := ⟨_, rfl⟩
      obtain ⟨hP, hD⟩ := af_join (wr := []) (w1 := [(h, .inr (10, [.ref h_all, .ref h_has, .int f_size, .int f_next, .int f_where, .int f_token, .int f_number, .int f_sign, .int f_word, .int f_wrong, .int f_open, .int f_lines, .int f_acts, .ref h_line, .ref h_act, .ref h_pile, .ref h_comes, .ref h_leaves, .ref h_tried, .ref h_met])), (h_all, .inl (cI, 53700, .inl r_all_2))]) hB ht hP hD [0, 1] [] rfl rfl (by decide) (by decide) hk1 hFc
      have hP : va_P (dC, dI) vwCl [(h, .inr (10, [.ref h_all, .ref h_has, .int f_size, .int f_next, .int f_where, .int f_token, .int f_number, .int f_sign, .int f_word, .int f_wrong, .int f_open, .int f_lines, .int f_acts, .ref h_line, .ref h_act, .ref h_pile, .ref h_comes, .ref h_leaves, .ref h_tried, .ref h_met])), (h_all, .inl (cI, 53700, .inl r_all_2))] _ := hP
      have hD : va_D A [(h, .inr (10, [.ref h_all, .ref h_has, .int f_size, .int f_next, .int f_where, .int f_token, .int f_number, .int f_sign, .int f_word, .int f_wrong, .int f_open, .int f_lines, .int f_acts, .ref h_line, .ref h_act, .ref h_pile, .ref h_comes, .ref h_leaves, .ref h_tried, .ref h_met])), (h_all, .inl (cI, 53700, .inl r_all_2))] := hD
      refine lv_aload_n hx hb dX11_ship_111 rfl (lv_at hl 0 rfl) ?_
      refine lv_iload hx hb dX11_ship_112 (lv_at hl 5 rfl) ?_
      refine lv_iconst (v := (1 : Int32)) hx hb dX11_ship_114 (by decide) ?_
      refine lv_iload_n hx hb dX11_ship_115 rfl (lv_at hl 2 rfl) ?_
      have hPc := hP.sub (ws' := [(h, .inr (10, [.ref h_all, .ref h_has, .int f_size, .int f_next, .int f_where, .int f_token, .int f_number, .int f_sign, .int f_word, .int f_wrong, .int f_open, .int f_lines, .int f_acts, .ref h_line, .ref h_act, .ref h_pile, .ref h_comes, .ref h_leaves, .ref h_tried, .ref h_met])), (h_all, .inl (cI, 53700, .inl r_all_2))]) [0, 1] rfl
      have hDc := hD.sub (ws' := [(h, .inr (10, [.ref h_all, .ref h_has, .int f_size, .int f_next, .int f_where, .int f_token, .int f_number, .int f_sign, .int f_word, .int f_wrong, .int f_open, .int f_lines, .int f_acts, .ref h_line, .ref h_act, .ref h_pile, .ref h_comes, .ref h_leaves, .ref h_tried, .ref h_met])), (h_all, .inl (cI, 53700, .inl r_all_2))]) [0, 1] (by decide) rfl
      have hFc := va_free (wc := [(h, .inr (10, [.ref h_all, .ref h_has, .int f_size, .int f_next, .int f_where, .int f_token, .int f_number, .int f_sign, .int f_word, .int f_wrong, .int f_open, .int f_lines, .int f_acts, .ref h_line, .ref h_act, .ref h_pile, .ref h_comes, .ref h_leaves, .ref h_tried, .ref h_met])), (h_all, .inl (cI, 53700, .inl r_all_2))]) hD hS hA [0, 1] rfl
      refine va_callv (va_runV (As := [.int x5, .int (1 : Int32), .int x2]) (rest := []) ⟨hx, hb, hml, hown, hts⟩ (kX11_ships l dC dI cI cZ cO cW h h_all h_has h_line h_act h_pile h_comes h_leaves h_tried h_met H.size f_size f_next f_where f_token f_number f_sign f_word f_wrong f_open f_lines f_acts r_all_2 x5 (1 : Int32) x2 _ hw) (cwV 3 hts (gV gw_655 gw_656 gw_657 gw_622 (gM gw_638)) rfl rfl rfl (by decide +kernel) ⟨Nat.le_of_ble_eq_true rfl, Nat.le_of_ble_eq_true rfl⟩) (pv_of hPc hK hDc (va_recv hK hPc (ci := 10) (q0 := 0) rfl rfl)) rfl rfl hl.1 rfl (lv_room (Nat.le_of_ble_eq_true rfl)) dX11_ship_116 ⟨Nat.zero_le _, Nat.zero_le _⟩) hS (fun q _ h => hFc q h) hFc (fun u t H locs ht hvm hw hB hz1 hk1 hS => ?_)
      obtain ⟨r_all_3, rfl⟩ : ∃ z, z = u := ⟨_, rfl⟩
      obtain ⟨hP, hD⟩ := af_join (wr := []) (w1 := [(h, .inr (10, [.ref h_all, .ref h_has, .int f_size, .int f_next, .int f_where, .int f_token, .int f_number, .int f_sign, .int f_word, .int f_wrong, .int f_open, .int f_lines, .int f_acts, .ref h_line, .ref h_act, .ref h_pile, .ref h_comes, .ref h_leaves, .ref h_tried, .ref h_met])), (h_all, .inl (cI, 53700, .inl r_all_3))]) hB ht hP hD [0, 1] [] rfl rfl (by decide) (by decide) hk1 hFc
      have hP : va_P (dC, dI) vwCl [(h, .inr (10, [.ref h_all, .ref h_has, .int f_size, .int f_next, .int f_where, .int f_token, .int f_number, .int f_sign, .int f_word, .int f_wrong, .int f_open, .int f_lines, .int f_acts, .ref h_line, .ref h_act, .ref h_pile, .ref h_comes, .ref h_leaves, .ref h_tried, .ref h_met])), (h_all, .inl (cI, 53700, .inl r_all_3))] _ := hP
      have hD : va_D A [(h, .inr (10, [.ref h_all, .ref h_has, .int f_size, .int f_next, .int f_where, .int f_token, .int f_number, .int f_sign, .int f_word, .int f_wrong, .int f_open, .int f_lines, .int f_acts, .ref h_line, .ref h_act, .ref h_pile, .ref h_comes, .ref h_leaves, .ref h_tried, .ref h_met])), (h_all, .inl (cI, 53700, .inl r_all_3))] := hD
      refine lv_aload_n hx hb dX11_ship_119 rfl (lv_at hl 0 rfl) ?_
      refine lv_iload hx hb dX11_ship_120 (lv_at hl 5 rfl) ?_
      refine lv_iconst (v := (2 : Int32)) hx hb dX11_ship_122 (by decide) ?_
      refine lv_iload_n hx hb dX11_ship_123 rfl (lv_at hl 3 rfl) ?_
      have hPc := hP.sub (ws' := [(h, .inr (10, [.ref h_all, .ref h_has, .int f_size, .int f_next, .int f_where, .int f_token, .int f_number, .int f_sign, .int f_word, .int f_wrong, .int f_open, .int f_lines, .int f_acts, .ref h_line, .ref h_act, .ref h_pile, .ref h_comes, .ref h_leaves, .ref h_tried, .ref h_met])), (h_all, .inl (cI, 53700, .inl r_all_3))]) [0, 1] rfl
      have hDc := hD.sub (ws' := [(h, .inr (10, [.ref h_all, .ref h_has, .int f_size, .int f_next, .int f_where, .int f_token, .int f_number, .int f_sign, .int f_word, .int f_wrong, .int f_open, .int f_lines, .int f_acts, .ref h_line, .ref h_act, .ref h_pile, .ref h_comes, .ref h_leaves, .ref h_tried, .ref h_met])), (h_all, .inl (cI, 53700, .inl r_all_3))]) [0, 1] (by decide) rfl
      have hFc := va_free (wc := [(h, .inr (10, [.ref h_all, .ref h_has, .int f_size, .int f_next, .int f_where, .int f_token, .int f_number, .int f_sign, .int f_word, .int f_wrong, .int f_open, .int f_lines, .int f_acts, .ref h_line, .ref h_act, .ref h_pile, .ref h_comes, .ref h_leaves, .ref h_tried, .ref h_met])), (h_all, .inl (cI, 53700, .inl r_all_3))]) hD hS hA [0, 1] rfl
      refine va_callv (va_runV (As := [.int x5, .int (2 : Int32), .int x3]) (rest := []) ⟨hx, hb, hml, hown, hts⟩ (kX11_ships l dC dI cI cZ cO cW h h_all h_has h_line h_act h_pile h_comes h_leaves h_tried h_met H.size f_size f_next f_where f_token f_number f_sign f_word f_wrong f_open f_lines f_acts r_all_3 x5 (2 : Int32) x3 _ hw) (cwV 3 hts (gV gw_655 gw_656 gw_657 gw_622 (gM gw_638)) rfl rfl rfl (by decide +kernel) ⟨Nat.le_of_ble_eq_true rfl, Nat.le_of_ble_eq_true rfl⟩) (pv_of hPc hK hDc (va_recv hK hPc (ci := 10) (q0 := 0) rfl rfl)) rfl rfl hl.1 rfl (lv_room (Nat.le_of_ble_eq_true rfl)) dX11_ship_124 ⟨Nat.zero_le _, Nat.zero_le _⟩) hS (fun q _ h => hFc q h) hFc (fun u t H locs ht hvm hw hB hz1 hk1 hS => ?_)
      obtain ⟨r_all_4, rfl⟩ : ∃ z, z = u := ⟨_, rfl⟩
      obtain ⟨hP, hD⟩ := af_join (wr := []) (w1 := [(h, .inr (10, [.ref h_all, .ref h_has, .int f_size, .int f_next, .int f_where, .int f_token, .int f_number, .int f_sign, .int f_word, .int f_wrong, .int f_open, .int f_lines, .int f_acts, .ref h_line, .ref h_act, .ref h_pile, .ref h_comes, .ref h_leaves, .ref h_tried, .ref h_met])), (h_all, .inl (cI, 53700, .inl r_all_4))]) hB ht hP hD [0, 1] [] rfl rfl (by decide) (by decide) hk1 hFc
      have hP : va_P (dC, dI) vwCl [(h, .inr (10, [.ref h_all, .ref h_has, .int f_size, .int f_next, .int f_where, .int f_token, .int f_number, .int f_sign, .int f_word, .int f_wrong, .int f_open, .int f_lines, .int f_acts, .ref h_line, .ref h_act, .ref h_pile, .ref h_comes, .ref h_leaves, .ref h_tried, .ref h_met])), (h_all, .inl (cI, 53700, .inl r_all_4))] _ := hP
      have hD : va_D A [(h, .inr (10, [.ref h_all, .ref h_has, .int f_size, .int f_next, .int f_where, .int f_token, .int f_number, .int f_sign, .int f_word, .int f_wrong, .int f_open, .int f_lines, .int f_acts, .ref h_line, .ref h_act, .ref h_pile, .ref h_comes, .ref h_leaves, .ref h_tried, .ref h_met])), (h_all, .inl (cI, 53700, .inl r_all_4))] := hD
      refine lv_aload_n hx hb dX11_ship_127 rfl (lv_at hl 0 rfl) ?_
      refine lv_iload hx hb dX11_ship_128 (lv_at hl 5 rfl) ?_
      refine lv_iconst (v := (3 : Int32)) hx hb dX11_ship_130 (by decide) ?_
      refine lv_iload hx hb dX11_ship_131 (lv_at hl 4 rfl) ?_
      have hPc := hP.sub (ws' := [(h, .inr (10, [.ref h_all, .ref h_has, .int f_size, .int f_next, .int f_where, .int f_token, .int f_number, .int f_sign, .int f_word, .int f_wrong, .int f_open, .int f_lines, .int f_acts, .ref h_line, .ref h_act, .ref h_pile, .ref h_comes, .ref h_leaves, .ref h_tried, .ref h_met])), (h_all, .inl (cI, 53700, .inl r_all_4))]) [0, 1] rfl
      have hDc := hD.sub (ws' := [(h, .inr (10, [.ref h_all, .ref h_has, .int f_size, .int f_next, .int f_where, .int f_token, .int f_number, .int f_sign, .int f_word, .int f_wrong, .int f_open, .int f_lines, .int f_acts, .ref h_line, .ref h_act, .ref h_pile, .ref h_comes, .ref h_leaves, .ref h_tried, .ref h_met])), (h_all, .inl (cI, 53700, .inl r_all_4))]) [0, 1] (by decide) rfl
      have hFc := va_free (wc := [(h, .inr (10, [.ref h_all, .ref h_has, .int f_size, .int f_next, .int f_where, .int f_token, .int f_number, .int f_sign, .int f_word, .int f_wrong, .int f_open, .int f_lines, .int f_acts, .ref h_line, .ref h_act, .ref h_pile, .ref h_comes, .ref h_leaves, .ref h_tried, .ref h_met])), (h_all, .inl (cI, 53700, .inl r_all_4))]) hD hS hA [0, 1] rfl
      refine va_callv (va_runV (As := [.int x5, .int (3 : Int32), .int x4]) (rest := []) ⟨hx, hb, hml, hown, hts⟩ (kX11_ships l dC dI cI cZ cO cW h h_all h_has h_line h_act h_pile h_comes h_leaves h_tried h_met H.size f_size f_next f_where f_token f_number f_sign f_word f_wrong f_open f_lines f_acts r_all_4 x5 (3 : Int32) x4 _ hw) (cwV 3 hts (gV gw_655 gw_656 gw_657 gw_622 (gM gw_638)) rfl rfl rfl (by decide +kernel) ⟨Nat.le_of_ble_eq_true rfl, Nat.le_of_ble_eq_true rfl⟩) (pv_of hPc hK hDc (va_recv hK hPc (ci := 10) (q0 := 0) rfl rfl)) rfl rfl hl.1 rfl (lv_room (Nat.le_of_ble_eq_true rfl)) dX11_ship_133 ⟨Nat.zero_le _, Nat.zero_le _⟩) hS (fun q _ h => hFc q h) hFc (fun u t H locs ht hvm hw hB hz1 hk1 hS => ?_)
      obtain ⟨r_all_5, rfl⟩ : ∃ z, z = u := ⟨_, rfl⟩
      obtain ⟨hP, hD⟩ := af_join (wr := []) (w1 := [(h, .inr (10, [.ref h_all, .ref h_has, .int f_size, .int f_next, .int f_where, .int f_token, .int f_number, .int f_sign, .int f_word, .int f_wrong, .int f_open, .int f_lines, .int f_acts, .ref h_line, .ref h_act, .ref h_pile, .ref h_comes, .ref h_leaves, .ref h_tried, .ref h_met])), (h_all, .inl (cI, 53700, .inl r_all_5))]) hB ht hP hD [0, 1] [] rfl rfl (by decide) (by decide) hk1 hFc
      have hP : va_P (dC, dI) vwCl [(h, .inr (10, [.ref h_all, .ref h_has, .int f_size, .int f_next, .int f_where, .int f_token, .int f_number, .int f_sign, .int f_word, .int f_wrong, .int f_open, .int f_lines, .int f_acts, .ref h_line, .ref h_act, .ref h_pile, .ref h_comes, .ref h_leaves, .ref h_tried, .ref h_met])), (h_all, .inl (cI, 53700, .inl r_all_5))] _ := hP
      have hD : va_D A [(h, .inr (10, [.ref h_all, .ref h_has, .int f_size, .int f_next, .int f_where, .int f_token, .int f_number, .int f_sign, .int f_word, .int f_wrong, .int f_open, .int f_lines, .int f_acts, .ref h_line, .ref h_act, .ref h_pile, .ref h_comes, .ref h_leaves, .ref h_tried, .ref h_met])), (h_all, .inl (cI, 53700, .inl r_all_5))] := hD
      refine lv_aload_n hx hb dX11_ship_136 rfl (lv_at hl 0 rfl) ?_
      refine lv_iload hx hb dX11_ship_137 (lv_at hl 5 rfl) ?_
      refine lv_bipush (v := (6 : Int32)) hx hb dX11_ship_139 (by decide) ?_
      refine lv_iconst (v := (-1 : Int32)) hx hb dX11_ship_141 (by decide) ?_
      have hPc := hP.sub (ws' := [(h, .inr (10, [.ref h_all, .ref h_has, .int f_size, .int f_next, .int f_where, .int f_token, .int f_number, .int f_sign, .int f_word, .int f_wrong, .int f_open, .int f_lines, .int f_acts, .ref h_line, .ref h_act, .ref h_pile, .ref h_comes, .ref h_leaves, .ref h_tried, .ref h_met])), (h_all, .inl (cI, 53700, .inl r_all_5))]) [0, 1] rfl
      have hDc := hD.sub (ws' := [(h, .inr (10, [.ref h_all, .ref h_has, .int f_size, .int f_next, .int f_where, .int f_token, .int f_number, .int f_sign, .int f_word, .int f_wrong, .int f_open, .int f_lines, .int f_acts, .ref h_line, .ref h_act, .ref h_pile, .ref h_comes, .ref h_leaves, .ref h_tried, .ref h_met])), (h_all, .inl (cI, 53700, .inl r_all_5))]) [0, 1] (by decide) rfl
      have hFc := va_free (wc := [(h, .inr (10, [.ref h_all, .ref h_has, .int f_size, .int f_next, .int f_where, .int f_token, .int f_number, .int f_sign, .int f_word, .int f_wrong, .int f_open, .int f_lines, .int f_acts, .ref h_line, .ref h_act, .ref h_pile, .ref h_comes, .ref h_leaves, .ref h_tried, .ref h_met])), (h_all, .inl (cI, 53700, .inl r_all_5))]) hD hS hA [0, 1] rfl
      refine va_callv (va_runV (As := [.int x5, .int (6 : Int32), .int (-1 : Int32)]) (rest := []) ⟨hx, hb, hml, hown, hts⟩ (kX11_ships l dC dI cI cZ cO cW h h_all h_has h_line h_act h_pile h_comes h_leaves h_tried h_met H.size f_size f_next f_where f_token f_number f_sign f_word f_wrong f_open f_lines f_acts r_all_5 x5 (6 : Int32) (-1 : Int32) _ hw) (cwV 3 hts (gV gw_655 gw_656 gw_657 gw_622 (gM gw_638)) rfl rfl rfl (by decide +kernel) ⟨Nat.le_of_ble_eq_true rfl, Nat.le_of_ble_eq_true rfl⟩) (pv_of hPc hK hDc (va_recv hK hPc (ci := 10) (q0 := 0) rfl rfl)) rfl rfl hl.1 rfl (lv_room (Nat.le_of_ble_eq_true rfl)) dX11_ship_142 ⟨Nat.zero_le _, Nat.zero_le _⟩) hS (fun q _ h => hFc q h) hFc (fun u t H locs ht hvm hw hB hz1 hk1 hS => ?_)
      obtain ⟨r_all_6, rfl⟩ : ∃ z, z = u := ⟨_, rfl⟩
      obtain ⟨hP, hD⟩ := af_join (wr := []) (w1 := [(h, .inr (10, [.ref h_all, .ref h_has, .int f_size, .int f_next, .int f_where, .int f_token, .int f_number, .int f_sign, .int f_word, .int f_wrong, .int f_open, .int f_lines, .int f_acts, .ref h_line, .ref h_act, .ref h_pile, .ref h_comes, .ref h_leaves, .ref h_tried, .ref h_met])), (h_all, .inl (cI, 53700, .inl r_all_6))]) hB ht hP hD [0, 1] [] rfl rfl (by decide) (by decide) hk1 hFc
      have hP : va_P (dC, dI) vwCl [(h, .inr (10, [.ref h_all, .ref h_has, .int f_size, .int f_next, .int f_where, .int f_token, .int f_number, .int f_sign, .int f_word, .int f_wrong, .int f_open, .int f_lines, .int f_acts, .ref h_line, .ref h_act, .ref h_pile, .ref h_comes, .ref h_leaves, .ref h_tried, .ref h_met])), (h_all, .inl (cI, 53700, .inl r_all_6))] _ := hP
      have hD : va_D A [(h, .inr (10, [.ref h_all, .ref h_has, .int f_size, .int f_next, .int f_where, .int f_token, .int f_number, .int f_sign, .int f_word, .int f_wrong, .int f_open, .int f_lines, .int f_acts, .ref h_line, .ref h_act, .ref h_pile, .ref h_comes, .ref h_leaves, .ref h_tried, .ref h_met])), (h_all, .inl (cI, 53700, .inl r_all_6))] := hD
      refine lv_iload hx hb dX11_ship_145 (lv_at hl 5 rfl) ?_
      have hP9 := hP.sub (ws' := (vX11_ship cI cZ h h_all h_has h_line h_act h_pile h_comes h_leaves h_tried h_met f_size f_next f_where f_token f_number f_sign f_word f_wrong f_open f_lines f_acts r_all_6)) [0, 1] rfl
      have hD9 := hD.sub (ws' := (vX11_ship cI cZ h h_all h_has h_line h_act h_pile h_comes h_leaves h_tried h_met f_size f_next f_where f_token f_number f_sign f_word f_wrong f_open f_lines f_acts r_all_6)) [0, 1] (by decide) rfl
      exact W.iret (v := x5) hx hb hr (fun t ht hW => ⟨⟨x5, r_all_6, rfl, hw, by rw [ht]; exact hP9, va_K.moved hW.alike hK, hD9⟩, hS.F ht⟩) hS.2.2 dX11_ship_147
    · have hw := hw.2 c_1
      refine lv_aload_n hx hb dX11_ship_88 rfl (lv_at hl 0 rfl) ?_
      refine lv_iload hx hb dX11_ship_89 (lv_at hl 5 rfl) ?_
      refine lv_iload hx hb dX11_ship_91 (lv_at hl 6 rfl) ?_
      refine lv_iconst (v := (0 : Int32)) hx hb dX11_ship_93 (by decide) ?_
      have hPc := hP.sub (ws' := [(h, .inr (10, [.ref h_all, .ref h_has, .int f_size, .int f_next, .int f_where, .int f_token, .int f_number, .int f_sign, .int f_word, .int f_wrong, .int f_open, .int f_lines, .int f_acts, .ref h_line, .ref h_act, .ref h_pile, .ref h_comes, .ref h_leaves, .ref h_tried, .ref h_met])), (h_all, .inl (cI, 53700, .inl r_all))]) [0, 1] rfl
      have hDc := hD.sub (ws' := [(h, .inr (10, [.ref h_all, .ref h_has, .int f_size, .int f_next, .int f_where, .int f_token, .int f_number, .int f_sign, .int f_word, .int f_wrong, .int f_open, .int f_lines, .int f_acts, .ref h_line, .ref h_act, .ref h_pile, .ref h_comes, .ref h_leaves, .ref h_tried, .ref h_met])), (h_all, .inl (cI, 53700, .inl r_all))]) [0, 1] (by decide) rfl
      have hFc := va_free (wc := [(h, .inr (10, [.ref h_all, .ref h_has, .int f_size, .int f_next, .int f_where, .int f_token, .int f_number, .int f_sign, .int f_word, .int f_wrong, .int f_open, .int f_lines, .int f_acts, .ref h_line, .ref h_act, .ref h_pile, .ref h_comes, .ref h_leaves, .ref h_tried, .ref h_met])), (h_all, .inl (cI, 53700, .inl r_all))]) hD hS hA [0, 1] rfl
      refine va_callv (va_runV (As := [.int x5, .int x6, .int (0 : Int32)]) (rest := []) ⟨hx, hb, hml, hown, hts⟩ (kX11_ships l dC dI cI cZ cO cW h h_all h_has h_line h_act h_pile h_comes h_leaves h_tried h_met H.size f_size f_next f_where f_token f_number f_sign f_word f_wrong f_open f_lines f_acts r_all x5 x6 (0 : Int32) _ hw) (cwV 3 hts (gV gw_655 gw_656 gw_657 gw_622 (gM gw_638)) rfl rfl rfl (by decide +kernel) ⟨Nat.le_of_ble_eq_true rfl, Nat.le_of_ble_eq_true rfl⟩) (pv_of hPc hK hDc (va_recv hK hPc (ci := 10) (q0 := 0) rfl rfl)) rfl rfl hl.1 rfl (lv_room (Nat.le_of_ble_eq_true rfl)) dX11_ship_94 ⟨Nat.zero_le _, Nat.zero_le _⟩) hS (fun q _ h => hFc q h) hFc (fun u t H locs ht hvm hw hB hz1 hk1 hS => ?_)
      obtain ⟨r_all_7, rfl⟩ : ∃ z, z = u := ⟨_, rfl⟩
      obtain ⟨hP, hD⟩ := af_join (wr := []) (w1 := [(h, .inr (10, [.ref h_all, .ref h_has, .int f_size, .int f_next, .int f_where, .int f_token, .int f_number, .int f_sign, .int f_word, .int f_wrong, .int f_open, .int f_lines, .int f_acts, .ref h_line, .ref h_act, .ref h_pile, .ref h_comes, .ref h_leaves, .ref h_tried, .ref h_met])), (h_all, .inl (cI, 53700, .inl r_all_7))]) hB ht hP hD [0, 1] [] rfl rfl (by decide) (by decide) hk1 hFc
      have hP : va_P (dC, dI) vwCl [(h, .inr (10, [.ref h_all, .ref h_has, .int f_size, .int f_next, .int f_where, .int f_token, .int f_number, .int f_sign, .int f_word, .int f_wrong, .int f_open, .int f_lines, .int f_acts, .ref h_line, .ref h_act, .ref h_pile, .ref h_comes, .ref h_leaves, .ref h_tried, .ref h_met])), (h_all, .inl (cI, 53700, .inl r_all_7))] _ := hP
      have hD : va_D A [(h, .inr (10, [.ref h_all, .ref h_has, .int f_size, .int f_next, .int f_where, .int f_token, .int f_number, .int f_sign, .int f_word, .int f_wrong, .int f_open, .int f_lines, .int f_acts, .ref h_line, .ref h_act, .ref h_pile, .ref h_comes, .ref h_leaves, .ref h_tried, .ref h_met])), (h_all, .inl (cI, 53700, .inl r_all_7))] := hD
      refine lv_iinc (v := (x6 + (1 : Int32))) (lv' := [(6, .int (x6 + (1 : Int32))), (0, .ref h), (1, .int x1), (2, .int x2), (3, .int x3), (4, .int x4), (5, .int x5)]) hx hb dX11_ship_97 hl (k := 6) rfl rfl (by decide) rfl (fun ls hl => ?_)
      refine lv_goto (tgt := 81) hx hb dX11_ship_100 (by decide) ?_
      exact ih x1 x2 x3 x4 x5 (x6 + (1 : Int32)) r_all_7 _ _ ls hw (hP.sub [0, 1] rfl) (hD.sub [0, 1] (by decide) rfl) hS (lv_sub hl [1, 2, 3, 4, 5, 6, 0] rfl)
set_option maxHeartbeats 4000000 in
set_option maxRecDepth 100000 in
theorem tX11_ship_38 {p : Program} {l : Launch} {e : Env} {s : State} {m : MethodId} {args : Array Value} {below : List Frame} {meth : Method} {c : Code} {dC : Nat → ClassId} {dI : Nat → Nat → Nat} {cI cZ cO cW : ClassId} {A : Nat → Prop} {h h_all h_has h_line h_act h_pile h_comes h_leaves h_tried h_met : Nat} {f_size f_next f_where f_token f_number f_sign f_word f_wrong f_open f_lines f_acts : Int32} {Q : Int32 → (Nat → Int32) → Prop}  (hC : Cx p s m args meth c cX11_ship (some .int) 7 GW RX11) (hK : va_K (dC, dI) vwCl (tysA cI cZ cO cW) s) (hA : ∀ q : Nat, s.heap.size ≤ q → A q) :
    ∀ (x1 : Int32) (x2 : Int32) (x3 : Int32) (x4 : Int32) (r_all : (Nat → Int32)) (H : Heap) (locs : List Loc) (ls : Array Slot), wX11_ship_38 Q  x1 x2 x3 x4 r_all → va_P (dC, dI) vwCl (vX11_ship cI cZ h h_all h_has h_line h_act h_pile h_comes h_leaves h_tried h_met f_size f_next f_where f_token f_number f_sign f_word f_wrong f_open f_lines f_acts r_all) H → va_D A (vX11_ship cI cZ h h_all h_has h_line h_act h_pile h_comes h_leaves h_tried h_met f_size f_next f_where f_token f_number f_sign f_word f_wrong f_open f_lines f_acts r_all) → va_S A s.heap H locs → lv_has ls 7 [(0, .ref h), (1, .int x1), (2, .int x2), (3, .int x3), (4, .int x4)] → W p l e rmX11_ship s m args below meth c H locs 0 0 (MQ below (qX11_ship dC dI cI cZ cO cW h h_all h_has h_line h_act h_pile h_comes h_leaves h_tried h_met f_size f_next f_where f_token f_number f_sign f_word f_wrong f_open f_lines f_acts Q A) args s 0 0 A) (F0 m 38 ls []) := by
  obtain ⟨hx, hb, hr, hml, hown, hts, hlocks⟩ := id hC
  intro x1 x2 x3 x4 r_all H locs ls hw hP hD hS hl
  refine lv_aload_n hx hb dX11_ship_38 rfl (lv_at hl 0 rfl) ?_
  refine lv_iload_n hx hb dX11_ship_39 rfl (lv_at hl 3 rfl) ?_
  refine lv_iload hx hb dX11_ship_40 (lv_at hl 4 rfl) ?_
  have hPc := hP.sub (ws' := [(h, .inr (10, [.ref h_all, .ref h_has, .int f_size, .int f_next, .int f_where, .int f_token, .int f_number, .int f_sign, .int f_word, .int f_wrong, .int f_open, .int f_lines, .int f_acts, .ref h_line, .ref h_act, .ref h_pile, .ref h_comes, .ref h_leaves, .ref h_tried, .ref h_met])), (h_all, .inl (cI, 53700, .inl r_all))]) [0, 1] rfl
  have hDc := hD.sub (ws' := [(h, .inr (10, [.ref h_all, .ref h_has, .int f_size, .int f_next, .int f_where, .int f_token, .int f_number, .int f_sign, .int f_word, .int f_wrong, .int f_open, .int f_lines, .int f_acts, .ref h_line, .ref h_act, .ref h_pile, .ref h_comes, .ref h_leaves, .ref h_tried, .ref h_met])), (h_all, .inl (cI, 53700, .inl r_all))]) [0, 1] (by decide) rfl
  have hFc := va_free (wc := [(h, .inr (10, [.ref h_all, .ref h_has, .int f_size, .int f_next, .int f_where, .int f_token, .int f_number, .int f_sign, .int f_word, .int f_wrong, .int f_open, .int f_lines, .int f_acts, .ref h_line, .ref h_act, .ref h_pile, .ref h_comes, .ref h_leaves, .ref h_tried, .ref h_met])), (h_all, .inl (cI, 53700, .inl r_all))]) hD hS hA [0, 1] rfl
  refine va_calli (va_runV (As := [.int x3, .int x4]) (rest := []) ⟨hx, hb, hml, hown, hts⟩ (kX11_isSea l dC dI cI cZ cO cW h h_all h_has h_line h_act h_pile h_comes h_leaves h_tried h_met H.size f_size f_next f_where f_token f_number f_sign f_word f_wrong f_open f_lines f_acts r_all x3 x4 _ hw) (cwV 2 hts (gV gw_651 gw_652 gw_653 gw_622 (gM gw_630)) rfl rfl rfl (by decide +kernel) ⟨Nat.le_of_ble_eq_true rfl, Nat.le_of_ble_eq_true rfl⟩) (pv_of hPc hK hDc (va_recv hK hPc (ci := 10) (q0 := 0) rfl rfl)) rfl rfl hl.1 rfl (lv_room (Nat.le_of_ble_eq_true rfl)) dX11_ship_42 ⟨Nat.zero_le _, Nat.zero_le _⟩) hS (fun q _ h => hFc q h) hFc (fun r_8 u t H locs ht hvm hw hB hz1 hk1 hS => ?_)
  obtain ⟨hP, hD⟩ := af_join (wr := []) (w1 := [(h, .inr (10, [.ref h_all, .ref h_has, .int f_size, .int f_next, .int f_where, .int f_token, .int f_number, .int f_sign, .int f_word, .int f_wrong, .int f_open, .int f_lines, .int f_acts, .ref h_line, .ref h_act, .ref h_pile, .ref h_comes, .ref h_leaves, .ref h_tried, .ref h_met])), (h_all, .inl (cI, 53700, .inl r_all))]) hB ht hP hD [0, 1] [] rfl rfl (by decide) (by decide) hk1 hFc
  have hP : va_P (dC, dI) vwCl [(h, .inr (10, [.ref h_all, .ref h_has, .int f_size, .int f_next, .int f_where, .int f_token, .int f_number, .int f_sign, .int f_word, .int f_wrong, .int f_open, .int f_lines, .int f_acts, .ref h_line, .ref h_act, .ref h_pile, .ref h_comes, .ref h_leaves, .ref h_tried, .ref h_met])), (h_all, .inl (cI, 53700, .inl r_all))] _ := hP
  have hD : va_D A [(h, .inr (10, [.ref h_all, .ref h_has, .int f_size, .int f_next, .int f_where, .int f_token, .int f_number, .int f_sign, .int f_word, .int f_wrong, .int f_open, .int f_lines, .int f_acts, .ref h_line, .ref h_act, .ref h_pile, .ref h_comes, .ref h_leaves, .ref h_tried, .ref h_met])), (h_all, .inl (cI, 53700, .inl r_all))] := hD
  refine lv_if_eq (tgt := 58) hx hb dX11_ship_45 (by decide) (fun c_9 => ?_) (fun c_9 => ?_)
  · have hw := hw.1 c_9
    refine lv_iconst (v := (-1 : Int32)) hx hb dX11_ship_58 (by decide) ?_
    have hP9 := hP.sub (ws' := (vX11_ship cI cZ h h_all h_has h_line h_act h_pile h_comes h_leaves h_tried h_met f_size f_next f_where f_token f_number f_sign f_word f_wrong f_open f_lines f_acts r_all)) [0, 1] rfl
    have hD9 := hD.sub (ws' := (vX11_ship cI cZ h h_all h_has h_line h_act h_pile h_comes h_leaves h_tried h_met f_size f_next f_where f_token f_number f_sign f_word f_wrong f_open f_lines f_acts r_all)) [0, 1] (by decide) rfl
    exact W.iret (v := (-1 : Int32)) hx hb hr (fun t ht hW => ⟨⟨(-1 : Int32), r_all, rfl, hw, by rw [ht]; exact hP9, va_K.moved hW.alike hK, hD9⟩, hS.F ht⟩) hS.2.2 dX11_ship_59
  · have hw := hw.2 c_9
    refine lv_aload_n hx hb dX11_ship_48 rfl (lv_at hl 0 rfl) ?_
    refine lv_iload_n hx hb dX11_ship_49 rfl (lv_at hl 3 rfl) ?_
    refine lv_iload hx hb dX11_ship_50 (lv_at hl 4 rfl) ?_
    have hPc := hP.sub (ws' := [(h, .inr (10, [.ref h_all, .ref h_has, .int f_size, .int f_next, .int f_where, .int f_token, .int f_number, .int f_sign, .int f_word, .int f_wrong, .int f_open, .int f_lines, .int f_acts, .ref h_line, .ref h_act, .ref h_pile, .ref h_comes, .ref h_leaves, .ref h_tried, .ref h_met])), (h_all, .inl (cI, 53700, .inl r_all))]) [0, 1] rfl
    have hDc := hD.sub (ws' := [(h, .inr (10, [.ref h_all, .ref h_has, .int f_size, .int f_next, .int f_where, .int f_token, .int f_number, .int f_sign, .int f_word, .int f_wrong, .int f_open, .int f_lines, .int f_acts, .ref h_line, .ref h_act, .ref h_pile, .ref h_comes, .ref h_leaves, .ref h_tried, .ref h_met])), (h_all, .inl (cI, 53700, .inl r_all))]) [0, 1] (by decide) rfl
    have hFc := va_free (wc := [(h, .inr (10, [.ref h_all, .ref h_has, .int f_size, .int f_next, .int f_where, .int f_token, .int f_number, .int f_sign, .int f_word, .int f_wrong, .int f_open, .int f_lines, .int f_acts, .ref h_line, .ref h_act, .ref h_pile, .ref h_comes, .ref h_leaves, .ref h_tried, .ref h_met])), (h_all, .inl (cI, 53700, .inl r_all))]) hD hS hA [0, 1] rfl
    refine va_calli (va_runV (As := [.int x3, .int x4]) (rest := []) ⟨hx, hb, hml, hown, hts⟩ (kX11_shipAt l dC dI cI cZ cO cW h h_all h_has h_line h_act h_pile h_comes h_leaves h_tried h_met H.size f_size f_next f_where f_token f_number f_sign f_word f_wrong f_open f_lines f_acts r_all x3 x4 _ hw) (cwV 2 hts (gV gw_643 gw_644 gw_645 gw_622 (gM gw_639)) rfl rfl rfl (by decide +kernel) ⟨Nat.le_of_ble_eq_true rfl, Nat.le_of_ble_eq_true rfl⟩) (pv_of hPc hK hDc (va_recv hK hPc (ci := 10) (q0 := 0) rfl rfl)) rfl rfl hl.1 rfl (lv_room (Nat.le_of_ble_eq_true rfl)) dX11_ship_52 ⟨Nat.zero_le _, Nat.zero_le _⟩) hS (fun q _ h => hFc q h) hFc (fun r_10 u t H locs ht hvm hw hB hz1 hk1 hS => ?_)
    obtain ⟨hP, hD⟩ := af_join (wr := []) (w1 := [(h, .inr (10, [.ref h_all, .ref h_has, .int f_size, .int f_next, .int f_where, .int f_token, .int f_number, .int f_sign, .int f_word, .int f_wrong, .int f_open, .int f_lines, .int f_acts, .ref h_line, .ref h_act, .ref h_pile, .ref h_comes, .ref h_leaves, .ref h_tried, .ref h_met])), (h_all, .inl (cI, 53700, .inl r_all))]) hB ht hP hD [0, 1] [] rfl rfl (by decide) (by decide) hk1 hFc
    have hP : va_P (dC, dI) vwCl [(h, .inr (10, [.ref h_all, .ref h_has, .int f_size, .int f_next, .int f_where, .int f_token, .int f_number, .int f_sign, .int f_word, .int f_wrong, .int f_open, .int f_lines, .int f_acts, .ref h_line, .ref h_act, .ref h_pile, .ref h_comes, .ref h_leaves, .ref h_tried, .ref h_met])), (h_all, .inl (cI, 53700, .inl r_all))] _ := hP
    have hD : va_D A [(h, .inr (10, [.ref h_all, .ref h_has, .int f_size, .int f_next, .int f_where, .int f_token, .int f_number, .int f_sign, .int f_word, .int f_wrong, .int f_open, .int f_lines, .int f_acts, .ref h_line, .ref h_act, .ref h_pile, .ref h_comes, .ref h_leaves, .ref h_tried, .ref h_met])), (h_all, .inl (cI, 53700, .inl r_all))] := hD
    refine lv_if_lt (tgt := 60) hx hb dX11_ship_55 (by decide) (fun c_11 => ?_) (fun c_11 => ?_)
    · have hw := hw.1 c_11
      refine lv_aload_n hx hb dX11_ship_60 rfl (lv_at hl 0 rfl) ?_
      refine va_get (D := (dC, dI)) (ci := 10) (v := .ref h_all) (C := RX11) (T := TX11) (N := 20) hx hb hts gu_X11 hown hK hP 0 rfl rfl 0 (by decide) (hts _ gw_607) (fun _ h9 => h9) rfl dX11_ship_61 ?_
      refine lv_iconst (v := (2 : Int32)) hx hb dX11_ship_64 (by decide) ?_
      obtain ⟨h_12, hw⟩ := hw
      refine va_iald hx hb hK hP 1 0 rfl rfl h_12 dX11_ship_65 ?_
      refine lv_istore (lv' := [(5, .int (r_all (2 : Int32).toNatClampNeg)), (0, .ref h), (1, .int x1), (2, .int x2), (3, .int x3), (4, .int x4)]) hx hb dX11_ship_66 hl (by decide) rfl (fun ls hl => ?_)
      refine lv_aload_n hx hb dX11_ship_68 rfl (lv_at hl 1 rfl) ?_
      refine va_get (D := (dC, dI)) (ci := 10) (v := .ref h_all) (C := RX11) (T := TX11) (N := 20) hx hb hts gu_X11 hown hK hP 0 rfl rfl 0 (by decide) (hts _ gw_607) (fun _ h9 => h9) rfl dX11_ship_69 ?_
      refine lv_iconst (v := (2 : Int32)) hx hb dX11_ship_72 (by decide) ?_
      refine lv_dup2_11 hx hb dX11_ship_73 rfl rfl ?_
      obtain ⟨h_13, hw⟩ := hw
      refine va_iald hx hb hK hP 1 0 rfl rfl h_13 dX11_ship_74 ?_
      refine lv_iconst (v := (1 : Int32)) hx hb dX11_ship_75 (by decide) ?_
      refine lv_iadd hx hb dX11_ship_76 ?_
      obtain ⟨h_14, hw⟩ := hw
      refine va_iast hx hb hK hP hD hS 1 0 rfl rfl h_14 dX11_ship_77 (fun H locs hP hD hS => ?_)
      have hP : va_P (dC, dI) vwCl [(h, .inr (10, [.ref h_all, .ref h_has, .int f_size, .int f_next, .int f_where, .int f_token, .int f_number, .int f_sign, .int f_word, .int f_wrong, .int f_open, .int f_lines, .int f_acts, .ref h_line, .ref h_act, .ref h_pile, .ref h_comes, .ref h_leaves, .ref h_tried, .ref h_met])), (h_all, .inl (cI, 53700, .inl (upd r_all (2 : Int32).toNatClampNeg ((r_all (2 : Int32).toNatClampNeg) + (1 : Int32)))))] _ := hP
      have hD : va_D A [(h, .inr (10, [.ref h_all, .ref h_has, .int f_size, .int f_next, .int f_where, .int f_token, .int f_number, .int f_sign, .int f_word, .int f_wrong, .int f_open, .int f_lines, .int f_acts, .ref h_line, .ref h_act, .ref h_pile, .ref h_comes, .ref h_leaves, .ref h_tried, .ref h_met])), (h_all, .inl (cI, 53700, .inl (upd r_all (2 : Int32).toNatClampNeg ((r_all (2 : Int32).toNatClampNeg) + (1 : Int32)))))] := hD
      refine lv_iconst (v := (0 : Int32)) hx hb dX11_ship_78 (by decide) ?_
      refine lv_istore (lv' := [(6, .int (0 : Int32)), (5, .int (r_all (2 : Int32).toNatClampNeg)), (0, .ref h), (1, .int x1), (2, .int x2), (3, .int x3), (4, .int x4)]) hx hb dX11_ship_79 hl (by decide) rfl (fun ls hl => ?_)
      obtain ⟨n_15, hw⟩ := hw
      exact tX11_ship_81 hC hK hA  n_15 x1 x2 x3 x4 (r_all (2 : Int32).toNatClampNeg) (0 : Int32) (upd r_all (2 : Int32).toNatClampNeg ((r_all (2 : Int32).toNatClampNeg) + (1 : Int32))) _ _ ls hw (hP.sub [0, 1] rfl) (hD.sub [0, 1] (by decide) rfl) hS (lv_sub hl [2, 3, 4, 5, 6, 1, 0] rfl)
    · have hw := hw.2 c_11
      refine lv_iconst (v := (-1 : Int32)) hx hb dX11_ship_58 (by decide) ?_
      have hP9 := hP.sub (ws' := (vX11_ship cI cZ h h_all h_has h_line h_act h_pile h_comes h_leaves h_tried h_met f_size f_next f_where f_token f_number f_sign f_word f_wrong f_open f_lines f_acts r_all)) [0, 1] rfl
      have hD9 := hD.sub (ws' := (vX11_ship cI cZ h h_all h_has h_line h_act h_pile h_comes h_leaves h_tried h_met f_size f_next f_where f_token f_number f_sign f_word f_wrong f_open f_lines f_acts r_all)) [0, 1] (by decide) rfl
      exact W.iret (v := (-1 : Int32)) hx hb hr (fun t ht hW => ⟨⟨(-1 : Int32), r_all, rfl, hw, by rw [ht]; exact hP9, va_K.moved hW.alike hK, hD9⟩, hS.F ht⟩) hS.2.2 dX11_ship_59
set_option maxHeartbeats 4000000 in
set_option maxRecDepth 100000 in
theorem tX11_ship_e {p : Program} {l : Launch} {e : Env} {s : State} {m : MethodId} {args : Array Value} {below : List Frame} {meth : Method} {c : Code} {dC : Nat → ClassId} {dI : Nat → Nat → Nat} {cI cZ cO cW : ClassId} {A : Nat → Prop} {h h_all h_has h_line h_act h_pile h_comes h_leaves h_tried h_met : Nat} {f_size f_next f_where f_token f_number f_sign f_word f_wrong f_open f_lines f_acts : Int32} {Q : Int32 → (Nat → Int32) → Prop} (hC : Cx p s m args meth c cX11_ship (some .int) 7 GW RX11) (hK : va_K (dC, dI) vwCl (tysA cI cZ cO cW) s) (hA : ∀ q : Nat, s.heap.size ≤ q → A q) :
    ∀ (x1 : Int32) (x2 : Int32) (x3 : Int32) (x4 : Int32) (r_all : Nat → Int32) (H : Heap) (locs : List Loc) (ls : Array Slot), wX11_ship Q x1 x2 x3 x4 r_all → va_P (dC, dI) vwCl (vX11_ship cI cZ h h_all h_has h_line h_act h_pile h_comes h_leaves h_tried h_met f_size f_next f_where f_token f_number f_sign f_word f_wrong f_open f_lines f_acts r_all) H → va_D A (vX11_ship cI cZ h h_all h_has h_line h_act h_pile h_comes h_leaves h_tried h_met f_size f_next f_where f_token f_number f_sign f_word f_wrong f_open f_lines f_acts r_all) → va_S A s.heap H locs → lv_has ls 7 [(0, .ref h), (1, .int x1), (2, .int x2), (3, .int x3), (4, .int x4)] → W p l e rmX11_ship s m args below meth c H locs 0 0 (MQ below (qX11_ship dC dI cI cZ cO cW h h_all h_has h_line h_act h_pile h_comes h_leaves h_tried h_met f_size f_next f_where f_token f_number f_sign f_word f_wrong f_open f_lines f_acts Q A) args s 0 0 A) (F0 m 0 ls []) := by
  obtain ⟨hx, hb, hr, hml, hown, hts, hlocks⟩ := id hC
  intro x1 x2 x3 x4 r_all H locs ls hw hP hD hS hl
  refine lv_aload_n hx hb dX11_ship_0 rfl (lv_at hl 0 rfl) ?_
  refine va_get (D := (dC, dI)) (ci := 10) (v := .ref h_all) (C := RX11) (T := TX11) (N := 20) hx hb hts gu_X11 hown hK hP 0 rfl rfl 0 (by decide) (hts _ gw_607) (fun _ h9 => h9) rfl dX11_ship_1 ?_
  refine lv_iconst (v := (2 : Int32)) hx hb dX11_ship_4 (by decide) ?_
  obtain ⟨h_16, hw⟩ := hw
  refine va_iald hx hb hK hP 1 0 rfl rfl h_16 dX11_ship_5 ?_
  refine lv_bipush (v := (8 : Int32)) hx hb dX11_ship_6 (by decide) ?_
  refine lv_icmp_eq (tgt := 58) hx hb dX11_ship_8 (by decide) (fun c_17 => ?_) (fun c_17 => ?_)
  · have hw := hw.1 c_17
    refine lv_iconst (v := (-1 : Int32)) hx hb dX11_ship_58 (by decide) ?_
    have hP9 := hP.sub (ws' := (vX11_ship cI cZ h h_all h_has h_line h_act h_pile h_comes h_leaves h_tried h_met f_size f_next f_where f_token f_number f_sign f_word f_wrong f_open f_lines f_acts r_all)) [0, 1] rfl
    have hD9 := hD.sub (ws' := (vX11_ship cI cZ h h_all h_has h_line h_act h_pile h_comes h_leaves h_tried h_met f_size f_next f_where f_token f_number f_sign f_word f_wrong f_open f_lines f_acts r_all)) [0, 1] (by decide) rfl
    exact W.iret (v := (-1 : Int32)) hx hb hr (fun t ht hW => ⟨⟨(-1 : Int32), r_all, rfl, hw, by rw [ht]; exact hP9, va_K.moved hW.alike hK, hD9⟩, hS.F ht⟩) hS.2.2 dX11_ship_59
  · have hw := hw.2 c_17
    refine lv_iload_n hx hb dX11_ship_11 rfl (lv_at hl 1 rfl) ?_
    refine lv_iconst (v := (0 : Int32)) hx hb dX11_ship_12 (by decide) ?_
    refine lv_sipush (v := (200 : Int32)) hx hb dX11_ship_13 (by decide) ?_
    have hPc := hP.sub (ws' := []) [] rfl
    have hDc := hD.sub (ws' := []) [] (by decide) rfl
    have hFc := va_free (wc := []) hD hS hA [] rfl
    refine va_calli (va_runS (As := [.int x1, .int (0 : Int32), .int (200 : Int32)]) (rest := []) ⟨hx, hb, hml, hown, hts⟩ (kX11_isIn l dC dI cI cZ cO cW H.size x1 (0 : Int32) (200 : Int32) _ hw) (va_cwS 3 hts (gS gw_625 gw_626 gw_622 (gM gw_623)) rfl rfl rfl (by decide +kernel) ⟨Nat.le_of_ble_eq_true rfl, Nat.le_of_ble_eq_true rfl⟩) (ps_of hPc hK hDc) rfl rfl hl.1 rfl (lv_room (Nat.le_of_ble_eq_true rfl)) dX11_ship_16 ⟨Nat.zero_le _, Nat.zero_le _⟩) hS (fun q _ h => hFc q h) hFc (fun r_18 u t H locs ht hvm hw hB hz1 hk1 hS => ?_)
    obtain ⟨hP, hD⟩ := af_join (wr := [(h, .inr (10, [.ref h_all, .ref h_has, .int f_size, .int f_next, .int f_where, .int f_token, .int f_number, .int f_sign, .int f_word, .int f_wrong, .int f_open, .int f_lines, .int f_acts, .ref h_line, .ref h_act, .ref h_pile, .ref h_comes, .ref h_leaves, .ref h_tried, .ref h_met])), (h_all, .inl (cI, 53700, .inl r_all))]) (w1 := []) hB ht hP hD [] [0, 1] rfl rfl (by decide) (by decide) hk1 hFc
    have hP : va_P (dC, dI) vwCl [(h, .inr (10, [.ref h_all, .ref h_has, .int f_size, .int f_next, .int f_where, .int f_token, .int f_number, .int f_sign, .int f_word, .int f_wrong, .int f_open, .int f_lines, .int f_acts, .ref h_line, .ref h_act, .ref h_pile, .ref h_comes, .ref h_leaves, .ref h_tried, .ref h_met])), (h_all, .inl (cI, 53700, .inl r_all))] _ := hP
    have hD : va_D A [(h, .inr (10, [.ref h_all, .ref h_has, .int f_size, .int f_next, .int f_where, .int f_token, .int f_number, .int f_sign, .int f_word, .int f_wrong, .int f_open, .int f_lines, .int f_acts, .ref h_line, .ref h_act, .ref h_pile, .ref h_comes, .ref h_leaves, .ref h_tried, .ref h_met])), (h_all, .inl (cI, 53700, .inl r_all))] := hD
    refine lv_if_eq (tgt := 58) hx hb dX11_ship_19 (by decide) (fun c_19 => ?_) (fun c_19 => ?_)
    · have hw := hw.1 c_19
      refine lv_iconst (v := (-1 : Int32)) hx hb dX11_ship_58 (by decide) ?_
      have hP9 := hP.sub (ws' := (vX11_ship cI cZ h h_all h_has h_line h_act h_pile h_comes h_leaves h_tried h_met f_size f_next f_where f_token f_number f_sign f_word f_wrong f_open f_lines f_acts r_all)) [0, 1] rfl
      have hD9 := hD.sub (ws' := (vX11_ship cI cZ h h_all h_has h_line h_act h_pile h_comes h_leaves h_tried h_met f_size f_next f_where f_token f_number f_sign f_word f_wrong f_open f_lines f_acts r_all)) [0, 1] (by decide) rfl
      exact W.iret (v := (-1 : Int32)) hx hb hr (fun t ht hW => ⟨⟨(-1 : Int32), r_all, rfl, hw, by rw [ht]; exact hP9, va_K.moved hW.alike hK, hD9⟩, hS.F ht⟩) hS.2.2 dX11_ship_59
    · have hw := hw.2 c_19
      refine lv_iload_n hx hb dX11_ship_22 rfl (lv_at hl 2 rfl) ?_
      refine lv_iconst (v := (-1 : Int32)) hx hb dX11_ship_23 (by decide) ?_
      refine lv_icmp_eq (tgt := 38) hx hb dX11_ship_24 (by decide) (fun c_20 => ?_) (fun c_20 => ?_)
      · have hw := hw.1 c_20
        exact tX11_ship_38 hC hK hA  x1 x2 x3 x4 r_all _ _ ls hw (hP.sub [0, 1] rfl) (hD.sub [0, 1] (by decide) rfl) hS (lv_sub hl [0, 1, 2, 3, 4] rfl)
      · have hw := hw.2 c_20
        refine lv_iload_n hx hb dX11_ship_27 rfl (lv_at hl 2 rfl) ?_
        refine lv_iconst (v := (1 : Int32)) hx hb dX11_ship_28 (by decide) ?_
        refine lv_sipush (v := (5000 : Int32)) hx hb dX11_ship_29 (by decide) ?_
        have hPc := hP.sub (ws' := []) [] rfl
        have hDc := hD.sub (ws' := []) [] (by decide) rfl
        have hFc := va_free (wc := []) hD hS hA [] rfl
        refine va_calli (va_runS (As := [.int x2, .int (1 : Int32), .int (5000 : Int32)]) (rest := []) ⟨hx, hb, hml, hown, hts⟩ (kX11_isIn l dC dI cI cZ cO cW H.size x2 (1 : Int32) (5000 : Int32) _ hw) (va_cwS 3 hts (gS gw_625 gw_626 gw_622 (gM gw_623)) rfl rfl rfl (by decide +kernel) ⟨Nat.le_of_ble_eq_true rfl, Nat.le_of_ble_eq_true rfl⟩) (ps_of hPc hK hDc) rfl rfl hl.1 rfl (lv_room (Nat.le_of_ble_eq_true rfl)) dX11_ship_32 ⟨Nat.zero_le _, Nat.zero_le _⟩) hS (fun q _ h => hFc q h) hFc (fun r_21 u t H locs ht hvm hw hB hz1 hk1 hS => ?_)
        obtain ⟨hP, hD⟩ := af_join (wr := [(h, .inr (10, [.ref h_all, .ref h_has, .int f_size, .int f_next, .int f_where, .int f_token, .int f_number, .int f_sign, .int f_word, .int f_wrong, .int f_open, .int f_lines, .int f_acts, .ref h_line, .ref h_act, .ref h_pile, .ref h_comes, .ref h_leaves, .ref h_tried, .ref h_met])), (h_all, .inl (cI, 53700, .inl r_all))]) (w1 := []) hB ht hP hD [] [0, 1] rfl rfl (by decide) (by decide) hk1 hFc
        have hP : va_P (dC, dI) vwCl [(h, .inr (10, [.ref h_all, .ref h_has, .int f_size, .int f_next, .int f_where, .int f_token, .int f_number, .int f_sign, .int f_word, .int f_wrong, .int f_open, .int f_lines, .int f_acts, .ref h_line, .ref h_act, .ref h_pile, .ref h_comes, .ref h_leaves, .ref h_tried, .ref h_met])), (h_all, .inl (cI, 53700, .inl r_all))] _ := hP
        have hD : va_D A [(h, .inr (10, [.ref h_all, .ref h_has, .int f_size, .int f_next, .int f_where, .int f_token, .int f_number, .int f_sign, .int f_word, .int f_wrong, .int f_open, .int f_lines, .int f_acts, .ref h_line, .ref h_act, .ref h_pile, .ref h_comes, .ref h_leaves, .ref h_tried, .ref h_met])), (h_all, .inl (cI, 53700, .inl r_all))] := hD
        refine lv_if_eq (tgt := 58) hx hb dX11_ship_35 (by decide) (fun c_22 => ?_) (fun c_22 => ?_)
        · have hw := hw.1 c_22
          refine lv_iconst (v := (-1 : Int32)) hx hb dX11_ship_58 (by decide) ?_
          have hP9 := hP.sub (ws' := (vX11_ship cI cZ h h_all h_has h_line h_act h_pile h_comes h_leaves h_tried h_met f_size f_next f_where f_token f_number f_sign f_word f_wrong f_open f_lines f_acts r_all)) [0, 1] rfl
          have hD9 := hD.sub (ws' := (vX11_ship cI cZ h h_all h_has h_line h_act h_pile h_comes h_leaves h_tried h_met f_size f_next f_where f_token f_number f_sign f_word f_wrong f_open f_lines f_acts r_all)) [0, 1] (by decide) rfl
          exact W.iret (v := (-1 : Int32)) hx hb hr (fun t ht hW => ⟨⟨(-1 : Int32), r_all, rfl, hw, by rw [ht]; exact hP9, va_K.moved hW.alike hK, hD9⟩, hS.F ht⟩) hS.2.2 dX11_ship_59
        · have hw := hw.2 c_22
          exact tX11_ship_38 hC hK hA  x1 x2 x3 x4 r_all _ _ ls hw (hP.sub [0, 1] rfl) (hD.sub [0, 1] (by decide) rfl) hS (lv_sub hl [0, 1, 2, 3, 4] rfl)
set_option maxHeartbeats 4000000 in
set_option maxRecDepth 100000 in
theorem kX11_ship (l : Launch) (dC : Nat → ClassId) (dI : Nat → Nat → Nat) (cI cZ cO cW : ClassId) (h h_all h_has h_line h_act h_pile h_comes h_leaves h_tried h_met : Nat)  (sz : Nat) (f_size : Int32) (f_next : Int32) (f_where : Int32) (f_token : Int32) (f_number : Int32) (f_sign : Int32) (f_word : Int32) (f_wrong : Int32) (f_open : Int32) (f_lines : Int32) (f_acts : Int32) (r_all : Nat → Int32) (x1 : Int32) (x2 : Int32) (x3 : Int32) (x4 : Int32) (Q : Int32 → (Nat → Int32) → Prop) (hw : wX11_ship Q x1 x2 x3 x4 r_all) : Met l yX11_ship zsX11_ship rmX11_ship (va_Pc [.ref h, .int x1, .int x2, .int x3, .int x4] (fun U => U.heap.size = sz ∧ va_P (dC, dI) vwCl (vX11_ship cI cZ h h_all h_has h_line h_act h_pile h_comes h_leaves h_tried h_met f_size f_next f_where f_token f_number f_sign f_word f_wrong f_open f_lines f_acts r_all) U.heap ∧ va_K (dC, dI) vwCl (tysA cI cZ cO cW) U ∧ va_D (fun _ => True) (vX11_ship cI cZ h h_all h_has h_line h_act h_pile h_comes h_leaves h_tried h_met f_size f_next f_where f_token f_number f_sign f_word f_wrong f_open f_lines f_acts r_all))) (qX11_ship dC dI cI cZ cO cW h h_all h_has h_line h_act h_pile h_comes h_leaves h_tried h_met f_size f_next f_where f_token f_number f_sign f_word f_wrong f_open f_lines f_acts Q (va_A (vX11_ship cI cZ h h_all h_has h_line h_act h_pile h_comes h_leaves h_tried h_met f_size f_next f_where f_token f_number f_sign f_word f_wrong f_open f_lines f_acts r_all) sz)) 0 0 (va_A (vX11_ship cI cZ h h_all h_has h_line h_act h_pile h_comes h_leaves h_tried h_met f_size f_next f_where f_token f_number f_sign f_word f_wrong f_open f_lines f_acts r_all) sz) := by
  refine Met.ofW (cc := cX11_ship) (maxL := 7) (ret := (some .int)) (by decide) rfl ?_
  intro p e s m args below meth c s₁ B hml hv
  obtain ⟨rfl, hsz, hP, hK, hD0⟩ := hv
  subst hsz
  have hC : Cx p s m ([.ref h, .int x1, .int x2, .int x3, .int x4] : List Value).toArray meth c cX11_ship (some .int) 7 GW RX11 := ⟨B.exec, B.bytes, B.returns, hml, findClass_of_methodNamed B.named, fun w h => atoms_spec (ws := zsX11_ship) B.pre w (List.mem_cons_of_mem _ h), B.notSynchronized⟩
  have hD := hD0.self (sz := s.heap.size)
  generalize hAe : va_A (vX11_ship cI cZ h h_all h_has h_line h_act h_pile h_comes h_leaves h_tried h_met f_size f_next f_where f_token f_number f_sign f_word f_wrong f_open f_lines f_acts r_all) s.heap.size = A at hD ⊢
  have hA : ∀ q : Nat, s.heap.size ≤ q → A q := fun q h => by rw [← hAe]; exact Or.inr h
  have hl := lv_entry ([.ref h, .int x1, .int x2, .int x3, .int x4]) (n := 7) (Nat.le_of_ble_eq_true rfl)
  rw [lg_entry_eq]
  generalize (lg_sl ([.ref h, .int x1, .int x2, .int x3, .int x4]) ++ List.replicate (7 - (lg_sl ([.ref h, .int x1, .int x2, .int x3, .int x4])).length) Slot.unset).toArray = ls at hl ⊢
  exact tX11_ship_e hC hK hA x1 x2 x3 x4 r_all _ _ ls hw hP hD va_S.rf hl

/-! X11_isShip -/
def wX11_isShip (Q : Int32 → Prop) (x1 : Int32) (r_all : Nat → Int32) : Prop :=
  (vp_in (2 : Int32) 53700 ∧ (wX11_isIn (fun r_2 => (narrow .boolean (.int r_2) = .int r_2 ∧ (Q r_2))) x1 (0 : Int32) ((r_all (2 : Int32).toNatClampNeg) - (1 : Int32))))
abbrev vX11_isShip (cI cZ : ClassId) (h h_all h_has h_line h_act h_pile h_comes h_leaves h_tried h_met : Nat) (f_size : Int32) (f_next : Int32) (f_where : Int32) (f_token : Int32) (f_number : Int32) (f_sign : Int32) (f_word : Int32) (f_wrong : Int32) (f_open : Int32) (f_lines : Int32) (f_acts : Int32) (r_all : Nat → Int32) : va_W := [(h, .inr (10, [.ref h_all, .ref h_has, .int f_size, .int f_next, .int f_where, .int f_token, .int f_number, .int f_sign, .int f_word, .int f_wrong, .int f_open, .int f_lines, .int f_acts, .ref h_line, .ref h_act, .ref h_pile, .ref h_comes, .ref h_leaves, .ref h_tried, .ref h_met])), (h_all, .inl (cI, 53700, .inl r_all))]
abbrev rmX11_isShip : Room := { frames := 1, cells := 0, slots := 0, locals := 22 }
abbrev qX11_isShip (dC : Nat → ClassId) (dI : Nat → Nat → Nat) (cI cZ cO cW : ClassId) (h h_all h_has h_line h_act h_pile h_comes h_leaves h_tried h_met : Nat) (f_size : Int32) (f_next : Int32) (f_where : Int32) (f_token : Int32) (f_number : Int32) (f_sign : Int32) (f_word : Int32) (f_wrong : Int32) (f_open : Int32) (f_lines : Int32) (f_acts : Int32) (r_all : Nat → Int32) (Q : Int32 → Prop) (A : Nat → Prop) : Array Value → State → Outcome → State → Prop := va_Qi (fun (r : Int32) (u : Unit) => Q r) (fun (u : Unit) (t : State) => va_P (dC, dI) vwCl (vX11_isShip cI cZ h h_all h_has h_line h_act h_pile h_comes h_leaves h_tried h_met f_size f_next f_where f_token f_number f_sign f_word f_wrong f_open f_lines f_acts r_all) t.heap ∧ va_K (dC, dI) vwCl (tysA cI cZ cO cW) t ∧ va_D A (vX11_isShip cI cZ h h_all h_has h_line h_act h_pile h_comes h_leaves h_tried h_met f_size f_next f_where f_token f_number f_sign f_word f_wrong f_open f_lines f_acts r_all)) A
def zsX11_isShip : List Cond := Cond.code yX11_isShip cX11_isShip 2 (some .boolean) :: GW
set_option maxHeartbeats 4000000 in
set_option maxRecDepth 100000 in
theorem tX11_isShip_e {p : Program} {l : Launch} {e : Env} {s : State} {m : MethodId} {args : Array Value} {below : List Frame} {meth : Method} {c : Code} {dC : Nat → ClassId} {dI : Nat → Nat → Nat} {cI cZ cO cW : ClassId} {A : Nat → Prop} {h h_all h_has h_line h_act h_pile h_comes h_leaves h_tried h_met : Nat} {f_size f_next f_where f_token f_number f_sign f_word f_wrong f_open f_lines f_acts : Int32} {Q : Int32 → Prop} (hC : Cx p s m args meth c cX11_isShip (some .boolean) 2 GW RX11) (hK : va_K (dC, dI) vwCl (tysA cI cZ cO cW) s) (hA : ∀ q : Nat, s.heap.size ≤ q → A q) :
    ∀ (x1 : Int32) (r_all : Nat → Int32) (H : Heap) (locs : List Loc) (ls : Array Slot), wX11_isShip Q x1 r_all → va_P (dC, dI) vwCl (vX11_isShip cI cZ h h_all h_has h_line h_act h_pile h_comes h_leaves h_tried h_met f_size f_next f_where f_token f_number f_sign f_word f_wrong f_open f_lines f_acts r_all) H → va_D A (vX11_isShip cI cZ h h_all h_has h_line h_act h_pile h_comes h_leaves h_tried h_met f_size f_next f_where f_token f_number f_sign f_word f_wrong f_open f_lines f_acts r_all) → va_S A s.heap H locs → lv_has ls 2 [(0, .ref h), (1, .int x1)] → W p l e rmX11_isShip s m args below meth c H locs 0 0 (MQ below (qX11_isShip dC dI cI cZ cO cW h h_all h_has h_line h_act h_pile h_comes h_leaves h_tried h_met f_size f_next f_where f_token f_number f_sign f_word f_wrong f_open f_lines f_acts r_all Q A) args s 0 0 A) (F0 m 0 ls []) := by
  obtain ⟨hx, hb, hr, hml, hown, hts, hlocks⟩ := id hC
  intro x1 r_all H locs ls hw hP hD hS hl
  refine lv_iload_n hx hb dX11_isShip_0 rfl (lv_at hl 1 rfl) ?_
  refine lv_iconst (v := (0 : Int32)) hx hb dX11_isShip_1 (by decide) ?_
  refine lv_aload_n hx hb dX11_isShip_2 rfl (lv_at hl 0 rfl) ?_
  refine va_get (D := (dC, dI)) (ci := 10) (v := .ref h_all) (C := RX11) (T := TX11) (N := 20) hx hb hts gu_X11 hown hK hP 0 rfl rfl 0 (by decide) (hts _ gw_607) (fun _ h9 => h9) rfl dX11_isShip_3 ?_
  refine lv_iconst (v := (2 : Int32)) hx hb dX11_isShip_6 (by decide) ?_
  obtain ⟨h_1, hw⟩ := hw
  refine va_iald hx hb hK hP 1 0 rfl rfl h_1 dX11_isShip_7 ?_
  refine lv_iconst (v := (1 : Int32)) hx hb dX11_isShip_8 (by decide) ?_
  refine lv_isub hx hb dX11_isShip_9 ?_
  have hPc := hP.sub (ws' := []) [] rfl
  have hDc := hD.sub (ws' := []) [] (by decide) rfl
  have hFc := va_free (wc := []) hD hS hA [] rfl
  refine va_calli (va_runS (As := [.int x1, .int (0 : Int32), .int ((r_all (2 : Int32).toNatClampNeg) - (1 : Int32))]) (rest := []) ⟨hx, hb, hml, hown, hts⟩ (kX11_isIn l dC dI cI cZ cO cW H.size x1 (0 : Int32) ((r_all (2 : Int32).toNatClampNeg) - (1 : Int32)) _ hw) (va_cwS 3 hts (gS gw_625 gw_626 gw_622 (gM gw_623)) rfl rfl rfl (by decide +kernel) ⟨Nat.le_of_ble_eq_true rfl, Nat.le_of_ble_eq_true rfl⟩) (ps_of hPc hK hDc) rfl rfl hl.1 rfl (lv_room (Nat.le_of_ble_eq_true rfl)) dX11_isShip_10 ⟨Nat.zero_le _, Nat.zero_le _⟩) hS (fun q _ h => hFc q h) hFc (fun r_2 u t H locs ht hvm hw hB hz1 hk1 hS => ?_)
  obtain ⟨hP, hD⟩ := af_join (wr := [(h, .inr (10, [.ref h_all, .ref h_has, .int f_size, .int f_next, .int f_where, .int f_token, .int f_number, .int f_sign, .int f_word, .int f_wrong, .int f_open, .int f_lines, .int f_acts, .ref h_line, .ref h_act, .ref h_pile, .ref h_comes, .ref h_leaves, .ref h_tried, .ref h_met])), (h_all, .inl (cI, 53700, .inl r_all))]) (w1 := []) hB ht hP hD [] [0, 1] rfl rfl (by decide) (by decide) hk1 hFc
  have hP : va_P (dC, dI) vwCl [(h, .inr (10, [.ref h_all, .ref h_has, .int f_size, .int f_next, .int f_where, .int f_token, .int f_number, .int f_sign, .int f_word, .int f_wrong, .int f_open, .int f_lines, .int f_acts, .ref h_line, .ref h_act, .ref h_pile, .ref h_comes, .ref h_leaves, .ref h_tried, .ref h_met])), (h_all, .inl (cI, 53700, .inl r_all))] _ := hP
  have hD : va_D A [(h, .inr (10, [.ref h_all, .ref h_has, .int f_size, .int f_next, .int f_where, .int f_token, .int f_number, .int f_sign, .int f_word, .int f_wrong, .int f_open, .int f_lines, .int f_acts, .ref h_line, .ref h_act, .ref h_pile, .ref h_comes, .ref h_leaves, .ref h_tried, .ref h_met])), (h_all, .inl (cI, 53700, .inl r_all))] := hD
  obtain ⟨h_3, hw⟩ := hw
  have hP9 := hP.sub (ws' := (vX11_isShip cI cZ h h_all h_has h_line h_act h_pile h_comes h_leaves h_tried h_met f_size f_next f_where f_token f_number f_sign f_word f_wrong f_open f_lines f_acts r_all)) [0, 1] rfl
  have hD9 := hD.sub (ws' := (vX11_isShip cI cZ h h_all h_has h_line h_act h_pile h_comes h_leaves h_tried h_met f_size f_next f_where f_token f_number f_sign f_word f_wrong f_open f_lines f_acts r_all)) [0, 1] (by decide) rfl
  exact W.zret (v := r_2) (ty := .boolean) hx hb hr h_3 (fun t ht hW => ⟨⟨r_2, (), rfl, hw, by rw [ht]; exact hP9, va_K.moved hW.alike hK, hD9⟩, hS.F ht⟩) hS.2.2 dX11_isShip_13
set_option maxHeartbeats 4000000 in
set_option maxRecDepth 100000 in
theorem kX11_isShip (l : Launch) (dC : Nat → ClassId) (dI : Nat → Nat → Nat) (cI cZ cO cW : ClassId) (h h_all h_has h_line h_act h_pile h_comes h_leaves h_tried h_met : Nat)  (sz : Nat) (f_size : Int32) (f_next : Int32) (f_where : Int32) (f_token : Int32) (f_number : Int32) (f_sign : Int32) (f_word : Int32) (f_wrong : Int32) (f_open : Int32) (f_lines : Int32) (f_acts : Int32) (r_all : Nat → Int32) (x1 : Int32) (Q : Int32 → Prop) (hw : wX11_isShip Q x1 r_all) : Met l yX11_isShip zsX11_isShip rmX11_isShip (va_Pc [.ref h, .int x1] (fun U => U.heap.size = sz ∧ va_P (dC, dI) vwCl (vX11_isShip cI cZ h h_all h_has h_line h_act h_pile h_comes h_leaves h_tried h_met f_size f_next f_where f_token f_number f_sign f_word f_wrong f_open f_lines f_acts r_all) U.heap ∧ va_K (dC, dI) vwCl (tysA cI cZ cO cW) U ∧ va_D (fun _ => True) (vX11_isShip cI cZ h h_all h_has h_line h_act h_pile h_comes h_leaves h_tried h_met f_size f_next f_where f_token f_number f_sign f_word f_wrong f_open f_lines f_acts r_all))) (qX11_isShip dC dI cI cZ cO cW h h_all h_has h_line h_act h_pile h_comes h_leaves h_tried h_met f_size f_next f_where f_token f_number f_sign f_word f_wrong f_open f_lines f_acts r_all Q (va_A (vX11_isShip cI cZ h h_all h_has h_line h_act h_pile h_comes h_leaves h_tried h_met f_size f_next f_where f_token f_number f_sign f_word f_wrong f_open f_lines f_acts r_all) sz)) 0 0 (va_A (vX11_isShip cI cZ h h_all h_has h_line h_act h_pile h_comes h_leaves h_tried h_met f_size f_next f_where f_token f_number f_sign f_word f_wrong f_open f_lines f_acts r_all) sz) := by
  refine Met.ofW (cc := cX11_isShip) (maxL := 2) (ret := (some .boolean)) (by decide) rfl ?_
  intro p e s m args below meth c s₁ B hml hv
  obtain ⟨rfl, hsz, hP, hK, hD0⟩ := hv
  subst hsz
  have hC : Cx p s m ([.ref h, .int x1] : List Value).toArray meth c cX11_isShip (some .boolean) 2 GW RX11 := ⟨B.exec, B.bytes, B.returns, hml, findClass_of_methodNamed B.named, fun w h => atoms_spec (ws := zsX11_isShip) B.pre w (List.mem_cons_of_mem _ h), B.notSynchronized⟩
  have hD := hD0.self (sz := s.heap.size)
  generalize hAe : va_A (vX11_isShip cI cZ h h_all h_has h_line h_act h_pile h_comes h_leaves h_tried h_met f_size f_next f_where f_token f_number f_sign f_word f_wrong f_open f_lines f_acts r_all) s.heap.size = A at hD ⊢
  have hA : ∀ q : Nat, s.heap.size ≤ q → A q := fun q h => by rw [← hAe]; exact Or.inr h
  have hl := lv_entry ([.ref h, .int x1]) (n := 2) (Nat.le_of_ble_eq_true rfl)
  rw [lg_entry_eq]
  generalize (lg_sl ([.ref h, .int x1]) ++ List.replicate (2 - (lg_sl ([.ref h, .int x1])).length) Slot.unset).toArray = ls at hl ⊢
  exact tX11_isShip_e hC hK hA x1 r_all _ _ ls hw hP hD va_S.rf hl

/-! X11_feed -/
def wX11_feed_74 (Q : Int32 → (Nat → Int32) → Prop) (K_21 : Int32 → Int32 → Int32 → Int32 → Int32 → Int32 → (Nat → Int32) → Prop)  (x1 : Int32) (x2 : Int32) (x3 : Int32) (x4 : Int32) (x5 : Int32) (x6 : Int32) (s0 : Int32) (r_all : (Nat → Int32)) : Prop :=
  (vp_in (9 : Int32) 53700 ∧ (vp_in ((10340 : Int32) + (r_all (9 : Int32).toNatClampNeg)) 53700 ∧ (vp_in (9 : Int32) 53700 ∧ (vp_in (9 : Int32) 53700 ∧ (K_21 x1 x2 x3 x4 x5 (x6 + (1 : Int32)) (upd (upd r_all ((10340 : Int32) + (r_all (9 : Int32).toNatClampNeg)).toNatClampNeg ((s0 >>> (((24 : Int32) - ((8 : Int32) * (x6 - x6 / (4 : Int32) * (4 : Int32)))) &&& 31)) &&& (255 : Int32))) (9 : Int32).toNatClampNeg (((upd r_all ((10340 : Int32) + (r_all (9 : Int32).toNatClampNeg)).toNatClampNeg ((s0 >>> (((24 : Int32) - ((8 : Int32) * (x6 - x6 / (4 : Int32) * (4 : Int32)))) &&& 31)) &&& (255 : Int32))) (9 : Int32).toNatClampNeg) + (1 : Int32))))))))
def wX11_feed_21 (Q : Int32 → (Nat → Int32) → Prop)   : Nat → Int32 → Int32 → Int32 → Int32 → Int32 → Int32 → (Nat → Int32) → Prop
  | 0, _, _, _, _, _, _, _ => False
  | n + 1, x1, x2, x3, x4, x5, x6, r_all => (((20 : Int32) ≤ x6 → (vp_in (9 : Int32) 53700 ∧ (Q (r_all (9 : Int32).toNatClampNeg) r_all))) ∧ (¬ (20 : Int32) ≤ x6 → (((4 : Int32) ≤ x6 → (((8 : Int32) ≤ x6 → (((12 : Int32) ≤ x6 → (((16 : Int32) ≤ x6 → (wX11_feed_74 Q (wX11_feed_21 Q n) x1 x2 x3 x4 x5 x6 x5 r_all)) ∧ (¬ (16 : Int32) ≤ x6 → (wX11_feed_74 Q (wX11_feed_21 Q n) x1 x2 x3 x4 x5 x6 x4 r_all)))) ∧ (¬ (12 : Int32) ≤ x6 → (wX11_feed_74 Q (wX11_feed_21 Q n) x1 x2 x3 x4 x5 x6 x3 r_all)))) ∧ (¬ (8 : Int32) ≤ x6 → (wX11_feed_74 Q (wX11_feed_21 Q n) x1 x2 x3 x4 x5 x6 x2 r_all)))) ∧ (¬ (4 : Int32) ≤ x6 → (wX11_feed_74 Q (wX11_feed_21 Q n) x1 x2 x3 x4 x5 x6 x1 r_all)))))
def wX11_feed (Q : Int32 → (Nat → Int32) → Prop) (x1 : Int32) (x2 : Int32) (x3 : Int32) (x4 : Int32) (x5 : Int32) (r_all : Nat → Int32) : Prop :=
  (vp_in (9 : Int32) 53700 ∧ ((((r_all (9 : Int32).toNatClampNeg) + (20 : Int32)) ≤ (400 : Int32) → (∃ j_, wX11_feed_21 Q j_ x1 x2 x3 x4 x5 (0 : Int32) r_all)) ∧ (¬ ((r_all (9 : Int32).toNatClampNeg) + (20 : Int32)) ≤ (400 : Int32) → (Q (-1 : Int32) r_all))))
abbrev vX11_feed (cI cZ : ClassId) (h h_all h_has h_line h_act h_pile h_comes h_leaves h_tried h_met : Nat) (f_size : Int32) (f_next : Int32) (f_where : Int32) (f_token : Int32) (f_number : Int32) (f_sign : Int32) (f_word : Int32) (f_wrong : Int32) (f_open : Int32) (f_lines : Int32) (f_acts : Int32) (r_all : Nat → Int32) : va_W := [(h, .inr (10, [.ref h_all, .ref h_has, .int f_size, .int f_next, .int f_where, .int f_token, .int f_number, .int f_sign, .int f_word, .int f_wrong, .int f_open, .int f_lines, .int f_acts, .ref h_line, .ref h_act, .ref h_pile, .ref h_comes, .ref h_leaves, .ref h_tried, .ref h_met])), (h_all, .inl (cI, 53700, .inl r_all))]
abbrev rmX11_feed : Room := { frames := 0, cells := 0, slots := 0, locals := 0 }
abbrev qX11_feed (dC : Nat → ClassId) (dI : Nat → Nat → Nat) (cI cZ cO cW : ClassId) (h h_all h_has h_line h_act h_pile h_comes h_leaves h_tried h_met : Nat) (f_size : Int32) (f_next : Int32) (f_where : Int32) (f_token : Int32) (f_number : Int32) (f_sign : Int32) (f_word : Int32) (f_wrong : Int32) (f_open : Int32) (f_lines : Int32) (f_acts : Int32) (Q : Int32 → (Nat → Int32) → Prop) (A : Nat → Prop) : Array Value → State → Outcome → State → Prop := va_Qi (fun (r : Int32) (u : (Nat → Int32)) => Q r u) (fun (u : (Nat → Int32)) (t : State) => va_P (dC, dI) vwCl (vX11_feed cI cZ h h_all h_has h_line h_act h_pile h_comes h_leaves h_tried h_met f_size f_next f_where f_token f_number f_sign f_word f_wrong f_open f_lines f_acts u) t.heap ∧ va_K (dC, dI) vwCl (tysA cI cZ cO cW) t ∧ va_D A (vX11_feed cI cZ h h_all h_has h_line h_act h_pile h_comes h_leaves h_tried h_met f_size f_next f_where f_token f_number f_sign f_word f_wrong f_open f_lines f_acts u)) A
def zsX11_feed : List Cond := Cond.code yX11_feed cX11_feed 8 (some .int) :: GW
set_option maxHeartbeats 4000000 in
set_option maxRecDepth 100000 in
theorem tX11_feed_74 {p : Program} {l : Launch} {e : Env} {s : State} {m : MethodId} {args : Array Value} {below : List Frame} {meth : Method} {c : Code} {dC : Nat → ClassId} {dI : Nat → Nat → Nat} {cI cZ cO cW : ClassId} {A : Nat → Prop} {h h_all h_has h_line h_act h_pile h_comes h_leaves h_tried h_met : Nat} {f_size f_next f_where f_token f_number f_sign f_word f_wrong f_open f_lines f_acts : Int32} {Q : Int32 → (Nat → Int32) → Prop} {K_21 : Int32 → Int32 → Int32 → Int32 → Int32 → Int32 → (Nat → Int32) → Prop} (hC : Cx p s m args meth c cX11_feed (some .int) 8 GW RX11) (hK : va_K (dC, dI) vwCl (tysA cI cZ cO cW) s) (hA : ∀ q : Nat, s.heap.size ≤ q → A q) (hk_21 : ∀ (x1 : Int32) (x2 : Int32) (x3 : Int32) (x4 : Int32) (x5 : Int32) (x6 : Int32) (r_all : (Nat → Int32)) (H : Heap) (locs : List Loc) (ls : Array Slot), K_21 x1 x2 x3 x4 x5 x6 r_all → va_P (dC, dI) vwCl (vX11_feed cI cZ h h_all h_has h_line h_act h_pile h_comes h_leaves h_tried h_met f_size f_next f_where f_token f_number f_sign f_word f_wrong f_open f_lines f_acts r_all) H → va_D A (vX11_feed cI cZ h h_all h_has h_line h_act h_pile h_comes h_leaves h_tried h_met f_size f_next f_where f_token f_number f_sign f_word f_wrong f_open f_lines f_acts r_all) → va_S A s.heap H locs → lv_has ls 8 [(0, .ref h), (1, .int x1), (2, .int x2), (3, .int x3), (4, .int x4), (5, .int x5), (6, .int x6)] → W p l e rmX11_feed s m args below meth c H locs 0 0 (MQ below (qX11_feed dC dI cI cZ cO cW h h_all h_has h_line h_act h_pile h_comes h_leaves h_tried h_met f_size f_next f_where f_token f_number f_sign f_word f_wrong f_open f_lines f_acts Q A) args s 0 0 A) (F0 m 21 ls [])) :
    ∀ (x1 : Int32) (x2 : Int32) (x3 : Int32) (x4 : Int32) (x5 : Int32) (x6 : Int32) (s0 : Int32) (r_all : (Nat → Int32)) (H : Heap) (locs : List Loc) (ls : Array Slot), wX11_feed_74 Q K_21 x1 x2 x3 x4 x5 x6 s0 r_all → va_P (dC, dI) vwCl (vX11_feed cI cZ h h_all h_has h_line h_act h_pile h_comes h_leaves h_tried h_met f_size f_next f_where f_token f_number f_sign f_word f_wrong f_open f_lines f_acts r_all) H → va_D A (vX11_feed cI cZ h h_all h_has h_line h_act h_pile h_comes h_leaves h_tried h_met f_size f_next f_where f_token f_number f_sign f_word f_wrong f_open f_lines f_acts r_all) → va_S A s.heap H locs → lv_has ls 8 [(0, .ref h), (1, .int x1), (2, .int x2), (3, .int x3), (4, .int x4), (5, .int x5), (6, .int x6)] → W p l e rmX11_feed s m args below meth c H locs 0 0 (MQ below (qX11_feed dC dI cI cZ cO cW h h_all h_has h_line h_act h_pile h_comes h_leaves h_tried h_met f_size f_next f_where f_token f_number f_sign f_word f_wrong f_open f_lines f_acts Q A) args s 0 0 A) (F0 m 74 ls [.int s0]) := by
  obtain ⟨hx, hb, hr, hml, hown, hts, hlocks⟩ := id hC
  intro x1 x2 x3 x4 x5 x6 s0 r_all H locs ls hw hP hD hS hl
  refine lv_istore (lv' := [(7, .int s0), (0, .ref h), (1, .int x1), (2, .int x2), (3, .int x3), (4, .int x4), (5, .int x5), (6, .int x6)]) hx hb dX11_feed_74 hl (by decide) rfl (fun ls hl => ?_)
  refine lv_aload_n hx hb dX11_feed_76 rfl (lv_at hl 1 rfl) ?_
  refine va_get (D := (dC, dI)) (ci := 10) (v := .ref h_all) (C := RX11) (T := TX11) (N := 20) hx hb hts gu_X11 hown hK hP 0 rfl rfl 0 (by decide) (hts _ gw_607) (fun _ h9 => h9) rfl dX11_feed_77 ?_
  refine lv_sipush (v := (10340 : Int32)) hx hb dX11_feed_80 (by decide) ?_
  refine lv_aload_n hx hb dX11_feed_83 rfl (lv_at hl 1 rfl) ?_
  refine va_get (D := (dC, dI)) (ci := 10) (v := .ref h_all) (C := RX11) (T := TX11) (N := 20) hx hb hts gu_X11 hown hK hP 0 rfl rfl 0 (by decide) (hts _ gw_607) (fun _ h9 => h9) rfl dX11_feed_84 ?_
  refine lv_bipush (v := (9 : Int32)) hx hb dX11_feed_87 (by decide) ?_
  obtain ⟨h_1, hw⟩ := hw
  refine va_iald hx hb hK hP 1 0 rfl rfl h_1 dX11_feed_89 ?_
  refine lv_iadd hx hb dX11_feed_90 ?_
  refine lv_iload hx hb dX11_feed_91 (lv_at hl 0 rfl) ?_
  refine lv_bipush (v := (24 : Int32)) hx hb dX11_feed_93 (by decide) ?_
  refine lv_bipush (v := (8 : Int32)) hx hb dX11_feed_95 (by decide) ?_
  refine lv_iload hx hb dX11_feed_97 (lv_at hl 7 rfl) ?_
  refine lv_iconst (v := (4 : Int32)) hx hb dX11_feed_99 (by decide) ?_
  refine lv_irem hx hb dX11_feed_100 (by decide) ?_
  refine lv_imul hx hb dX11_feed_101 ?_
  refine lv_isub hx hb dX11_feed_102 ?_
  refine lv_ishr hx hb dX11_feed_103 ?_
  refine lv_sipush (v := (255 : Int32)) hx hb dX11_feed_104 (by decide) ?_
  refine lv_iand hx hb dX11_feed_107 ?_
  obtain ⟨h_2, hw⟩ := hw
  refine va_iast hx hb hK hP hD hS 1 0 rfl rfl h_2 dX11_feed_108 (fun H locs hP hD hS => ?_)
  have hP : va_P (dC, dI) vwCl [(h, .inr (10, [.ref h_all, .ref h_has, .int f_size, .int f_next, .int f_where, .int f_token, .int f_number, .int f_sign, .int f_word, .int f_wrong, .int f_open, .int f_lines, .int f_acts, .ref h_line, .ref h_act, .ref h_pile, .ref h_comes, .ref h_leaves, .ref h_tried, .ref h_met])), (h_all, .inl (cI, 53700, .inl (upd r_all ((10340 : Int32) + (r_all (9 : Int32).toNatClampNeg)).toNatClampNeg ((s0 >>> (((24 : Int32) - ((8 : Int32) * (x6 - x6 / (4 : Int32) * (4 : Int32)))) &&& 31)) &&& (255 : Int32)))))] _ := hP
  have hD : va_D A [(h, .inr (10, [.ref h_all, .ref h_has, .int f_size, .int f_next, .int f_where, .int f_token, .int f_number, .int f_sign, .int f_word, .int f_wrong, .int f_open, .int f_lines, .int f_acts, .ref h_line, .ref h_act, .ref h_pile, .ref h_comes, .ref h_leaves, .ref h_tried, .ref h_met])), (h_all, .inl (cI, 53700, .inl (upd r_all ((10340 : Int32) + (r_all (9 : Int32).toNatClampNeg)).toNatClampNeg ((s0 >>> (((24 : Int32) - ((8 : Int32) * (x6 - x6 / (4 : Int32) * (4 : Int32)))) &&& 31)) &&& (255 : Int32)))))] := hD
  refine lv_aload_n hx hb dX11_feed_109 rfl (lv_at hl 1 rfl) ?_
  refine va_get (D := (dC, dI)) (ci := 10) (v := .ref h_all) (C := RX11) (T := TX11) (N := 20) hx hb hts gu_X11 hown hK hP 0 rfl rfl 0 (by decide) (hts _ gw_607) (fun _ h9 => h9) rfl dX11_feed_110 ?_
  refine lv_bipush (v := (9 : Int32)) hx hb dX11_feed_113 (by decide) ?_
  refine lv_dup2_11 hx hb dX11_feed_115 rfl rfl ?_
  obtain ⟨h_3, hw⟩ := hw
  refine va_iald hx hb hK hP 1 0 rfl rfl h_3 dX11_feed_116 ?_
  refine lv_iconst (v := (1 : Int32)) hx hb dX11_feed_117 (by decide) ?_
  refine lv_iadd hx hb dX11_feed_118 ?_
  obtain ⟨h_4, hw⟩ := hw
  refine va_iast hx hb hK hP hD hS 1 0 rfl rfl h_4 dX11_feed_119 (fun H locs hP hD hS => ?_)
  have hP : va_P (dC, dI) vwCl [(h, .inr (10, [.ref h_all, .ref h_has, .int f_size, .int f_next, .int f_where, .int f_token, .int f_number, .int f_sign, .int f_word, .int f_wrong, .int f_open, .int f_lines, .int f_acts, .ref h_line, .ref h_act, .ref h_pile, .ref h_comes, .ref h_leaves, .ref h_tried, .ref h_met])), (h_all, .inl (cI, 53700, .inl (upd (upd r_all ((10340 : Int32) + (r_all (9 : Int32).toNatClampNeg)).toNatClampNeg ((s0 >>> (((24 : Int32) - ((8 : Int32) * (x6 - x6 / (4 : Int32) * (4 : Int32)))) &&& 31)) &&& (255 : Int32))) (9 : Int32).toNatClampNeg (((upd r_all ((10340 : Int32) + (r_all (9 : Int32).toNatClampNeg)).toNatClampNeg ((s0 >>> (((24 : Int32) - ((8 : Int32) * (x6 - x6 / (4 : Int32) * (4 : Int32)))) &&& 31)) &&& (255 : Int32))) (9 : Int32).toNatClampNeg) + (1 : Int32)))))] _ := hP
  have hD : va_D A [(h, .inr (10, [.ref h_all, .ref h_has, .int f_size, .int f_next, .int f_where, .int f_token, .int f_number, .int f_sign, .int f_word, .int f_wrong, .int f_open, .int f_lines, .int f_acts, .ref h_line, .ref h_act, .ref h_pile, .ref h_comes, .ref h_leaves, .ref h_tried, .ref h_met])), (h_all, .inl (cI, 53700, .inl (upd (upd r_all ((10340 : Int32) + (r_all (9 : Int32).toNatClampNeg)).toNatClampNeg ((s0 >>> (((24 : Int32) - ((8 : Int32) * (x6 - x6 / (4 : Int32) * (4 : Int32)))) &&& 31)) &&& (255 : Int32))) (9 : Int32).toNatClampNeg (((upd r_all ((10340 : Int32) + (r_all (9 : Int32).toNatClampNeg)).toNatClampNeg ((s0 >>> (((24 : Int32) - ((8 : Int32) * (x6 - x6 / (4 : Int32) * (4 : Int32)))) &&& 31)) &&& (255 : Int32))) (9 : Int32).toNatClampNeg) + (1 : Int32)))))] := hD
  refine lv_iinc (v := (x6 + (1 : Int32))) (lv' := [(6, .int (x6 + (1 : Int32))), (7, .int s0), (0, .ref h), (1, .int x1), (2, .int x2), (3, .int x3), (4, .int x4), (5, .int x5)]) hx hb dX11_feed_120 hl (k := 7) rfl rfl (by decide) rfl (fun ls hl => ?_)
  refine lv_goto (tgt := 21) hx hb dX11_feed_123 (by decide) ?_
  exact hk_21 x1 x2 x3 x4 x5 (x6 + (1 : Int32)) (upd (upd r_all ((10340 : Int32) + (r_all (9 : Int32).toNatClampNeg)).toNatClampNeg ((s0 >>> (((24 : Int32) - ((8 : Int32) * (x6 - x6 / (4 : Int32) * (4 : Int32)))) &&& 31)) &&& (255 : Int32))) (9 : Int32).toNatClampNeg (((upd r_all ((10340 : Int32) + (r_all (9 : Int32).toNatClampNeg)).toNatClampNeg ((s0 >>> (((24 : Int32) - ((8 : Int32) * (x6 - x6 / (4 : Int32) * (4 : Int32)))) &&& 31)) &&& (255 : Int32))) (9 : Int32).toNatClampNeg) + (1 : Int32))) _ _ ls hw (hP.sub [0, 1] rfl) (hD.sub [0, 1] (by decide) rfl) hS (lv_sub hl [2, 3, 4, 5, 6, 7, 0] rfl)
set_option maxHeartbeats 4000000 in
set_option maxRecDepth 100000 in
theorem tX11_feed_21 {p : Program} {l : Launch} {e : Env} {s : State} {m : MethodId} {args : Array Value} {below : List Frame} {meth : Method} {c : Code} {dC : Nat → ClassId} {dI : Nat → Nat → Nat} {cI cZ cO cW : ClassId} {A : Nat → Prop} {h h_all h_has h_line h_act h_pile h_comes h_leaves h_tried h_met : Nat} {f_size f_next f_where f_token f_number f_sign f_word f_wrong f_open f_lines f_acts : Int32} {Q : Int32 → (Nat → Int32) → Prop}  (hC : Cx p s m args meth c cX11_feed (some .int) 8 GW RX11) (hK : va_K (dC, dI) vwCl (tysA cI cZ cO cW) s) (hA : ∀ q : Nat, s.heap.size ≤ q → A q) :
    ∀ (n : Nat) (x1 : Int32) (x2 : Int32) (x3 : Int32) (x4 : Int32) (x5 : Int32) (x6 : Int32) (r_all : (Nat → Int32)) (H : Heap) (locs : List Loc) (ls : Array Slot), wX11_feed_21 Q  n x1 x2 x3 x4 x5 x6 r_all → va_P (dC, dI) vwCl (vX11_feed cI cZ h h_all h_has h_line h_act h_pile h_comes h_leaves h_tried h_met f_size f_next f_where f_token f_number f_sign f_word f_wrong f_open f_lines f_acts r_all) H → va_D A (vX11_feed cI cZ h h_all h_has h_line h_act h_pile h_comes h_leaves h_tried h_met f_size f_next f_where f_token f_number f_sign f_word f_wrong f_open f_lines f_acts r_all) → va_S A s.heap H locs → lv_has ls 8 [(0, .ref h), (1, .int x1), (2, .int x2), (3, .int x3), (4, .int x4), (5, .int x5), (6, .int x6)] → W p l e rmX11_feed s m args below meth c H locs 0 0 (MQ below (qX11_feed dC dI cI cZ cO cW h h_all h_has h_line h_act h_pile h_comes h_leaves h_tried h_met f_size f_next f_where f_token f_number f_sign f_word f_wrong f_open f_lines f_acts Q A) args s 0 0 A) (F0 m 21 ls []) := by
  obtain ⟨hx, hb, hr, hml, hown, hts, hlocks⟩ := id hC
  intro n
  induction n with
  | zero =>
    intro  x1 x2 x3 x4 x5 x6 r_all H locs ls hw
    exact hw.elim
  | succ n ih =>
    intro  x1 x2 x3 x4 x5 x6 r_all H locs ls hw hP hD hS hl
    refine lv_iload hx hb dX11_feed_21 (lv_at hl 6 rfl) ?_
    refine lv_bipush (v := (20 : Int32)) hx hb dX11_feed_23 (by decide) ?_
    refine lv_icmp_ge (tgt := 126) hx hb dX11_feed_25 (by decide) (fun c_5 => ?_) (fun c_5 => ?_)
    · have hw := hw.1 c_5
      refine lv_aload_n hx hb dX11_feed_126 rfl (lv_at hl 0 rfl) ?_
      refine va_get (D := (dC, dI)) (ci := 10) (v := .ref h_all) (C := RX11) (T := TX11) (N := 20) hx hb hts gu_X11 hown hK hP 0 rfl rfl 0 (by decide) (hts _ gw_607) (fun _ h9 => h9) rfl dX11_feed_127 ?_
      refine lv_bipush (v := (9 : Int32)) hx hb dX11_feed_130 (by decide) ?_
      obtain ⟨h_6, hw⟩ := hw
      refine va_iald hx hb hK hP 1 0 rfl rfl h_6 dX11_feed_132 ?_
      have hP9 := hP.sub (ws' := (vX11_feed cI cZ h h_all h_has h_line h_act h_pile h_comes h_leaves h_tried h_met f_size f_next f_where f_token f_number f_sign f_word f_wrong f_open f_lines f_acts r_all)) [0, 1] rfl
      have hD9 := hD.sub (ws' := (vX11_feed cI cZ h h_all h_has h_line h_act h_pile h_comes h_leaves h_tried h_met f_size f_next f_where f_token f_number f_sign f_word f_wrong f_open f_lines f_acts r_all)) [0, 1] (by decide) rfl
      exact W.iret (v := (r_all (9 : Int32).toNatClampNeg)) hx hb hr (fun t ht hW => ⟨⟨(r_all (9 : Int32).toNatClampNeg), r_all, rfl, hw, by rw [ht]; exact hP9, va_K.moved hW.alike hK, hD9⟩, hS.F ht⟩) hS.2.2 dX11_feed_133
    · have hw := hw.2 c_5
      refine lv_iload hx hb dX11_feed_28 (lv_at hl 6 rfl) ?_
      refine lv_iconst (v := (4 : Int32)) hx hb dX11_feed_30 (by decide) ?_
      refine lv_icmp_ge (tgt := 38) hx hb dX11_feed_31 (by decide) (fun c_7 => ?_) (fun c_7 => ?_)
      · have hw := hw.1 c_7
        refine lv_iload hx hb dX11_feed_38 (lv_at hl 6 rfl) ?_
        refine lv_bipush (v := (8 : Int32)) hx hb dX11_feed_40 (by decide) ?_
        refine lv_icmp_ge (tgt := 49) hx hb dX11_feed_42 (by decide) (fun c_8 => ?_) (fun c_8 => ?_)
        · have hw := hw.1 c_8
          refine lv_iload hx hb dX11_feed_49 (lv_at hl 6 rfl) ?_
          refine lv_bipush (v := (12 : Int32)) hx hb dX11_feed_51 (by decide) ?_
          refine lv_icmp_ge (tgt := 60) hx hb dX11_feed_53 (by decide) (fun c_9 => ?_) (fun c_9 => ?_)
          · have hw := hw.1 c_9
            refine lv_iload hx hb dX11_feed_60 (lv_at hl 6 rfl) ?_
            refine lv_bipush (v := (16 : Int32)) hx hb dX11_feed_62 (by decide) ?_
            refine lv_icmp_ge (tgt := 72) hx hb dX11_feed_64 (by decide) (fun c_10 => ?_) (fun c_10 => ?_)
            · have hw := hw.1 c_10
              refine lv_iload hx hb dX11_feed_72 (lv_at hl 5 rfl) ?_
              exact tX11_feed_74 hC hK hA ih x1 x2 x3 x4 x5 x6 x5 r_all _ _ ls hw (hP.sub [0, 1] rfl) (hD.sub [0, 1] (by decide) rfl) hS (lv_sub hl [0, 1, 2, 3, 4, 5, 6] rfl)
            · have hw := hw.2 c_10
              refine lv_iload hx hb dX11_feed_67 (lv_at hl 4 rfl) ?_
              refine lv_goto (tgt := 74) hx hb dX11_feed_69 (by decide) ?_
              exact tX11_feed_74 hC hK hA ih x1 x2 x3 x4 x5 x6 x4 r_all _ _ ls hw (hP.sub [0, 1] rfl) (hD.sub [0, 1] (by decide) rfl) hS (lv_sub hl [0, 1, 2, 3, 4, 5, 6] rfl)
          · have hw := hw.2 c_9
            refine lv_iload_n hx hb dX11_feed_56 rfl (lv_at hl 3 rfl) ?_
            refine lv_goto (tgt := 74) hx hb dX11_feed_57 (by decide) ?_
            exact tX11_feed_74 hC hK hA ih x1 x2 x3 x4 x5 x6 x3 r_all _ _ ls hw (hP.sub [0, 1] rfl) (hD.sub [0, 1] (by decide) rfl) hS (lv_sub hl [0, 1, 2, 3, 4, 5, 6] rfl)
        · have hw := hw.2 c_8
          refine lv_iload_n hx hb dX11_feed_45 rfl (lv_at hl 2 rfl) ?_
          refine lv_goto (tgt := 74) hx hb dX11_feed_46 (by decide) ?_
          exact tX11_feed_74 hC hK hA ih x1 x2 x3 x4 x5 x6 x2 r_all _ _ ls hw (hP.sub [0, 1] rfl) (hD.sub [0, 1] (by decide) rfl) hS (lv_sub hl [0, 1, 2, 3, 4, 5, 6] rfl)
      · have hw := hw.2 c_7
        refine lv_iload_n hx hb dX11_feed_34 rfl (lv_at hl 1 rfl) ?_
        refine lv_goto (tgt := 74) hx hb dX11_feed_35 (by decide) ?_
        exact tX11_feed_74 hC hK hA ih x1 x2 x3 x4 x5 x6 x1 r_all _ _ ls hw (hP.sub [0, 1] rfl) (hD.sub [0, 1] (by decide) rfl) hS (lv_sub hl [0, 1, 2, 3, 4, 5, 6] rfl)
set_option maxHeartbeats 4000000 in
set_option maxRecDepth 100000 in
theorem tX11_feed_e {p : Program} {l : Launch} {e : Env} {s : State} {m : MethodId} {args : Array Value} {below : List Frame} {meth : Method} {c : Code} {dC : Nat → ClassId} {dI : Nat → Nat → Nat} {cI cZ cO cW : ClassId} {A : Nat → Prop} {h h_all h_has h_line h_act h_pile h_comes h_leaves h_tried h_met : Nat} {f_size f_next f_where f_token f_number f_sign f_word f_wrong f_open f_lines f_acts : Int32} {Q : Int32 → (Nat → Int32) → Prop} (hC : Cx p s m args meth c cX11_feed (some .int) 8 GW RX11) (hK : va_K (dC, dI) vwCl (tysA cI cZ cO cW) s) (hA : ∀ q : Nat, s.heap.size ≤ q → A q) :
    ∀ (x1 : Int32) (x2 : Int32) (x3 : Int32) (x4 : Int32) (x5 : Int32) (r_all : Nat → Int32) (H : Heap) (locs : List Loc) (ls : Array Slot), wX11_feed Q x1 x2 x3 x4 x5 r_all → va_P (dC, dI) vwCl (vX11_feed cI cZ h h_all h_has h_line h_act h_pile h_comes h_leaves h_tried h_met f_size f_next f_where f_token f_number f_sign f_word f_wrong f_open f_lines f_acts r_all) H → va_D A (vX11_feed cI cZ h h_all h_has h_line h_act h_pile h_comes h_leaves h_tried h_met f_size f_next f_where f_token f_number f_sign f_word f_wrong f_open f_lines f_acts r_all) → va_S A s.heap H locs → lv_has ls 8 [(0, .ref h), (1, .int x1), (2, .int x2), (3, .int x3), (4, .int x4), (5, .int x5)] → W p l e rmX11_feed s m args below meth c H locs 0 0 (MQ below (qX11_feed dC dI cI cZ cO cW h h_all h_has h_line h_act h_pile h_comes h_leaves h_tried h_met f_size f_next f_where f_token f_number f_sign f_word f_wrong f_open f_lines f_acts Q A) args s 0 0 A) (F0 m 0 ls []) := by
  obtain ⟨hx, hb, hr, hml, hown, hts, hlocks⟩ := id hC
  intro x1 x2 x3 x4 x5 r_all H locs ls hw hP hD hS hl
  refine lv_aload_n hx hb dX11_feed_0 rfl (lv_at hl 0 rfl) ?_
  refine va_get (D := (dC, dI)) (ci := 10) (v := .ref h_all) (C := RX11) (T := TX11) (N := 20) hx hb hts gu_X11 hown hK hP 0 rfl rfl 0 (by decide) (hts _ gw_607) (fun _ h9 => h9) rfl dX11_feed_1 ?_
  refine lv_bipush (v := (9 : Int32)) hx hb dX11_feed_4 (by decide) ?_
  obtain ⟨h_11, hw⟩ := hw
  refine va_iald hx hb hK hP 1 0 rfl rfl h_11 dX11_feed_6 ?_
  refine lv_bipush (v := (20 : Int32)) hx hb dX11_feed_7 (by decide) ?_
  refine lv_iadd hx hb dX11_feed_9 ?_
  refine lv_sipush (v := (400 : Int32)) hx hb dX11_feed_10 (by decide) ?_
  refine lv_icmp_le (tgt := 18) hx hb dX11_feed_13 (by decide) (fun c_12 => ?_) (fun c_12 => ?_)
  · have hw := hw.1 c_12
    refine lv_iconst (v := (0 : Int32)) hx hb dX11_feed_18 (by decide) ?_
    refine lv_istore (lv' := [(6, .int (0 : Int32)), (0, .ref h), (1, .int x1), (2, .int x2), (3, .int x3), (4, .int x4), (5, .int x5)]) hx hb dX11_feed_19 hl (by decide) rfl (fun ls hl => ?_)
    obtain ⟨n_13, hw⟩ := hw
    exact tX11_feed_21 hC hK hA  n_13 x1 x2 x3 x4 x5 (0 : Int32) r_all _ _ ls hw (hP.sub [0, 1] rfl) (hD.sub [0, 1] (by decide) rfl) hS (lv_sub hl [1, 2, 3, 4, 5, 6, 0] rfl)
  · have hw := hw.2 c_12
    refine lv_iconst (v := (-1 : Int32)) hx hb dX11_feed_16 (by decide) ?_
    have hP9 := hP.sub (ws' := (vX11_feed cI cZ h h_all h_has h_line h_act h_pile h_comes h_leaves h_tried h_met f_size f_next f_where f_token f_number f_sign f_word f_wrong f_open f_lines f_acts r_all)) [0, 1] rfl
    have hD9 := hD.sub (ws' := (vX11_feed cI cZ h h_all h_has h_line h_act h_pile h_comes h_leaves h_tried h_met f_size f_next f_where f_token f_number f_sign f_word f_wrong f_open f_lines f_acts r_all)) [0, 1] (by decide) rfl
    exact W.iret (v := (-1 : Int32)) hx hb hr (fun t ht hW => ⟨⟨(-1 : Int32), r_all, rfl, hw, by rw [ht]; exact hP9, va_K.moved hW.alike hK, hD9⟩, hS.F ht⟩) hS.2.2 dX11_feed_17
set_option maxHeartbeats 4000000 in
set_option maxRecDepth 100000 in
theorem kX11_feed (l : Launch) (dC : Nat → ClassId) (dI : Nat → Nat → Nat) (cI cZ cO cW : ClassId) (h h_all h_has h_line h_act h_pile h_comes h_leaves h_tried h_met : Nat)  (sz : Nat) (f_size : Int32) (f_next : Int32) (f_where : Int32) (f_token : Int32) (f_number : Int32) (f_sign : Int32) (f_word : Int32) (f_wrong : Int32) (f_open : Int32) (f_lines : Int32) (f_acts : Int32) (r_all : Nat → Int32) (x1 : Int32) (x2 : Int32) (x3 : Int32) (x4 : Int32) (x5 : Int32) (Q : Int32 → (Nat → Int32) → Prop) (hw : wX11_feed Q x1 x2 x3 x4 x5 r_all) : Met l yX11_feed zsX11_feed rmX11_feed (va_Pc [.ref h, .int x1, .int x2, .int x3, .int x4, .int x5] (fun U => U.heap.size = sz ∧ va_P (dC, dI) vwCl (vX11_feed cI cZ h h_all h_has h_line h_act h_pile h_comes h_leaves h_tried h_met f_size f_next f_where f_token f_number f_sign f_word f_wrong f_open f_lines f_acts r_all) U.heap ∧ va_K (dC, dI) vwCl (tysA cI cZ cO cW) U ∧ va_D (fun _ => True) (vX11_feed cI cZ h h_all h_has h_line h_act h_pile h_comes h_leaves h_tried h_met f_size f_next f_where f_token f_number f_sign f_word f_wrong f_open f_lines f_acts r_all))) (qX11_feed dC dI cI cZ cO cW h h_all h_has h_line h_act h_pile h_comes h_leaves h_tried h_met f_size f_next f_where f_token f_number f_sign f_word f_wrong f_open f_lines f_acts Q (va_A (vX11_feed cI cZ h h_all h_has h_line h_act h_pile h_comes h_leaves h_tried h_met f_size f_next f_where f_token f_number f_sign f_word f_wrong f_open f_lines f_acts r_all) sz)) 0 0 (va_A (vX11_feed cI cZ h h_all h_has h_line h_act h_pile h_comes h_leaves h_tried h_met f_size f_next f_where f_token f_number f_sign f_word f_wrong f_open f_lines f_acts r_all) sz) := by
  refine Met.ofW (cc := cX11_feed) (maxL := 8) (ret := (some .int)) (by decide) rfl ?_
  intro p e s m args below meth c s₁ B hml hv
  obtain ⟨rfl, hsz, hP, hK, hD0⟩ := hv
  subst hsz
  have hC : Cx p s m ([.ref h, .int x1, .int x2, .int x3, .int x4, .int x5] : List Value).toArray meth c cX11_feed (some .int) 8 GW RX11 := ⟨B.exec, B.bytes, B.returns, hml, findClass_of_methodNamed B.named, fun w h => atoms_spec (ws := zsX11_feed) B.pre w (List.mem_cons_of_mem _ h), B.notSynchronized⟩
  have hD := hD0.self (sz := s.heap.size)
  generalize hAe : va_A (vX11_feed cI cZ h h_all h_has h_line h_act h_pile h_comes h_leaves h_tried h_met f_size f_next f_where f_token f_number f_sign f_word f_wrong f_open f_lines f_acts r_all) s.heap.size = A at hD ⊢
  have hA : ∀ q : Nat, s.heap.size ≤ q → A q := fun q h => by rw [← hAe]; exact Or.inr h
  have hl := lv_entry ([.ref h, .int x1, .int x2, .int x3, .int x4, .int x5]) (n := 8) (Nat.le_of_ble_eq_true rfl)
  rw [lg_entry_eq]
  generalize (lg_sl ([.ref h, .int x1, .int x2, .int x3, .int x4, .int x5]) ++ List.replicate (8 - (lg_sl ([.ref h, .int x1, .int x2, .int x3, .int x4, .int x5])).length) Slot.unset).toArray = ls at hl ⊢
  exact tX11_feed_e hC hK hA x1 x2 x3 x4 x5 r_all _ _ ls hw hP hD va_S.rf hl

/-! X11_end -/
def wX11_end (Q : Int32 → (Nat → Int32) → Prop) (x1 : Int32) (r_all : Nat → Int32) : Prop :=
  ((x1 < 0 → (Q (-1 : Int32) r_all)) ∧ (¬ x1 < 0 → (vp_in (9 : Int32) 53700 ∧ ((x1 ≤ (r_all (9 : Int32).toNatClampNeg) → (vp_in (9 : Int32) 53700 ∧ (Q x1 (upd r_all (9 : Int32).toNatClampNeg x1)))) ∧ (¬ x1 ≤ (r_all (9 : Int32).toNatClampNeg) → (Q (-1 : Int32) r_all))))))
abbrev vX11_end (cI cZ : ClassId) (h h_all h_has h_line h_act h_pile h_comes h_leaves h_tried h_met : Nat) (f_size : Int32) (f_next : Int32) (f_where : Int32) (f_token : Int32) (f_number : Int32) (f_sign : Int32) (f_word : Int32) (f_wrong : Int32) (f_open : Int32) (f_lines : Int32) (f_acts : Int32) (r_all : Nat → Int32) : va_W := [(h, .inr (10, [.ref h_all, .ref h_has, .int f_size, .int f_next, .int f_where, .int f_token, .int f_number, .int f_sign, .int f_word, .int f_wrong, .int f_open, .int f_lines, .int f_acts, .ref h_line, .ref h_act, .ref h_pile, .ref h_comes, .ref h_leaves, .ref h_tried, .ref h_met])), (h_all, .inl (cI, 53700, .inl r_all))]
abbrev rmX11_end : Room := { frames := 0, cells := 0, slots := 0, locals := 0 }
abbrev qX11_end (dC : Nat → ClassId) (dI : Nat → Nat → Nat) (cI cZ cO cW : ClassId) (h h_all h_has h_line h_act h_pile h_comes h_leaves h_tried h_met : Nat) (f_size : Int32) (f_next : Int32) (f_where : Int32) (f_token : Int32) (f_number : Int32) (f_sign : Int32) (f_word : Int32) (f_wrong : Int32) (f_open : Int32) (f_lines : Int32) (f_acts : Int32) (Q : Int32 → (Nat → Int32) → Prop) (A : Nat → Prop) : Array Value → State → Outcome → State → Prop := va_Qi (fun (r : Int32) (u : (Nat → Int32)) => Q r u) (fun (u : (Nat → Int32)) (t : State) => va_P (dC, dI) vwCl (vX11_end cI cZ h h_all h_has h_line h_act h_pile h_comes h_leaves h_tried h_met f_size f_next f_where f_token f_number f_sign f_word f_wrong f_open f_lines f_acts u) t.heap ∧ va_K (dC, dI) vwCl (tysA cI cZ cO cW) t ∧ va_D A (vX11_end cI cZ h h_all h_has h_line h_act h_pile h_comes h_leaves h_tried h_met f_size f_next f_where f_token f_number f_sign f_word f_wrong f_open f_lines f_acts u)) A
def zsX11_end : List Cond := Cond.code yX11_end cX11_end 2 (some .int) :: GW
set_option maxHeartbeats 4000000 in
set_option maxRecDepth 100000 in
theorem tX11_end_e {p : Program} {l : Launch} {e : Env} {s : State} {m : MethodId} {args : Array Value} {below : List Frame} {meth : Method} {c : Code} {dC : Nat → ClassId} {dI : Nat → Nat → Nat} {cI cZ cO cW : ClassId} {A : Nat → Prop} {h h_all h_has h_line h_act h_pile h_comes h_leaves h_tried h_met : Nat} {f_size f_next f_where f_token f_number f_sign f_word f_wrong f_open f_lines f_acts : Int32} {Q : Int32 → (Nat → Int32) → Prop} (hC : Cx p s m args meth c cX11_end (some .int) 2 GW RX11) (hK : va_K (dC, dI) vwCl (tysA cI cZ cO cW) s) (hA : ∀ q : Nat, s.heap.size ≤ q → A q) :
    ∀ (x1 : Int32) (r_all : Nat → Int32) (H : Heap) (locs : List Loc) (ls : Array Slot), wX11_end Q x1 r_all → va_P (dC, dI) vwCl (vX11_end cI cZ h h_all h_has h_line h_act h_pile h_comes h_leaves h_tried h_met f_size f_next f_where f_token f_number f_sign f_word f_wrong f_open f_lines f_acts r_all) H → va_D A (vX11_end cI cZ h h_all h_has h_line h_act h_pile h_comes h_leaves h_tried h_met f_size f_next f_where f_token f_number f_sign f_word f_wrong f_open f_lines f_acts r_all) → va_S A s.heap H locs → lv_has ls 2 [(0, .ref h), (1, .int x1)] → W p l e rmX11_end s m args below meth c H locs 0 0 (MQ below (qX11_end dC dI cI cZ cO cW h h_all h_has h_line h_act h_pile h_comes h_leaves h_tried h_met f_size f_next f_where f_token f_number f_sign f_word f_wrong f_open f_lines f_acts Q A) args s 0 0 A) (F0 m 0 ls []) := by
  obtain ⟨hx, hb, hr, hml, hown, hts, hlocks⟩ := id hC
  intro x1 r_all H locs ls hw hP hD hS hl
  refine lv_iload_n hx hb dX11_end_0 rfl (lv_at hl 1 rfl) ?_
  refine lv_if_lt (tgt := 15) hx hb dX11_end_1 (by decide) (fun c_1 => ?_) (fun c_1 => ?_)
  · have hw := hw.1 c_1
    refine lv_iconst (v := (-1 : Int32)) hx hb dX11_end_15 (by decide) ?_
    have hP9 := hP.sub (ws' := (vX11_end cI cZ h h_all h_has h_line h_act h_pile h_comes h_leaves h_tried h_met f_size f_next f_where f_token f_number f_sign f_word f_wrong f_open f_lines f_acts r_all)) [0, 1] rfl
    have hD9 := hD.sub (ws' := (vX11_end cI cZ h h_all h_has h_line h_act h_pile h_comes h_leaves h_tried h_met f_size f_next f_where f_token f_number f_sign f_word f_wrong f_open f_lines f_acts r_all)) [0, 1] (by decide) rfl
    exact W.iret (v := (-1 : Int32)) hx hb hr (fun t ht hW => ⟨⟨(-1 : Int32), r_all, rfl, hw, by rw [ht]; exact hP9, va_K.moved hW.alike hK, hD9⟩, hS.F ht⟩) hS.2.2 dX11_end_16
  · have hw := hw.2 c_1
    refine lv_iload_n hx hb dX11_end_4 rfl (lv_at hl 1 rfl) ?_
    refine lv_aload_n hx hb dX11_end_5 rfl (lv_at hl 0 rfl) ?_
    refine va_get (D := (dC, dI)) (ci := 10) (v := .ref h_all) (C := RX11) (T := TX11) (N := 20) hx hb hts gu_X11 hown hK hP 0 rfl rfl 0 (by decide) (hts _ gw_607) (fun _ h9 => h9) rfl dX11_end_6 ?_
    refine lv_bipush (v := (9 : Int32)) hx hb dX11_end_9 (by decide) ?_
    obtain ⟨h_2, hw⟩ := hw
    refine va_iald hx hb hK hP 1 0 rfl rfl h_2 dX11_end_11 ?_
    refine lv_icmp_le (tgt := 17) hx hb dX11_end_12 (by decide) (fun c_3 => ?_) (fun c_3 => ?_)
    · have hw := hw.1 c_3
      refine lv_aload_n hx hb dX11_end_17 rfl (lv_at hl 0 rfl) ?_
      refine va_get (D := (dC, dI)) (ci := 10) (v := .ref h_all) (C := RX11) (T := TX11) (N := 20) hx hb hts gu_X11 hown hK hP 0 rfl rfl 0 (by decide) (hts _ gw_607) (fun _ h9 => h9) rfl dX11_end_18 ?_
      refine lv_bipush (v := (9 : Int32)) hx hb dX11_end_21 (by decide) ?_
      refine lv_iload_n hx hb dX11_end_23 rfl (lv_at hl 1 rfl) ?_
      obtain ⟨h_4, hw⟩ := hw
      refine va_iast hx hb hK hP hD hS 1 0 rfl rfl h_4 dX11_end_24 (fun H locs hP hD hS => ?_)
      have hP : va_P (dC, dI) vwCl [(h, .inr (10, [.ref h_all, .ref h_has, .int f_size, .int f_next, .int f_where, .int f_token, .int f_number, .int f_sign, .int f_word, .int f_wrong, .int f_open, .int f_lines, .int f_acts, .ref h_line, .ref h_act, .ref h_pile, .ref h_comes, .ref h_leaves, .ref h_tried, .ref h_met])), (h_all, .inl (cI, 53700, .inl (upd r_all (9 : Int32).toNatClampNeg x1)))] _ := hP
      have hD : va_D A [(h, .inr (10, [.ref h_all, .ref h_has, .int f_size, .int f_next, .int f_where, .int f_token, .int f_number, .int f_sign, .int f_word, .int f_wrong, .int f_open, .int f_lines, .int f_acts, .ref h_line, .ref h_act, .ref h_pile, .ref h_comes, .ref h_leaves, .ref h_tried, .ref h_met])), (h_all, .inl (cI, 53700, .inl (upd r_all (9 : Int32).toNatClampNeg x1)))] := hD
      refine lv_iload_n hx hb dX11_end_25 rfl (lv_at hl 1 rfl) ?_
      have hP9 := hP.sub (ws' := (vX11_end cI cZ h h_all h_has h_line h_act h_pile h_comes h_leaves h_tried h_met f_size f_next f_where f_token f_number f_sign f_word f_wrong f_open f_lines f_acts (upd r_all (9 : Int32).toNatClampNeg x1))) [0, 1] rfl
      have hD9 := hD.sub (ws' := (vX11_end cI cZ h h_all h_has h_line h_act h_pile h_comes h_leaves h_tried h_met f_size f_next f_where f_token f_number f_sign f_word f_wrong f_open f_lines f_acts (upd r_all (9 : Int32).toNatClampNeg x1))) [0, 1] (by decide) rfl
      exact W.iret (v := x1) hx hb hr (fun t ht hW => ⟨⟨x1, (upd r_all (9 : Int32).toNatClampNeg x1), rfl, hw, by rw [ht]; exact hP9, va_K.moved hW.alike hK, hD9⟩, hS.F ht⟩) hS.2.2 dX11_end_26
    · have hw := hw.2 c_3
      refine lv_iconst (v := (-1 : Int32)) hx hb dX11_end_15 (by decide) ?_
      have hP9 := hP.sub (ws' := (vX11_end cI cZ h h_all h_has h_line h_act h_pile h_comes h_leaves h_tried h_met f_size f_next f_where f_token f_number f_sign f_word f_wrong f_open f_lines f_acts r_all)) [0, 1] rfl
      have hD9 := hD.sub (ws' := (vX11_end cI cZ h h_all h_has h_line h_act h_pile h_comes h_leaves h_tried h_met f_size f_next f_where f_token f_number f_sign f_word f_wrong f_open f_lines f_acts r_all)) [0, 1] (by decide) rfl
      exact W.iret (v := (-1 : Int32)) hx hb hr (fun t ht hW => ⟨⟨(-1 : Int32), r_all, rfl, hw, by rw [ht]; exact hP9, va_K.moved hW.alike hK, hD9⟩, hS.F ht⟩) hS.2.2 dX11_end_16
set_option maxHeartbeats 4000000 in
set_option maxRecDepth 100000 in
theorem kX11_end (l : Launch) (dC : Nat → ClassId) (dI : Nat → Nat → Nat) (cI cZ cO cW : ClassId) (h h_all h_has h_line h_act h_pile h_comes h_leaves h_tried h_met : Nat)  (sz : Nat) (f_size : Int32) (f_next : Int32) (f_where : Int32) (f_token : Int32) (f_number : Int32) (f_sign : Int32) (f_word : Int32) (f_wrong : Int32) (f_open : Int32) (f_lines : Int32) (f_acts : Int32) (r_all : Nat → Int32) (x1 : Int32) (Q : Int32 → (Nat → Int32) → Prop) (hw : wX11_end Q x1 r_all) : Met l yX11_end zsX11_end rmX11_end (va_Pc [.ref h, .int x1] (fun U => U.heap.size = sz ∧ va_P (dC, dI) vwCl (vX11_end cI cZ h h_all h_has h_line h_act h_pile h_comes h_leaves h_tried h_met f_size f_next f_where f_token f_number f_sign f_word f_wrong f_open f_lines f_acts r_all) U.heap ∧ va_K (dC, dI) vwCl (tysA cI cZ cO cW) U ∧ va_D (fun _ => True) (vX11_end cI cZ h h_all h_has h_line h_act h_pile h_comes h_leaves h_tried h_met f_size f_next f_where f_token f_number f_sign f_word f_wrong f_open f_lines f_acts r_all))) (qX11_end dC dI cI cZ cO cW h h_all h_has h_line h_act h_pile h_comes h_leaves h_tried h_met f_size f_next f_where f_token f_number f_sign f_word f_wrong f_open f_lines f_acts Q (va_A (vX11_end cI cZ h h_all h_has h_line h_act h_pile h_comes h_leaves h_tried h_met f_size f_next f_where f_token f_number f_sign f_word f_wrong f_open f_lines f_acts r_all) sz)) 0 0 (va_A (vX11_end cI cZ h h_all h_has h_line h_act h_pile h_comes h_leaves h_tried h_met f_size f_next f_where f_token f_number f_sign f_word f_wrong f_open f_lines f_acts r_all) sz) := by
  refine Met.ofW (cc := cX11_end) (maxL := 2) (ret := (some .int)) (by decide) rfl ?_
  intro p e s m args below meth c s₁ B hml hv
  obtain ⟨rfl, hsz, hP, hK, hD0⟩ := hv
  subst hsz
  have hC : Cx p s m ([.ref h, .int x1] : List Value).toArray meth c cX11_end (some .int) 2 GW RX11 := ⟨B.exec, B.bytes, B.returns, hml, findClass_of_methodNamed B.named, fun w h => atoms_spec (ws := zsX11_end) B.pre w (List.mem_cons_of_mem _ h), B.notSynchronized⟩
  have hD := hD0.self (sz := s.heap.size)
  generalize hAe : va_A (vX11_end cI cZ h h_all h_has h_line h_act h_pile h_comes h_leaves h_tried h_met f_size f_next f_where f_token f_number f_sign f_word f_wrong f_open f_lines f_acts r_all) s.heap.size = A at hD ⊢
  have hA : ∀ q : Nat, s.heap.size ≤ q → A q := fun q h => by rw [← hAe]; exact Or.inr h
  have hl := lv_entry ([.ref h, .int x1]) (n := 2) (Nat.le_of_ble_eq_true rfl)
  rw [lg_entry_eq]
  generalize (lg_sl ([.ref h, .int x1]) ++ List.replicate (2 - (lg_sl ([.ref h, .int x1])).length) Slot.unset).toArray = ls at hl ⊢
  exact tX11_end_e hC hK hA x1 r_all _ _ ls hw hP hD va_S.rf hl

/-! X11_fault -/
def wX11_fault (Q : Int32 → Prop) (x1 : Int32) (r_all : Nat → Int32) : Prop :=
  ((¬ x1 = 0 → ((¬ x1 = (1 : Int32) → (Q (-1 : Int32))) ∧ (x1 = (1 : Int32) → (vp_in (11 : Int32) 53700 ∧ (Q (r_all (11 : Int32).toNatClampNeg)))))) ∧ (x1 = 0 → (vp_in (10 : Int32) 53700 ∧ (Q (r_all (10 : Int32).toNatClampNeg)))))
abbrev vX11_fault (cI cZ : ClassId) (h h_all h_has h_line h_act h_pile h_comes h_leaves h_tried h_met : Nat) (f_size : Int32) (f_next : Int32) (f_where : Int32) (f_token : Int32) (f_number : Int32) (f_sign : Int32) (f_word : Int32) (f_wrong : Int32) (f_open : Int32) (f_lines : Int32) (f_acts : Int32) (r_all : Nat → Int32) : va_W := [(h, .inr (10, [.ref h_all, .ref h_has, .int f_size, .int f_next, .int f_where, .int f_token, .int f_number, .int f_sign, .int f_word, .int f_wrong, .int f_open, .int f_lines, .int f_acts, .ref h_line, .ref h_act, .ref h_pile, .ref h_comes, .ref h_leaves, .ref h_tried, .ref h_met])), (h_all, .inl (cI, 53700, .inl r_all))]
abbrev rmX11_fault : Room := { frames := 0, cells := 0, slots := 0, locals := 0 }
abbrev qX11_fault (dC : Nat → ClassId) (dI : Nat → Nat → Nat) (cI cZ cO cW : ClassId) (h h_all h_has h_line h_act h_pile h_comes h_leaves h_tried h_met : Nat) (f_size : Int32) (f_next : Int32) (f_where : Int32) (f_token : Int32) (f_number : Int32) (f_sign : Int32) (f_word : Int32) (f_wrong : Int32) (f_open : Int32) (f_lines : Int32) (f_acts : Int32) (r_all : Nat → Int32) (Q : Int32 → Prop) (A : Nat → Prop) : Array Value → State → Outcome → State → Prop := va_Qi (fun (r : Int32) (u : Unit) => Q r) (fun (u : Unit) (t : State) => va_P (dC, dI) vwCl (vX11_fault cI cZ h h_all h_has h_line h_act h_pile h_comes h_leaves h_tried h_met f_size f_next f_where f_token f_number f_sign f_word f_wrong f_open f_lines f_acts r_all) t.heap ∧ va_K (dC, dI) vwCl (tysA cI cZ cO cW) t ∧ va_D A (vX11_fault cI cZ h h_all h_has h_line h_act h_pile h_comes h_leaves h_tried h_met f_size f_next f_where f_token f_number f_sign f_word f_wrong f_open f_lines f_acts r_all)) A
def zsX11_fault : List Cond := Cond.code yX11_fault cX11_fault 2 (some .int) :: GW
set_option maxHeartbeats 4000000 in
set_option maxRecDepth 100000 in
theorem tX11_fault_e {p : Program} {l : Launch} {e : Env} {s : State} {m : MethodId} {args : Array Value} {below : List Frame} {meth : Method} {c : Code} {dC : Nat → ClassId} {dI : Nat → Nat → Nat} {cI cZ cO cW : ClassId} {A : Nat → Prop} {h h_all h_has h_line h_act h_pile h_comes h_leaves h_tried h_met : Nat} {f_size f_next f_where f_token f_number f_sign f_word f_wrong f_open f_lines f_acts : Int32} {Q : Int32 → Prop} (hC : Cx p s m args meth c cX11_fault (some .int) 2 GW RX11) (hK : va_K (dC, dI) vwCl (tysA cI cZ cO cW) s) (hA : ∀ q : Nat, s.heap.size ≤ q → A q) :
    ∀ (x1 : Int32) (r_all : Nat → Int32) (H : Heap) (locs : List Loc) (ls : Array Slot), wX11_fault Q x1 r_all → va_P (dC, dI) vwCl (vX11_fault cI cZ h h_all h_has h_line h_act h_pile h_comes h_leaves h_tried h_met f_size f_next f_where f_token f_number f_sign f_word f_wrong f_open f_lines f_acts r_all) H → va_D A (vX11_fault cI cZ h h_all h_has h_line h_act h_pile h_comes h_leaves h_tried h_met f_size f_next f_where f_token f_number f_sign f_word f_wrong f_open f_lines f_acts r_all) → va_S A s.heap H locs → lv_has ls 2 [(0, .ref h), (1, .int x1)] → W p l e rmX11_fault s m args below meth c H locs 0 0 (MQ below (qX11_fault dC dI cI cZ cO cW h h_all h_has h_line h_act h_pile h_comes h_leaves h_tried h_met f_size f_next f_where f_token f_number f_sign f_word f_wrong f_open f_lines f_acts r_all Q A) args s 0 0 A) (F0 m 0 ls []) := by
  obtain ⟨hx, hb, hr, hml, hown, hts, hlocks⟩ := id hC
  intro x1 r_all H locs ls hw hP hD hS hl
  refine lv_iload_n hx hb dX11_fault_0 rfl (lv_at hl 1 rfl) ?_
  refine lv_if_ne (tgt := 14) hx hb dX11_fault_1 (by decide) (fun c_1 => ?_) (fun c_1 => ?_)
  · have hw := hw.1 c_1
    refine lv_iload_n hx hb dX11_fault_14 rfl (lv_at hl 1 rfl) ?_
    refine lv_iconst (v := (1 : Int32)) hx hb dX11_fault_15 (by decide) ?_
    refine lv_icmp_ne (tgt := 29) hx hb dX11_fault_16 (by decide) (fun c_2 => ?_) (fun c_2 => ?_)
    · have hw := hw.1 c_2
      refine lv_iconst (v := (-1 : Int32)) hx hb dX11_fault_29 (by decide) ?_
      have hP9 := hP.sub (ws' := (vX11_fault cI cZ h h_all h_has h_line h_act h_pile h_comes h_leaves h_tried h_met f_size f_next f_where f_token f_number f_sign f_word f_wrong f_open f_lines f_acts r_all)) [0, 1] rfl
      have hD9 := hD.sub (ws' := (vX11_fault cI cZ h h_all h_has h_line h_act h_pile h_comes h_leaves h_tried h_met f_size f_next f_where f_token f_number f_sign f_word f_wrong f_open f_lines f_acts r_all)) [0, 1] (by decide) rfl
      exact W.iret (v := (-1 : Int32)) hx hb hr (fun t ht hW => ⟨⟨(-1 : Int32), (), rfl, hw, by rw [ht]; exact hP9, va_K.moved hW.alike hK, hD9⟩, hS.F ht⟩) hS.2.2 dX11_fault_30
    · have hw := hw.2 c_2
      refine lv_aload_n hx hb dX11_fault_19 rfl (lv_at hl 0 rfl) ?_
      refine va_get (D := (dC, dI)) (ci := 10) (v := .ref h_all) (C := RX11) (T := TX11) (N := 20) hx hb hts gu_X11 hown hK hP 0 rfl rfl 0 (by decide) (hts _ gw_607) (fun _ h9 => h9) rfl dX11_fault_20 ?_
      refine lv_bipush (v := (11 : Int32)) hx hb dX11_fault_23 (by decide) ?_
      obtain ⟨h_3, hw⟩ := hw
      refine va_iald hx hb hK hP 1 0 rfl rfl h_3 dX11_fault_25 ?_
      refine lv_goto (tgt := 30) hx hb dX11_fault_26 (by decide) ?_
      have hP9 := hP.sub (ws' := (vX11_fault cI cZ h h_all h_has h_line h_act h_pile h_comes h_leaves h_tried h_met f_size f_next f_where f_token f_number f_sign f_word f_wrong f_open f_lines f_acts r_all)) [0, 1] rfl
      have hD9 := hD.sub (ws' := (vX11_fault cI cZ h h_all h_has h_line h_act h_pile h_comes h_leaves h_tried h_met f_size f_next f_where f_token f_number f_sign f_word f_wrong f_open f_lines f_acts r_all)) [0, 1] (by decide) rfl
      exact W.iret (v := (r_all (11 : Int32).toNatClampNeg)) hx hb hr (fun t ht hW => ⟨⟨(r_all (11 : Int32).toNatClampNeg), (), rfl, hw, by rw [ht]; exact hP9, va_K.moved hW.alike hK, hD9⟩, hS.F ht⟩) hS.2.2 dX11_fault_30
  · have hw := hw.2 c_1
    refine lv_aload_n hx hb dX11_fault_4 rfl (lv_at hl 0 rfl) ?_
    refine va_get (D := (dC, dI)) (ci := 10) (v := .ref h_all) (C := RX11) (T := TX11) (N := 20) hx hb hts gu_X11 hown hK hP 0 rfl rfl 0 (by decide) (hts _ gw_607) (fun _ h9 => h9) rfl dX11_fault_5 ?_
    refine lv_bipush (v := (10 : Int32)) hx hb dX11_fault_8 (by decide) ?_
    obtain ⟨h_4, hw⟩ := hw
    refine va_iald hx hb hK hP 1 0 rfl rfl h_4 dX11_fault_10 ?_
    refine lv_goto (tgt := 30) hx hb dX11_fault_11 (by decide) ?_
    have hP9 := hP.sub (ws' := (vX11_fault cI cZ h h_all h_has h_line h_act h_pile h_comes h_leaves h_tried h_met f_size f_next f_where f_token f_number f_sign f_word f_wrong f_open f_lines f_acts r_all)) [0, 1] rfl
    have hD9 := hD.sub (ws' := (vX11_fault cI cZ h h_all h_has h_line h_act h_pile h_comes h_leaves h_tried h_met f_size f_next f_where f_token f_number f_sign f_word f_wrong f_open f_lines f_acts r_all)) [0, 1] (by decide) rfl
    exact W.iret (v := (r_all (10 : Int32).toNatClampNeg)) hx hb hr (fun t ht hW => ⟨⟨(r_all (10 : Int32).toNatClampNeg), (), rfl, hw, by rw [ht]; exact hP9, va_K.moved hW.alike hK, hD9⟩, hS.F ht⟩) hS.2.2 dX11_fault_30
set_option maxHeartbeats 4000000 in
set_option maxRecDepth 100000 in
theorem kX11_fault (l : Launch) (dC : Nat → ClassId) (dI : Nat → Nat → Nat) (cI cZ cO cW : ClassId) (h h_all h_has h_line h_act h_pile h_comes h_leaves h_tried h_met : Nat)  (sz : Nat) (f_size : Int32) (f_next : Int32) (f_where : Int32) (f_token : Int32) (f_number : Int32) (f_sign : Int32) (f_word : Int32) (f_wrong : Int32) (f_open : Int32) (f_lines : Int32) (f_acts : Int32) (r_all : Nat → Int32) (x1 : Int32) (Q : Int32 → Prop) (hw : wX11_fault Q x1 r_all) : Met l yX11_fault zsX11_fault rmX11_fault (va_Pc [.ref h, .int x1] (fun U => U.heap.size = sz ∧ va_P (dC, dI) vwCl (vX11_fault cI cZ h h_all h_has h_line h_act h_pile h_comes h_leaves h_tried h_met f_size f_next f_where f_token f_number f_sign f_word f_wrong f_open f_lines f_acts r_all) U.heap ∧ va_K (dC, dI) vwCl (tysA cI cZ cO cW) U ∧ va_D (fun _ => True) (vX11_fault cI cZ h h_all h_has h_line h_act h_pile h_comes h_leaves h_tried h_met f_size f_next f_where f_token f_number f_sign f_word f_wrong f_open f_lines f_acts r_all))) (qX11_fault dC dI cI cZ cO cW h h_all h_has h_line h_act h_pile h_comes h_leaves h_tried h_met f_size f_next f_where f_token f_number f_sign f_word f_wrong f_open f_lines f_acts r_all Q (va_A (vX11_fault cI cZ h h_all h_has h_line h_act h_pile h_comes h_leaves h_tried h_met f_size f_next f_where f_token f_number f_sign f_word f_wrong f_open f_lines f_acts r_all) sz)) 0 0 (va_A (vX11_fault cI cZ h h_all h_has h_line h_act h_pile h_comes h_leaves h_tried h_met f_size f_next f_where f_token f_number f_sign f_word f_wrong f_open f_lines f_acts r_all) sz) := by
  refine Met.ofW (cc := cX11_fault) (maxL := 2) (ret := (some .int)) (by decide) rfl ?_
  intro p e s m args below meth c s₁ B hml hv
  obtain ⟨rfl, hsz, hP, hK, hD0⟩ := hv
  subst hsz
  have hC : Cx p s m ([.ref h, .int x1] : List Value).toArray meth c cX11_fault (some .int) 2 GW RX11 := ⟨B.exec, B.bytes, B.returns, hml, findClass_of_methodNamed B.named, fun w h => atoms_spec (ws := zsX11_fault) B.pre w (List.mem_cons_of_mem _ h), B.notSynchronized⟩
  have hD := hD0.self (sz := s.heap.size)
  generalize hAe : va_A (vX11_fault cI cZ h h_all h_has h_line h_act h_pile h_comes h_leaves h_tried h_met f_size f_next f_where f_token f_number f_sign f_word f_wrong f_open f_lines f_acts r_all) s.heap.size = A at hD ⊢
  have hA : ∀ q : Nat, s.heap.size ≤ q → A q := fun q h => by rw [← hAe]; exact Or.inr h
  have hl := lv_entry ([.ref h, .int x1]) (n := 2) (Nat.le_of_ble_eq_true rfl)
  rw [lg_entry_eq]
  generalize (lg_sl ([.ref h, .int x1]) ++ List.replicate (2 - (lg_sl ([.ref h, .int x1])).length) Slot.unset).toArray = ls at hl ⊢
  exact tX11_fault_e hC hK hA x1 r_all _ _ ls hw hP hD va_S.rf hl

/-! X11_call -/
def wX11_call (Q : Int32 → (Nat → Int32) → Prop) (x1 : Int32) (x2 : Int32) (r_all : Nat → Int32) : Prop :=
  (wX11_isShip (fun r_1 => ((r_1 = 0 → (Q (0 : Int32) r_all)) ∧ (¬ r_1 = 0 → (wX11_isIn (fun r_3 => ((¬ r_3 = 0 → (wX11_ships (fun r_all_5 => (Q (1 : Int32) r_all_5)) x1 (4 : Int32) x2 r_all)) ∧ (r_3 = 0 → (Q (0 : Int32) r_all)))) x2 (0 : Int32) (9999 : Int32))))) x1 r_all)
abbrev vX11_call (cI cZ : ClassId) (h h_all h_has h_line h_act h_pile h_comes h_leaves h_tried h_met : Nat) (f_size : Int32) (f_next : Int32) (f_where : Int32) (f_token : Int32) (f_number : Int32) (f_sign : Int32) (f_word : Int32) (f_wrong : Int32) (f_open : Int32) (f_lines : Int32) (f_acts : Int32) (r_all : Nat → Int32) : va_W := [(h, .inr (10, [.ref h_all, .ref h_has, .int f_size, .int f_next, .int f_where, .int f_token, .int f_number, .int f_sign, .int f_word, .int f_wrong, .int f_open, .int f_lines, .int f_acts, .ref h_line, .ref h_act, .ref h_pile, .ref h_comes, .ref h_leaves, .ref h_tried, .ref h_met])), (h_all, .inl (cI, 53700, .inl r_all))]
abbrev rmX11_call : Room := { frames := 2, cells := 0, slots := 0, locals := 43 }
abbrev qX11_call (dC : Nat → ClassId) (dI : Nat → Nat → Nat) (cI cZ cO cW : ClassId) (h h_all h_has h_line h_act h_pile h_comes h_leaves h_tried h_met : Nat) (f_size : Int32) (f_next : Int32) (f_where : Int32) (f_token : Int32) (f_number : Int32) (f_sign : Int32) (f_word : Int32) (f_wrong : Int32) (f_open : Int32) (f_lines : Int32) (f_acts : Int32) (Q : Int32 → (Nat → Int32) → Prop) (A : Nat → Prop) : Array Value → State → Outcome → State → Prop := va_Qi (fun (r : Int32) (u : (Nat → Int32)) => Q r u) (fun (u : (Nat → Int32)) (t : State) => va_P (dC, dI) vwCl (vX11_call cI cZ h h_all h_has h_line h_act h_pile h_comes h_leaves h_tried h_met f_size f_next f_where f_token f_number f_sign f_word f_wrong f_open f_lines f_acts u) t.heap ∧ va_K (dC, dI) vwCl (tysA cI cZ cO cW) t ∧ va_D A (vX11_call cI cZ h h_all h_has h_line h_act h_pile h_comes h_leaves h_tried h_met f_size f_next f_where f_token f_number f_sign f_word f_wrong f_open f_lines f_acts u)) A
def zsX11_call : List Cond := Cond.code yX11_call cX11_call 3 (some .boolean) :: GW
set_option maxHeartbeats 4000000 in
set_option maxRecDepth 100000 in
theorem tX11_call_e {p : Program} {l : Launch} {e : Env} {s : State} {m : MethodId} {args : Array Value} {below : List Frame} {meth : Method} {c : Code} {dC : Nat → ClassId} {dI : Nat → Nat → Nat} {cI cZ cO cW : ClassId} {A : Nat → Prop} {h h_all h_has h_line h_act h_pile h_comes h_leaves h_tried h_met : Nat} {f_size f_next f_where f_token f_number f_sign f_word f_wrong f_open f_lines f_acts : Int32} {Q : Int32 → (Nat → Int32) → Prop} (hC : Cx p s m args meth c cX11_call (some .boolean) 3 GW RX11) (hK : va_K (dC, dI) vwCl (tysA cI cZ cO cW) s) (hA : ∀ q : Nat, s.heap.size ≤ q → A q) :
    ∀ (x1 : Int32) (x2 : Int32) (r_all : Nat → Int32) (H : Heap) (locs : List Loc) (ls : Array Slot), wX11_call Q x1 x2 r_all → va_P (dC, dI) vwCl (vX11_call cI cZ h h_all h_has h_line h_act h_pile h_comes h_leaves h_tried h_met f_size f_next f_where f_token f_number f_sign f_word f_wrong f_open f_lines f_acts r_all) H → va_D A (vX11_call cI cZ h h_all h_has h_line h_act h_pile h_comes h_leaves h_tried h_met f_size f_next f_where f_token f_number f_sign f_word f_wrong f_open f_lines f_acts r_all) → va_S A s.heap H locs → lv_has ls 3 [(0, .ref h), (1, .int x1), (2, .int x2)] → W p l e rmX11_call s m args below meth c H locs 0 0 (MQ below (qX11_call dC dI cI cZ cO cW h h_all h_has h_line h_act h_pile h_comes h_leaves h_tried h_met f_size f_next f_where f_token f_number f_sign f_word f_wrong f_open f_lines f_acts Q A) args s 0 0 A) (F0 m 0 ls []) := by
  obtain ⟨hx, hb, hr, hml, hown, hts, hlocks⟩ := id hC
  intro x1 x2 r_all H locs ls hw hP hD hS hl
  refine lv_aload_n hx hb dX11_call_0 rfl (lv_at hl 0 rfl) ?_
  refine lv_iload_n hx hb dX11_call_1 rfl (lv_at hl 1 rfl) ?_
  have hPc := hP.sub (ws' := [(h, .inr (10, [.ref h_all, .ref h_has, .int f_size, .int f_next, .int f_where, .int f_token, .int f_number, .int f_sign, .int f_word, .int f_wrong, .int f_open, .int f_lines, .int f_acts, .ref h_line, .ref h_act, .ref h_pile, .ref h_comes, .ref h_leaves, .ref h_tried, .ref h_met])), (h_all, .inl (cI, 53700, .inl r_all))]) [0, 1] rfl
  have hDc := hD.sub (ws' := [(h, .inr (10, [.ref h_all, .ref h_has, .int f_size, .int f_next, .int f_where, .int f_token, .int f_number, .int f_sign, .int f_word, .int f_wrong, .int f_open, .int f_lines, .int f_acts, .ref h_line, .ref h_act, .ref h_pile, .ref h_comes, .ref h_leaves, .ref h_tried, .ref h_met])), (h_all, .inl (cI, 53700, .inl r_all))]) [0, 1] (by decide) rfl
  have hFc := va_free (wc := [(h, .inr (10, [.ref h_all, .ref h_has, .int f_size, .int f_next, .int f_where, .int f_token, .int f_number, .int f_sign, .int f_word, .int f_wrong, .int f_open, .int f_lines, .int f_acts, .ref h_line, .ref h_act, .ref h_pile, .ref h_comes, .ref h_leaves, .ref h_tried, .ref h_met])), (h_all, .inl (cI, 53700, .inl r_all))]) hD hS hA [0, 1] rfl
  refine va_calli (va_runV (As := [.int x1]) (rest := []) ⟨hx, hb, hml, hown, hts⟩ (kX11_isShip l dC dI cI cZ cO cW h h_all h_has h_line h_act h_pile h_comes h_leaves h_tried h_met H.size f_size f_next f_where f_token f_number f_sign f_word f_wrong f_open f_lines f_acts r_all x1 _ hw) (cwV 1 hts (gV gw_753 gw_754 gw_755 gw_622 (gM gw_659)) rfl rfl rfl (by decide +kernel) ⟨Nat.le_of_ble_eq_true rfl, Nat.le_of_ble_eq_true rfl⟩) (pv_of hPc hK hDc (va_recv hK hPc (ci := 10) (q0 := 0) rfl rfl)) rfl rfl hl.1 rfl (lv_room (Nat.le_of_ble_eq_true rfl)) dX11_call_2 ⟨Nat.zero_le _, Nat.zero_le _⟩) hS (fun q _ h => hFc q h) hFc (fun r_1 u t H locs ht hvm hw hB hz1 hk1 hS => ?_)
  obtain ⟨hP, hD⟩ := af_join (wr := []) (w1 := [(h, .inr (10, [.ref h_all, .ref h_has, .int f_size, .int f_next, .int f_where, .int f_token, .int f_number, .int f_sign, .int f_word, .int f_wrong, .int f_open, .int f_lines, .int f_acts, .ref h_line, .ref h_act, .ref h_pile, .ref h_comes, .ref h_leaves, .ref h_tried, .ref h_met])), (h_all, .inl (cI, 53700, .inl r_all))]) hB ht hP hD [0, 1] [] rfl rfl (by decide) (by decide) hk1 hFc
  have hP : va_P (dC, dI) vwCl [(h, .inr (10, [.ref h_all, .ref h_has, .int f_size, .int f_next, .int f_where, .int f_token, .int f_number, .int f_sign, .int f_word, .int f_wrong, .int f_open, .int f_lines, .int f_acts, .ref h_line, .ref h_act, .ref h_pile, .ref h_comes, .ref h_leaves, .ref h_tried, .ref h_met])), (h_all, .inl (cI, 53700, .inl r_all))] _ := hP
  have hD : va_D A [(h, .inr (10, [.ref h_all, .ref h_has, .int f_size, .int f_next, .int f_where, .int f_token, .int f_number, .int f_sign, .int f_word, .int f_wrong, .int f_open, .int f_lines, .int f_acts, .ref h_line, .ref h_act, .ref h_pile, .ref h_comes, .ref h_leaves, .ref h_tried, .ref h_met])), (h_all, .inl (cI, 53700, .inl r_all))] := hD
  refine lv_if_eq (tgt := 19) hx hb dX11_call_5 (by decide) (fun c_2 => ?_) (fun c_2 => ?_)
  · have hw := hw.1 c_2
    refine lv_iconst (v := (0 : Int32)) hx hb dX11_call_19 (by decide) ?_
    have hP9 := hP.sub (ws' := (vX11_call cI cZ h h_all h_has h_line h_act h_pile h_comes h_leaves h_tried h_met f_size f_next f_where f_token f_number f_sign f_word f_wrong f_open f_lines f_acts r_all)) [0, 1] rfl
    have hD9 := hD.sub (ws' := (vX11_call cI cZ h h_all h_has h_line h_act h_pile h_comes h_leaves h_tried h_met f_size f_next f_where f_token f_number f_sign f_word f_wrong f_open f_lines f_acts r_all)) [0, 1] (by decide) rfl
    exact W.zret (v := (0 : Int32)) (ty := .boolean) hx hb hr rfl (fun t ht hW => ⟨⟨(0 : Int32), r_all, rfl, hw, by rw [ht]; exact hP9, va_K.moved hW.alike hK, hD9⟩, hS.F ht⟩) hS.2.2 dX11_call_20
  · have hw := hw.2 c_2
    refine lv_iload_n hx hb dX11_call_8 rfl (lv_at hl 2 rfl) ?_
    refine lv_iconst (v := (0 : Int32)) hx hb dX11_call_9 (by decide) ?_
    refine lv_sipush (v := (9999 : Int32)) hx hb dX11_call_10 (by decide) ?_
    have hPc := hP.sub (ws' := []) [] rfl
    have hDc := hD.sub (ws' := []) [] (by decide) rfl
    have hFc := va_free (wc := []) hD hS hA [] rfl
    refine va_calli (va_runS (As := [.int x2, .int (0 : Int32), .int (9999 : Int32)]) (rest := []) ⟨hx, hb, hml, hown, hts⟩ (kX11_isIn l dC dI cI cZ cO cW H.size x2 (0 : Int32) (9999 : Int32) _ hw) (va_cwS 3 hts (gS gw_625 gw_626 gw_622 (gM gw_623)) rfl rfl rfl (by decide +kernel) ⟨Nat.le_of_ble_eq_true rfl, Nat.le_of_ble_eq_true rfl⟩) (ps_of hPc hK hDc) rfl rfl hl.1 rfl (lv_room (Nat.le_of_ble_eq_true rfl)) dX11_call_13 ⟨Nat.zero_le _, Nat.zero_le _⟩) hS (fun q _ h => hFc q h) hFc (fun r_3 u t H locs ht hvm hw hB hz1 hk1 hS => ?_)
    obtain ⟨hP, hD⟩ := af_join (wr := [(h, .inr (10, [.ref h_all, .ref h_has, .int f_size, .int f_next, .int f_where, .int f_token, .int f_number, .int f_sign, .int f_word, .int f_wrong, .int f_open, .int f_lines, .int f_acts, .ref h_line, .ref h_act, .ref h_pile, .ref h_comes, .ref h_leaves, .ref h_tried, .ref h_met])), (h_all, .inl (cI, 53700, .inl r_all))]) (w1 := []) hB ht hP hD [] [0, 1] rfl rfl (by decide) (by decide) hk1 hFc
    have hP : va_P (dC, dI) vwCl [(h, .inr (10, [.ref h_all, .ref h_has, .int f_size, .int f_next, .int f_where, .int f_token, .int f_number, .int f_sign, .int f_word, .int f_wrong, .int f_open, .int f_lines, .int f_acts, .ref h_line, .ref h_act, .ref h_pile, .ref h_comes, .ref h_leaves, .ref h_tried, .ref h_met])), (h_all, .inl (cI, 53700, .inl r_all))] _ := hP
    have hD : va_D A [(h, .inr (10, [.ref h_all, .ref h_has, .int f_size, .int f_next, .int f_where, .int f_token, .int f_number, .int f_sign, .int f_word, .int f_wrong, .int f_open, .int f_lines, .int f_acts, .ref h_line, .ref h_act, .ref h_pile, .ref h_comes, .ref h_leaves, .ref h_tried, .ref h_met])), (h_all, .inl (cI, 53700, .inl r_all))] := hD
    refine lv_if_ne (tgt := 21) hx hb dX11_call_16 (by decide) (fun c_4 => ?_) (fun c_4 => ?_)
    · have hw := hw.1 c_4
      refine lv_aload_n hx hb dX11_call_21 rfl (lv_at hl 0 rfl) ?_
      refine lv_iload_n hx hb dX11_call_22 rfl (lv_at hl 1 rfl) ?_
      refine lv_iconst (v := (4 : Int32)) hx hb dX11_call_23 (by decide) ?_
      refine lv_iload_n hx hb dX11_call_24 rfl (lv_at hl 2 rfl) ?_
      have hPc := hP.sub (ws' := [(h, .inr (10, [.ref h_all, .ref h_has, .int f_size, .int f_next, .int f_where, .int f_token, .int f_number, .int f_sign, .int f_word, .int f_wrong, .int f_open, .int f_lines, .int f_acts, .ref h_line, .ref h_act, .ref h_pile, .ref h_comes, .ref h_leaves, .ref h_tried, .ref h_met])), (h_all, .inl (cI, 53700, .inl r_all))]) [0, 1] rfl
      have hDc := hD.sub (ws' := [(h, .inr (10, [.ref h_all, .ref h_has, .int f_size, .int f_next, .int f_where, .int f_token, .int f_number, .int f_sign, .int f_word, .int f_wrong, .int f_open, .int f_lines, .int f_acts, .ref h_line, .ref h_act, .ref h_pile, .ref h_comes, .ref h_leaves, .ref h_tried, .ref h_met])), (h_all, .inl (cI, 53700, .inl r_all))]) [0, 1] (by decide) rfl
      have hFc := va_free (wc := [(h, .inr (10, [.ref h_all, .ref h_has, .int f_size, .int f_next, .int f_where, .int f_token, .int f_number, .int f_sign, .int f_word, .int f_wrong, .int f_open, .int f_lines, .int f_acts, .ref h_line, .ref h_act, .ref h_pile, .ref h_comes, .ref h_leaves, .ref h_tried, .ref h_met])), (h_all, .inl (cI, 53700, .inl r_all))]) hD hS hA [0, 1] rfl
      refine va_callv (va_runV (As := [.int x1, .int (4 : Int32), .int x2]) (rest := []) ⟨hx, hb, hml, hown, hts⟩ (kX11_ships l dC dI cI cZ cO cW h h_all h_has h_line h_act h_pile h_comes h_leaves h_tried h_met H.size f_size f_next f_where f_token f_number f_sign f_word f_wrong f_open f_lines f_acts r_all x1 (4 : Int32) x2 _ hw) (cwV 3 hts (gV gw_655 gw_656 gw_657 gw_622 (gM gw_638)) rfl rfl rfl (by decide +kernel) ⟨Nat.le_of_ble_eq_true rfl, Nat.le_of_ble_eq_true rfl⟩) (pv_of hPc hK hDc (va_recv hK hPc (ci := 10) (q0 := 0) rfl rfl)) rfl rfl hl.1 rfl (lv_room (Nat.le_of_ble_eq_true rfl)) dX11_call_25 ⟨Nat.zero_le _, Nat.zero_le _⟩) hS (fun q _ h => hFc q h) hFc (fun u t H locs ht hvm hw hB hz1 hk1 hS => ?_)
      obtain ⟨r_all_5, rfl⟩ : ∃ z, z = u := ⟨_, rfl⟩
      obtain ⟨hP, hD⟩ := af_join (wr := []) (w1 := [(h, .inr (10, [.ref h_all, .ref h_has, .int f_size, .int f_next, .int f_where, .int f_token, .int f_number, .int f_sign, .int f_word, .int f_wrong, .int f_open, .int f_lines, .int f_acts, .ref h_line, .ref h_act, .ref h_pile, .ref h_comes, .ref h_leaves, .ref h_tried, .ref h_met])), (h_all, .inl (cI, 53700, .inl r_all_5))]) hB ht hP hD [0, 1] [] rfl rfl (by decide) (by decide) hk1 hFc
      have hP : va_P (dC, dI) vwCl [(h, .inr (10, [.ref h_all, .ref h_has, .int f_size, .int f_next, .int f_where, .int f_token, .int f_number, .int f_sign, .int f_word, .int f_wrong, .int f_open, .int f_lines, .int f_acts, .ref h_line, .ref h_act, .ref h_pile, .ref h_comes, .ref h_leaves, .ref h_tried, .ref h_met])), (h_all, .inl (cI, 53700, .inl r_all_5))] _ := hP
      have hD : va_D A [(h, .inr (10, [.ref h_all, .ref h_has, .int f_size, .int f_next, .int f_where, .int f_token, .int f_number, .int f_sign, .int f_word, .int f_wrong, .int f_open, .int f_lines, .int f_acts, .ref h_line, .ref h_act, .ref h_pile, .ref h_comes, .ref h_leaves, .ref h_tried, .ref h_met])), (h_all, .inl (cI, 53700, .inl r_all_5))] := hD
      refine lv_iconst (v := (1 : Int32)) hx hb dX11_call_28 (by decide) ?_
      have hP9 := hP.sub (ws' := (vX11_call cI cZ h h_all h_has h_line h_act h_pile h_comes h_leaves h_tried h_met f_size f_next f_where f_token f_number f_sign f_word f_wrong f_open f_lines f_acts r_all_5)) [0, 1] rfl
      have hD9 := hD.sub (ws' := (vX11_call cI cZ h h_all h_has h_line h_act h_pile h_comes h_leaves h_tried h_met f_size f_next f_where f_token f_number f_sign f_word f_wrong f_open f_lines f_acts r_all_5)) [0, 1] (by decide) rfl
      exact W.zret (v := (1 : Int32)) (ty := .boolean) hx hb hr rfl (fun t ht hW => ⟨⟨(1 : Int32), r_all_5, rfl, hw, by rw [ht]; exact hP9, va_K.moved hW.alike hK, hD9⟩, hS.F ht⟩) hS.2.2 dX11_call_29
    · have hw := hw.2 c_4
      refine lv_iconst (v := (0 : Int32)) hx hb dX11_call_19 (by decide) ?_
      have hP9 := hP.sub (ws' := (vX11_call cI cZ h h_all h_has h_line h_act h_pile h_comes h_leaves h_tried h_met f_size f_next f_where f_token f_number f_sign f_word f_wrong f_open f_lines f_acts r_all)) [0, 1] rfl
      have hD9 := hD.sub (ws' := (vX11_call cI cZ h h_all h_has h_line h_act h_pile h_comes h_leaves h_tried h_met f_size f_next f_where f_token f_number f_sign f_word f_wrong f_open f_lines f_acts r_all)) [0, 1] (by decide) rfl
      exact W.zret (v := (0 : Int32)) (ty := .boolean) hx hb hr rfl (fun t ht hW => ⟨⟨(0 : Int32), r_all, rfl, hw, by rw [ht]; exact hP9, va_K.moved hW.alike hK, hD9⟩, hS.F ht⟩) hS.2.2 dX11_call_20
set_option maxHeartbeats 4000000 in
set_option maxRecDepth 100000 in
theorem kX11_call (l : Launch) (dC : Nat → ClassId) (dI : Nat → Nat → Nat) (cI cZ cO cW : ClassId) (h h_all h_has h_line h_act h_pile h_comes h_leaves h_tried h_met : Nat)  (sz : Nat) (f_size : Int32) (f_next : Int32) (f_where : Int32) (f_token : Int32) (f_number : Int32) (f_sign : Int32) (f_word : Int32) (f_wrong : Int32) (f_open : Int32) (f_lines : Int32) (f_acts : Int32) (r_all : Nat → Int32) (x1 : Int32) (x2 : Int32) (Q : Int32 → (Nat → Int32) → Prop) (hw : wX11_call Q x1 x2 r_all) : Met l yX11_call zsX11_call rmX11_call (va_Pc [.ref h, .int x1, .int x2] (fun U => U.heap.size = sz ∧ va_P (dC, dI) vwCl (vX11_call cI cZ h h_all h_has h_line h_act h_pile h_comes h_leaves h_tried h_met f_size f_next f_where f_token f_number f_sign f_word f_wrong f_open f_lines f_acts r_all) U.heap ∧ va_K (dC, dI) vwCl (tysA cI cZ cO cW) U ∧ va_D (fun _ => True) (vX11_call cI cZ h h_all h_has h_line h_act h_pile h_comes h_leaves h_tried h_met f_size f_next f_where f_token f_number f_sign f_word f_wrong f_open f_lines f_acts r_all))) (qX11_call dC dI cI cZ cO cW h h_all h_has h_line h_act h_pile h_comes h_leaves h_tried h_met f_size f_next f_where f_token f_number f_sign f_word f_wrong f_open f_lines f_acts Q (va_A (vX11_call cI cZ h h_all h_has h_line h_act h_pile h_comes h_leaves h_tried h_met f_size f_next f_where f_token f_number f_sign f_word f_wrong f_open f_lines f_acts r_all) sz)) 0 0 (va_A (vX11_call cI cZ h h_all h_has h_line h_act h_pile h_comes h_leaves h_tried h_met f_size f_next f_where f_token f_number f_sign f_word f_wrong f_open f_lines f_acts r_all) sz) := by
  refine Met.ofW (cc := cX11_call) (maxL := 3) (ret := (some .boolean)) (by decide) rfl ?_
  intro p e s m args below meth c s₁ B hml hv
  obtain ⟨rfl, hsz, hP, hK, hD0⟩ := hv
  subst hsz
  have hC : Cx p s m ([.ref h, .int x1, .int x2] : List Value).toArray meth c cX11_call (some .boolean) 3 GW RX11 := ⟨B.exec, B.bytes, B.returns, hml, findClass_of_methodNamed B.named, fun w h => atoms_spec (ws := zsX11_call) B.pre w (List.mem_cons_of_mem _ h), B.notSynchronized⟩
  have hD := hD0.self (sz := s.heap.size)
  generalize hAe : va_A (vX11_call cI cZ h h_all h_has h_line h_act h_pile h_comes h_leaves h_tried h_met f_size f_next f_where f_token f_number f_sign f_word f_wrong f_open f_lines f_acts r_all) s.heap.size = A at hD ⊢
  have hA : ∀ q : Nat, s.heap.size ≤ q → A q := fun q h => by rw [← hAe]; exact Or.inr h
  have hl := lv_entry ([.ref h, .int x1, .int x2]) (n := 3) (Nat.le_of_ble_eq_true rfl)
  rw [lg_entry_eq]
  generalize (lg_sl ([.ref h, .int x1, .int x2]) ++ List.replicate (3 - (lg_sl ([.ref h, .int x1, .int x2])).length) Slot.unset).toArray = ls at hl ⊢
  exact tX11_call_e hC hK hA x1 x2 r_all _ _ ls hw hP hD va_S.rf hl

/-! X11_mayGo -/
def wX11_mayGo (Q : Int32 → Prop) (x1 : Int32) (r_all : Nat → Int32) : Prop :=
  (wX11_isIn (fun r_1 => ((r_1 = 0 → (Q (0 : Int32))) ∧ (¬ r_1 = 0 → (vp_in (3 : Int32) 53700 ∧ (((1000 : Int32) < ((r_all (3 : Int32).toNatClampNeg) + x1) → (Q (0 : Int32))) ∧ (¬ (1000 : Int32) < ((r_all (3 : Int32).toNatClampNeg) + x1) → (Q (1 : Int32)))))))) x1 (1 : Int32) (100 : Int32))
abbrev vX11_mayGo (cI cZ : ClassId) (h h_all h_has h_line h_act h_pile h_comes h_leaves h_tried h_met : Nat) (f_size : Int32) (f_next : Int32) (f_where : Int32) (f_token : Int32) (f_number : Int32) (f_sign : Int32) (f_word : Int32) (f_wrong : Int32) (f_open : Int32) (f_lines : Int32) (f_acts : Int32) (r_all : Nat → Int32) : va_W := [(h, .inr (10, [.ref h_all, .ref h_has, .int f_size, .int f_next, .int f_where, .int f_token, .int f_number, .int f_sign, .int f_word, .int f_wrong, .int f_open, .int f_lines, .int f_acts, .ref h_line, .ref h_act, .ref h_pile, .ref h_comes, .ref h_leaves, .ref h_tried, .ref h_met])), (h_all, .inl (cI, 53700, .inl r_all))]
abbrev rmX11_mayGo : Room := { frames := 1, cells := 0, slots := 0, locals := 22 }
abbrev qX11_mayGo (dC : Nat → ClassId) (dI : Nat → Nat → Nat) (cI cZ cO cW : ClassId) (h h_all h_has h_line h_act h_pile h_comes h_leaves h_tried h_met : Nat) (f_size : Int32) (f_next : Int32) (f_where : Int32) (f_token : Int32) (f_number : Int32) (f_sign : Int32) (f_word : Int32) (f_wrong : Int32) (f_open : Int32) (f_lines : Int32) (f_acts : Int32) (r_all : Nat → Int32) (Q : Int32 → Prop) (A : Nat → Prop) : Array Value → State → Outcome → State → Prop := va_Qi (fun (r : Int32) (u : Unit) => Q r) (fun (u : Unit) (t : State) => va_P (dC, dI) vwCl (vX11_mayGo cI cZ h h_all h_has h_line h_act h_pile h_comes h_leaves h_tried h_met f_size f_next f_where f_token f_number f_sign f_word f_wrong f_open f_lines f_acts r_all) t.heap ∧ va_K (dC, dI) vwCl (tysA cI cZ cO cW) t ∧ va_D A (vX11_mayGo cI cZ h h_all h_has h_line h_act h_pile h_comes h_leaves h_tried h_met f_size f_next f_where f_token f_number f_sign f_word f_wrong f_open f_lines f_acts r_all)) A
def zsX11_mayGo : List Cond := Cond.code yX11_mayGo cX11_mayGo 2 (some .boolean) :: GW
set_option maxHeartbeats 4000000 in
set_option maxRecDepth 100000 in
theorem tX11_mayGo_e {p : Program} {l : Launch} {e : Env} {s : State} {m : MethodId} {args : Array Value} {below : List Frame} {meth : Method} {c : Code} {dC : Nat → ClassId} {dI : Nat → Nat → Nat} {cI cZ cO cW : ClassId} {A : Nat → Prop} {h h_all h_has h_line h_act h_pile h_comes h_leaves h_tried h_met : Nat} {f_size f_next f_where f_token f_number f_sign f_word f_wrong f_open f_lines f_acts : Int32} {Q : Int32 → Prop} (hC : Cx p s m args meth c cX11_mayGo (some .boolean) 2 GW RX11) (hK : va_K (dC, dI) vwCl (tysA cI cZ cO cW) s) (hA : ∀ q : Nat, s.heap.size ≤ q → A q) :
    ∀ (x1 : Int32) (r_all : Nat → Int32) (H : Heap) (locs : List Loc) (ls : Array Slot), wX11_mayGo Q x1 r_all → va_P (dC, dI) vwCl (vX11_mayGo cI cZ h h_all h_has h_line h_act h_pile h_comes h_leaves h_tried h_met f_size f_next f_where f_token f_number f_sign f_word f_wrong f_open f_lines f_acts r_all) H → va_D A (vX11_mayGo cI cZ h h_all h_has h_line h_act h_pile h_comes h_leaves h_tried h_met f_size f_next f_where f_token f_number f_sign f_word f_wrong f_open f_lines f_acts r_all) → va_S A s.heap H locs → lv_has ls 2 [(0, .ref h), (1, .int x1)] → W p l e rmX11_mayGo s m args below meth c H locs 0 0 (MQ below (qX11_mayGo dC dI cI cZ cO cW h h_all h_has h_line h_act h_pile h_comes h_leaves h_tried h_met f_size f_next f_where f_token f_number f_sign f_word f_wrong f_open f_lines f_acts r_all Q A) args s 0 0 A) (F0 m 0 ls []) := by
  obtain ⟨hx, hb, hr, hml, hown, hts, hlocks⟩ := id hC
  intro x1 r_all H locs ls hw hP hD hS hl
  refine lv_iload_n hx hb dX11_mayGo_0 rfl (lv_at hl 1 rfl) ?_
  refine lv_iconst (v := (1 : Int32)) hx hb dX11_mayGo_1 (by decide) ?_
  refine lv_bipush (v := (100 : Int32)) hx hb dX11_mayGo_2 (by decide) ?_
  have hPc := hP.sub (ws' := []) [] rfl
  have hDc := hD.sub (ws' := []) [] (by decide) rfl
  have hFc := va_free (wc := []) hD hS hA [] rfl
  refine va_calli (va_runS (As := [.int x1, .int (1 : Int32), .int (100 : Int32)]) (rest := []) ⟨hx, hb, hml, hown, hts⟩ (kX11_isIn l dC dI cI cZ cO cW H.size x1 (1 : Int32) (100 : Int32) _ hw) (va_cwS 3 hts (gS gw_625 gw_626 gw_622 (gM gw_623)) rfl rfl rfl (by decide +kernel) ⟨Nat.le_of_ble_eq_true rfl, Nat.le_of_ble_eq_true rfl⟩) (ps_of hPc hK hDc) rfl rfl hl.1 rfl (lv_room (Nat.le_of_ble_eq_true rfl)) dX11_mayGo_4 ⟨Nat.zero_le _, Nat.zero_le _⟩) hS (fun q _ h => hFc q h) hFc (fun r_1 u t H locs ht hvm hw hB hz1 hk1 hS => ?_)
  obtain ⟨hP, hD⟩ := af_join (wr := [(h, .inr (10, [.ref h_all, .ref h_has, .int f_size, .int f_next, .int f_where, .int f_token, .int f_number, .int f_sign, .int f_word, .int f_wrong, .int f_open, .int f_lines, .int f_acts, .ref h_line, .ref h_act, .ref h_pile, .ref h_comes, .ref h_leaves, .ref h_tried, .ref h_met])), (h_all, .inl (cI, 53700, .inl r_all))]) (w1 := []) hB ht hP hD [] [0, 1] rfl rfl (by decide) (by decide) hk1 hFc
  have hP : va_P (dC, dI) vwCl [(h, .inr (10, [.ref h_all, .ref h_has, .int f_size, .int f_next, .int f_where, .int f_token, .int f_number, .int f_sign, .int f_word, .int f_wrong, .int f_open, .int f_lines, .int f_acts, .ref h_line, .ref h_act, .ref h_pile, .ref h_comes, .ref h_leaves, .ref h_tried, .ref h_met])), (h_all, .inl (cI, 53700, .inl r_all))] _ := hP
  have hD : va_D A [(h, .inr (10, [.ref h_all, .ref h_has, .int f_size, .int f_next, .int f_where, .int f_token, .int f_number, .int f_sign, .int f_word, .int f_wrong, .int f_open, .int f_lines, .int f_acts, .ref h_line, .ref h_act, .ref h_pile, .ref h_comes, .ref h_leaves, .ref h_tried, .ref h_met])), (h_all, .inl (cI, 53700, .inl r_all))] := hD
  refine lv_if_eq (tgt := 28) hx hb dX11_mayGo_7 (by decide) (fun c_2 => ?_) (fun c_2 => ?_)
  · have hw := hw.1 c_2
    refine lv_iconst (v := (0 : Int32)) hx hb dX11_mayGo_28 (by decide) ?_
    have hP9 := hP.sub (ws' := (vX11_mayGo cI cZ h h_all h_has h_line h_act h_pile h_comes h_leaves h_tried h_met f_size f_next f_where f_token f_number f_sign f_word f_wrong f_open f_lines f_acts r_all)) [0, 1] rfl
    have hD9 := hD.sub (ws' := (vX11_mayGo cI cZ h h_all h_has h_line h_act h_pile h_comes h_leaves h_tried h_met f_size f_next f_where f_token f_number f_sign f_word f_wrong f_open f_lines f_acts r_all)) [0, 1] (by decide) rfl
    exact W.zret (v := (0 : Int32)) (ty := .boolean) hx hb hr rfl (fun t ht hW => ⟨⟨(0 : Int32), (), rfl, hw, by rw [ht]; exact hP9, va_K.moved hW.alike hK, hD9⟩, hS.F ht⟩) hS.2.2 dX11_mayGo_29
  · have hw := hw.2 c_2
    refine lv_aload_n hx hb dX11_mayGo_10 rfl (lv_at hl 0 rfl) ?_
    refine va_get (D := (dC, dI)) (ci := 10) (v := .ref h_all) (C := RX11) (T := TX11) (N := 20) hx hb hts gu_X11 hown hK hP 0 rfl rfl 0 (by decide) (hts _ gw_607) (fun _ h9 => h9) rfl dX11_mayGo_11 ?_
    refine lv_iconst (v := (3 : Int32)) hx hb dX11_mayGo_14 (by decide) ?_
    obtain ⟨h_3, hw⟩ := hw
    refine va_iald hx hb hK hP 1 0 rfl rfl h_3 dX11_mayGo_15 ?_
    refine lv_iload_n hx hb dX11_mayGo_16 rfl (lv_at hl 1 rfl) ?_
    refine lv_iadd hx hb dX11_mayGo_17 ?_
    refine lv_sipush (v := (1000 : Int32)) hx hb dX11_mayGo_18 (by decide) ?_
    refine lv_icmp_gt (tgt := 28) hx hb dX11_mayGo_21 (by decide) (fun c_4 => ?_) (fun c_4 => ?_)
    · have hw := hw.1 c_4
      refine lv_iconst (v := (0 : Int32)) hx hb dX11_mayGo_28 (by decide) ?_
      have hP9 := hP.sub (ws' := (vX11_mayGo cI cZ h h_all h_has h_line h_act h_pile h_comes h_leaves h_tried h_met f_size f_next f_where f_token f_number f_sign f_word f_wrong f_open f_lines f_acts r_all)) [0, 1] rfl
      have hD9 := hD.sub (ws' := (vX11_mayGo cI cZ h h_all h_has h_line h_act h_pile h_comes h_leaves h_tried h_met f_size f_next f_where f_token f_number f_sign f_word f_wrong f_open f_lines f_acts r_all)) [0, 1] (by decide) rfl
      exact W.zret (v := (0 : Int32)) (ty := .boolean) hx hb hr rfl (fun t ht hW => ⟨⟨(0 : Int32), (), rfl, hw, by rw [ht]; exact hP9, va_K.moved hW.alike hK, hD9⟩, hS.F ht⟩) hS.2.2 dX11_mayGo_29
    · have hw := hw.2 c_4
      refine lv_iconst (v := (1 : Int32)) hx hb dX11_mayGo_24 (by decide) ?_
      refine lv_goto (tgt := 29) hx hb dX11_mayGo_25 (by decide) ?_
      have hP9 := hP.sub (ws' := (vX11_mayGo cI cZ h h_all h_has h_line h_act h_pile h_comes h_leaves h_tried h_met f_size f_next f_where f_token f_number f_sign f_word f_wrong f_open f_lines f_acts r_all)) [0, 1] rfl
      have hD9 := hD.sub (ws' := (vX11_mayGo cI cZ h h_all h_has h_line h_act h_pile h_comes h_leaves h_tried h_met f_size f_next f_where f_token f_number f_sign f_word f_wrong f_open f_lines f_acts r_all)) [0, 1] (by decide) rfl
      exact W.zret (v := (1 : Int32)) (ty := .boolean) hx hb hr rfl (fun t ht hW => ⟨⟨(1 : Int32), (), rfl, hw, by rw [ht]; exact hP9, va_K.moved hW.alike hK, hD9⟩, hS.F ht⟩) hS.2.2 dX11_mayGo_29
set_option maxHeartbeats 4000000 in
set_option maxRecDepth 100000 in
theorem kX11_mayGo (l : Launch) (dC : Nat → ClassId) (dI : Nat → Nat → Nat) (cI cZ cO cW : ClassId) (h h_all h_has h_line h_act h_pile h_comes h_leaves h_tried h_met : Nat)  (sz : Nat) (f_size : Int32) (f_next : Int32) (f_where : Int32) (f_token : Int32) (f_number : Int32) (f_sign : Int32) (f_word : Int32) (f_wrong : Int32) (f_open : Int32) (f_lines : Int32) (f_acts : Int32) (r_all : Nat → Int32) (x1 : Int32) (Q : Int32 → Prop) (hw : wX11_mayGo Q x1 r_all) : Met l yX11_mayGo zsX11_mayGo rmX11_mayGo (va_Pc [.ref h, .int x1] (fun U => U.heap.size = sz ∧ va_P (dC, dI) vwCl (vX11_mayGo cI cZ h h_all h_has h_line h_act h_pile h_comes h_leaves h_tried h_met f_size f_next f_where f_token f_number f_sign f_word f_wrong f_open f_lines f_acts r_all) U.heap ∧ va_K (dC, dI) vwCl (tysA cI cZ cO cW) U ∧ va_D (fun _ => True) (vX11_mayGo cI cZ h h_all h_has h_line h_act h_pile h_comes h_leaves h_tried h_met f_size f_next f_where f_token f_number f_sign f_word f_wrong f_open f_lines f_acts r_all))) (qX11_mayGo dC dI cI cZ cO cW h h_all h_has h_line h_act h_pile h_comes h_leaves h_tried h_met f_size f_next f_where f_token f_number f_sign f_word f_wrong f_open f_lines f_acts r_all Q (va_A (vX11_mayGo cI cZ h h_all h_has h_line h_act h_pile h_comes h_leaves h_tried h_met f_size f_next f_where f_token f_number f_sign f_word f_wrong f_open f_lines f_acts r_all) sz)) 0 0 (va_A (vX11_mayGo cI cZ h h_all h_has h_line h_act h_pile h_comes h_leaves h_tried h_met f_size f_next f_where f_token f_number f_sign f_word f_wrong f_open f_lines f_acts r_all) sz) := by
  refine Met.ofW (cc := cX11_mayGo) (maxL := 2) (ret := (some .boolean)) (by decide) rfl ?_
  intro p e s m args below meth c s₁ B hml hv
  obtain ⟨rfl, hsz, hP, hK, hD0⟩ := hv
  subst hsz
  have hC : Cx p s m ([.ref h, .int x1] : List Value).toArray meth c cX11_mayGo (some .boolean) 2 GW RX11 := ⟨B.exec, B.bytes, B.returns, hml, findClass_of_methodNamed B.named, fun w h => atoms_spec (ws := zsX11_mayGo) B.pre w (List.mem_cons_of_mem _ h), B.notSynchronized⟩
  have hD := hD0.self (sz := s.heap.size)
  generalize hAe : va_A (vX11_mayGo cI cZ h h_all h_has h_line h_act h_pile h_comes h_leaves h_tried h_met f_size f_next f_where f_token f_number f_sign f_word f_wrong f_open f_lines f_acts r_all) s.heap.size = A at hD ⊢
  have hA : ∀ q : Nat, s.heap.size ≤ q → A q := fun q h => by rw [← hAe]; exact Or.inr h
  have hl := lv_entry ([.ref h, .int x1]) (n := 2) (Nat.le_of_ble_eq_true rfl)
  rw [lg_entry_eq]
  generalize (lg_sl ([.ref h, .int x1]) ++ List.replicate (2 - (lg_sl ([.ref h, .int x1])).length) Slot.unset).toArray = ls at hl ⊢
  exact tX11_mayGo_e hC hK hA x1 r_all _ _ ls hw hP hD va_S.rf hl

/-! X11_iceOf -/
def wX11_iceOf_17 (Q : Int32 → Prop) (K_4 : Int32 → Int32 → Int32 → (Nat → Int32) → Prop)  : Nat → Int32 → Int32 → Int32 → Int32 → (Nat → Int32) → Prop
  | 0, _, _, _, _, _ => False
  | n + 1, x1, x2, x3, x4, r_all => (vp_in (1 : Int32) 53700 ∧ (((r_all (1 : Int32).toNatClampNeg) ≤ x4 → (K_4 x1 x2 (x3 + (1 : Int32)) r_all)) ∧ (¬ (r_all (1 : Int32).toNatClampNeg) ≤ x4 → (wX11_of (fun r_3 => (wX11_iceOf_17 Q K_4 n x1 (x2 + r_3) x3 (x4 + (1 : Int32)) r_all)) x3 x4 x1 r_all))))
def wX11_iceOf_4 (Q : Int32 → Prop)   : Nat → Int32 → Int32 → Int32 → (Nat → Int32) → Prop
  | 0, _, _, _, _ => False
  | n + 1, x1, x2, x3, r_all => (vp_in (0 : Int32) 53700 ∧ (((r_all (0 : Int32).toNatClampNeg) ≤ x3 → (Q x2)) ∧ (¬ (r_all (0 : Int32).toNatClampNeg) ≤ x3 → (∃ j_, wX11_iceOf_17 Q (wX11_iceOf_4 Q n) j_ x1 x2 x3 (0 : Int32) r_all))))
def wX11_iceOf (Q : Int32 → Prop) (x1 : Int32) (r_all : Nat → Int32) : Prop :=
  (∃ j_, wX11_iceOf_4 Q j_ x1 (0 : Int32) (0 : Int32) r_all)
abbrev vX11_iceOf (cI cZ : ClassId) (h h_all h_has h_line h_act h_pile h_comes h_leaves h_tried h_met : Nat) (f_size : Int32) (f_next : Int32) (f_where : Int32) (f_token : Int32) (f_number : Int32) (f_sign : Int32) (f_word : Int32) (f_wrong : Int32) (f_open : Int32) (f_lines : Int32) (f_acts : Int32) (r_all : Nat → Int32) : va_W := [(h, .inr (10, [.ref h_all, .ref h_has, .int f_size, .int f_next, .int f_where, .int f_token, .int f_number, .int f_sign, .int f_word, .int f_wrong, .int f_open, .int f_lines, .int f_acts, .ref h_line, .ref h_act, .ref h_pile, .ref h_comes, .ref h_leaves, .ref h_tried, .ref h_met])), (h_all, .inl (cI, 53700, .inl r_all))]
abbrev rmX11_iceOf : Room := { frames := 1, cells := 0, slots := 0, locals := 23 }
abbrev qX11_iceOf (dC : Nat → ClassId) (dI : Nat → Nat → Nat) (cI cZ cO cW : ClassId) (h h_all h_has h_line h_act h_pile h_comes h_leaves h_tried h_met : Nat) (f_size : Int32) (f_next : Int32) (f_where : Int32) (f_token : Int32) (f_number : Int32) (f_sign : Int32) (f_word : Int32) (f_wrong : Int32) (f_open : Int32) (f_lines : Int32) (f_acts : Int32) (r_all : Nat → Int32) (Q : Int32 → Prop) (A : Nat → Prop) : Array Value → State → Outcome → State → Prop := va_Qi (fun (r : Int32) (u : Unit) => Q r) (fun (u : Unit) (t : State) => va_P (dC, dI) vwCl (vX11_iceOf cI cZ h h_all h_has h_line h_act h_pile h_comes h_leaves h_tried h_met f_size f_next f_where f_token f_number f_sign f_word f_wrong f_open f_lines f_acts r_all) t.heap ∧ va_K (dC, dI) vwCl (tysA cI cZ cO cW) t ∧ va_D A (vX11_iceOf cI cZ h h_all h_has h_line h_act h_pile h_comes h_leaves h_tried h_met f_size f_next f_where f_token f_number f_sign f_word f_wrong f_open f_lines f_acts r_all)) A
def zsX11_iceOf : List Cond := Cond.code yX11_iceOf cX11_iceOf 5 (some .int) :: GW
set_option maxHeartbeats 4000000 in
set_option maxRecDepth 100000 in
theorem tX11_iceOf_17 {p : Program} {l : Launch} {e : Env} {s : State} {m : MethodId} {args : Array Value} {below : List Frame} {meth : Method} {c : Code} {dC : Nat → ClassId} {dI : Nat → Nat → Nat} {cI cZ cO cW : ClassId} {A : Nat → Prop} {h h_all h_has h_line h_act h_pile h_comes h_leaves h_tried h_met : Nat} {f_size f_next f_where f_token f_number f_sign f_word f_wrong f_open f_lines f_acts : Int32} {Q : Int32 → Prop} {K_4 : Int32 → Int32 → Int32 → (Nat → Int32) → Prop} (hC : Cx p s m args meth c cX11_iceOf (some .int) 5 GW RX11) (hK : va_K (dC, dI) vwCl (tysA cI cZ cO cW) s) (hA : ∀ q : Nat, s.heap.size ≤ q → A q) (hk_4 : ∀ (x1 : Int32) (x2 : Int32) (x3 : Int32) (r_all : (Nat → Int32)) (H : Heap) (locs : List Loc) (ls : Array Slot), K_4 x1 x2 x3 r_all → va_P (dC, dI) vwCl (vX11_iceOf cI cZ h h_all h_has h_line h_act h_pile h_comes h_leaves h_tried h_met f_size f_next f_where f_token f_number f_sign f_word f_wrong f_open f_lines f_acts r_all) H → va_D A (vX11_iceOf cI cZ h h_all h_has h_line h_act h_pile h_comes h_leaves h_tried h_met f_size f_next f_where f_token f_number f_sign f_word f_wrong f_open f_lines f_acts r_all) → va_S A s.heap H locs → lv_has ls 5 [(0, .ref h), (1, .int x1), (2, .int x2), (3, .int x3)] → W p l e rmX11_iceOf s m args below meth c H locs 0 0 (MQ below (qX11_iceOf dC dI cI cZ cO cW h h_all h_has h_line h_act h_pile h_comes h_leaves h_tried h_met f_size f_next f_where f_token f_number f_sign f_word f_wrong f_open f_lines f_acts r_all Q A) args s 0 0 A) (F0 m 4 ls [])) :
    ∀ (n : Nat) (x1 : Int32) (x2 : Int32) (x3 : Int32) (x4 : Int32) (r_all : (Nat → Int32)) (H : Heap) (locs : List Loc) (ls : Array Slot), wX11_iceOf_17 Q K_4 n x1 x2 x3 x4 r_all → va_P (dC, dI) vwCl (vX11_iceOf cI cZ h h_all h_has h_line h_act h_pile h_comes h_leaves h_tried h_met f_size f_next f_where f_token f_number f_sign f_word f_wrong f_open f_lines f_acts r_all) H → va_D A (vX11_iceOf cI cZ h h_all h_has h_line h_act h_pile h_comes h_leaves h_tried h_met f_size f_next f_where f_token f_number f_sign f_word f_wrong f_open f_lines f_acts r_all) → va_S A s.heap H locs → lv_has ls 5 [(0, .ref h), (1, .int x1), (2, .int x2), (3, .int x3), (4, .int x4)] → W p l e rmX11_iceOf s m args below meth c H locs 0 0 (MQ below (qX11_iceOf dC dI cI cZ cO cW h h_all h_has h_line h_act h_pile h_comes h_leaves h_tried h_met f_size f_next f_where f_token f_number f_sign f_word f_wrong f_open f_lines f_acts r_all Q A) args s 0 0 A) (F0 m 17 ls []) := by
  obtain ⟨hx, hb, hr, hml, hown, hts, hlocks⟩ := id hC
  intro n
  induction n with
  | zero =>
    intro  x1 x2 x3 x4 r_all H locs ls hw
    exact hw.elim
  | succ n ih =>
    intro  x1 x2 x3 x4 r_all H locs ls hw hP hD hS hl
    refine lv_iload hx hb dX11_iceOf_17 (lv_at hl 4 rfl) ?_
    refine lv_aload_n hx hb dX11_iceOf_19 rfl (lv_at hl 0 rfl) ?_
    refine va_get (D := (dC, dI)) (ci := 10) (v := .ref h_all) (C := RX11) (T := TX11) (N := 20) hx hb hts gu_X11 hown hK hP 0 rfl rfl 0 (by decide) (hts _ gw_607) (fun _ h9 => h9) rfl dX11_iceOf_20 ?_
    refine lv_iconst (v := (1 : Int32)) hx hb dX11_iceOf_23 (by decide) ?_
    obtain ⟨h_1, hw⟩ := hw
    refine va_iald hx hb hK hP 1 0 rfl rfl h_1 dX11_iceOf_24 ?_
    refine lv_icmp_ge (tgt := 45) hx hb dX11_iceOf_25 (by decide) (fun c_2 => ?_) (fun c_2 => ?_)
    · have hw := hw.1 c_2
      refine lv_iinc (v := (x3 + (1 : Int32))) (lv' := [(3, .int (x3 + (1 : Int32))), (0, .ref h), (1, .int x1), (2, .int x2), (4, .int x4)]) hx hb dX11_iceOf_45 hl (k := 3) rfl rfl (by decide) rfl (fun ls hl => ?_)
      refine lv_goto (tgt := 4) hx hb dX11_iceOf_48 (by decide) ?_
      exact hk_4 x1 x2 (x3 + (1 : Int32)) r_all _ _ ls hw (hP.sub [0, 1] rfl) (hD.sub [0, 1] (by decide) rfl) hS (lv_sub hl [1, 2, 3, 0] rfl)
    · have hw := hw.2 c_2
      refine lv_iload_n hx hb dX11_iceOf_28 rfl (lv_at hl 2 rfl) ?_
      refine lv_aload_n hx hb dX11_iceOf_29 rfl (lv_at hl 0 rfl) ?_
      refine lv_iload_n hx hb dX11_iceOf_30 rfl (lv_at hl 3 rfl) ?_
      refine lv_iload hx hb dX11_iceOf_31 (lv_at hl 4 rfl) ?_
      refine lv_iload_n hx hb dX11_iceOf_33 rfl (lv_at hl 1 rfl) ?_
      have hPc := hP.sub (ws' := [(h, .inr (10, [.ref h_all, .ref h_has, .int f_size, .int f_next, .int f_where, .int f_token, .int f_number, .int f_sign, .int f_word, .int f_wrong, .int f_open, .int f_lines, .int f_acts, .ref h_line, .ref h_act, .ref h_pile, .ref h_comes, .ref h_leaves, .ref h_tried, .ref h_met])), (h_all, .inl (cI, 53700, .inl r_all))]) [0, 1] rfl
      have hDc := hD.sub (ws' := [(h, .inr (10, [.ref h_all, .ref h_has, .int f_size, .int f_next, .int f_where, .int f_token, .int f_number, .int f_sign, .int f_word, .int f_wrong, .int f_open, .int f_lines, .int f_acts, .ref h_line, .ref h_act, .ref h_pile, .ref h_comes, .ref h_leaves, .ref h_tried, .ref h_met])), (h_all, .inl (cI, 53700, .inl r_all))]) [0, 1] (by decide) rfl
      have hFc := va_free (wc := [(h, .inr (10, [.ref h_all, .ref h_has, .int f_size, .int f_next, .int f_where, .int f_token, .int f_number, .int f_sign, .int f_word, .int f_wrong, .int f_open, .int f_lines, .int f_acts, .ref h_line, .ref h_act, .ref h_pile, .ref h_comes, .ref h_leaves, .ref h_tried, .ref h_met])), (h_all, .inl (cI, 53700, .inl r_all))]) hD hS hA [0, 1] rfl
      refine va_calli (va_runV (As := [.int x3, .int x4, .int x1]) (rest := [.int x2]) ⟨hx, hb, hml, hown, hts⟩ (kX11_of l dC dI cI cZ cO cW h h_all h_has h_line h_act h_pile h_comes h_leaves h_tried h_met H.size f_size f_next f_where f_token f_number f_sign f_word f_wrong f_open f_lines f_acts r_all x3 x4 x1 _ hw) (cwV 3 hts (gV gw_634 gw_635 gw_636 gw_622 (gM gw_628)) rfl rfl rfl (by decide +kernel) ⟨Nat.le_of_ble_eq_true rfl, Nat.le_of_ble_eq_true rfl⟩) (pv_of hPc hK hDc (va_recv hK hPc (ci := 10) (q0 := 0) rfl rfl)) rfl rfl hl.1 rfl (lv_room (Nat.le_of_ble_eq_true rfl)) dX11_iceOf_34 ⟨Nat.zero_le _, Nat.zero_le _⟩) hS (fun q _ h => hFc q h) hFc (fun r_3 u t H locs ht hvm hw hB hz1 hk1 hS => ?_)
      obtain ⟨hP, hD⟩ := af_join (wr := []) (w1 := [(h, .inr (10, [.ref h_all, .ref h_has, .int f_size, .int f_next, .int f_where, .int f_token, .int f_number, .int f_sign, .int f_word, .int f_wrong, .int f_open, .int f_lines, .int f_acts, .ref h_line, .ref h_act, .ref h_pile, .ref h_comes, .ref h_leaves, .ref h_tried, .ref h_met])), (h_all, .inl (cI, 53700, .inl r_all))]) hB ht hP hD [0, 1] [] rfl rfl (by decide) (by decide) hk1 hFc
      have hP : va_P (dC, dI) vwCl [(h, .inr (10, [.ref h_all, .ref h_has, .int f_size, .int f_next, .int f_where, .int f_token, .int f_number, .int f_sign, .int f_word, .int f_wrong, .int f_open, .int f_lines, .int f_acts, .ref h_line, .ref h_act, .ref h_pile, .ref h_comes, .ref h_leaves, .ref h_tried, .ref h_met])), (h_all, .inl (cI, 53700, .inl r_all))] _ := hP
      have hD : va_D A [(h, .inr (10, [.ref h_all, .ref h_has, .int f_size, .int f_next, .int f_where, .int f_token, .int f_number, .int f_sign, .int f_word, .int f_wrong, .int f_open, .int f_lines, .int f_acts, .ref h_line, .ref h_act, .ref h_pile, .ref h_comes, .ref h_leaves, .ref h_tried, .ref h_met])), (h_all, .inl (cI, 53700, .inl r_all))] := hD
      refine lv_iadd hx hb dX11_iceOf_37 ?_
      refine lv_istore_n (lv' := [(2, .int (x2 + r_3)), (0, .ref h), (1, .int x1), (3, .int x3), (4, .int x4)]) hx hb dX11_iceOf_38 rfl hl (by decide) rfl (fun ls hl => ?_)
      refine lv_iinc (v := (x4 + (1 : Int32))) (lv' := [(4, .int (x4 + (1 : Int32))), (2, .int (x2 + r_3)), (0, .ref h), (1, .int x1), (3, .int x3)]) hx hb dX11_iceOf_39 hl (k := 4) rfl rfl (by decide) rfl (fun ls hl => ?_)
      refine lv_goto (tgt := 17) hx hb dX11_iceOf_42 (by decide) ?_
      exact ih x1 (x2 + r_3) x3 (x4 + (1 : Int32)) r_all _ _ ls hw (hP.sub [0, 1] rfl) (hD.sub [0, 1] (by decide) rfl) hS (lv_sub hl [2, 3, 1, 4, 0] rfl)
set_option maxHeartbeats 4000000 in
set_option maxRecDepth 100000 in
theorem tX11_iceOf_4 {p : Program} {l : Launch} {e : Env} {s : State} {m : MethodId} {args : Array Value} {below : List Frame} {meth : Method} {c : Code} {dC : Nat → ClassId} {dI : Nat → Nat → Nat} {cI cZ cO cW : ClassId} {A : Nat → Prop} {h h_all h_has h_line h_act h_pile h_comes h_leaves h_tried h_met : Nat} {f_size f_next f_where f_token f_number f_sign f_word f_wrong f_open f_lines f_acts : Int32} {Q : Int32 → Prop}  (hC : Cx p s m args meth c cX11_iceOf (some .int) 5 GW RX11) (hK : va_K (dC, dI) vwCl (tysA cI cZ cO cW) s) (hA : ∀ q : Nat, s.heap.size ≤ q → A q) :
    ∀ (n : Nat) (x1 : Int32) (x2 : Int32) (x3 : Int32) (r_all : (Nat → Int32)) (H : Heap) (locs : List Loc) (ls : Array Slot), wX11_iceOf_4 Q  n x1 x2 x3 r_all → va_P (dC, dI) vwCl (vX11_iceOf cI cZ h h_all h_has h_line h_act h_pile h_comes h_leaves h_tried h_met f_size f_next f_where f_token f_number f_sign f_word f_wrong f_open f_lines f_acts r_all) H → va_D A (vX11_iceOf cI cZ h h_all h_has h_line h_act h_pile h_comes h_leaves h_tried h_met f_size f_next f_where f_token f_number f_sign f_word f_wrong f_open f_lines f_acts r_all) → va_S A s.heap H locs → lv_has ls 5 [(0, .ref h), (1, .int x1), (2, .int x2), (3, .int x3)] → W p l e rmX11_iceOf s m args below meth c H locs 0 0 (MQ below (qX11_iceOf dC dI cI cZ cO cW h h_all h_has h_line h_act h_pile h_comes h_leaves h_tried h_met f_size f_next f_where f_token f_number f_sign f_word f_wrong f_open f_lines f_acts r_all Q A) args s 0 0 A) (F0 m 4 ls []) := by
  obtain ⟨hx, hb, hr, hml, hown, hts, hlocks⟩ := id hC
  intro n
  induction n with
  | zero =>
    intro  x1 x2 x3 r_all H locs ls hw
    exact hw.elim
  | succ n ih =>
    intro  x1 x2 x3 r_all H locs ls hw hP hD hS hl
    refine lv_iload_n hx hb dX11_iceOf_4 rfl (lv_at hl 3 rfl) ?_
    refine lv_aload_n hx hb dX11_iceOf_5 rfl (lv_at hl 0 rfl) ?_
    refine va_get (D := (dC, dI)) (ci := 10) (v := .ref h_all) (C := RX11) (T := TX11) (N := 20) hx hb hts gu_X11 hown hK hP 0 rfl rfl 0 (by decide) (hts _ gw_607) (fun _ h9 => h9) rfl dX11_iceOf_6 ?_
    refine lv_iconst (v := (0 : Int32)) hx hb dX11_iceOf_9 (by decide) ?_
    obtain ⟨h_4, hw⟩ := hw
    refine va_iald hx hb hK hP 1 0 rfl rfl h_4 dX11_iceOf_10 ?_
    refine lv_icmp_ge (tgt := 51) hx hb dX11_iceOf_11 (by decide) (fun c_5 => ?_) (fun c_5 => ?_)
    · have hw := hw.1 c_5
      refine lv_iload_n hx hb dX11_iceOf_51 rfl (lv_at hl 2 rfl) ?_
      have hP9 := hP.sub (ws' := (vX11_iceOf cI cZ h h_all h_has h_line h_act h_pile h_comes h_leaves h_tried h_met f_size f_next f_where f_token f_number f_sign f_word f_wrong f_open f_lines f_acts r_all)) [0, 1] rfl
      have hD9 := hD.sub (ws' := (vX11_iceOf cI cZ h h_all h_has h_line h_act h_pile h_comes h_leaves h_tried h_met f_size f_next f_where f_token f_number f_sign f_word f_wrong f_open f_lines f_acts r_all)) [0, 1] (by decide) rfl
      exact W.iret (v := x2) hx hb hr (fun t ht hW => ⟨⟨x2, (), rfl, hw, by rw [ht]; exact hP9, va_K.moved hW.alike hK, hD9⟩, hS.F ht⟩) hS.2.2 dX11_iceOf_52
    · have hw := hw.2 c_5
      refine lv_iconst (v := (0 : Int32)) hx hb dX11_iceOf_14 (by decide) ?_
      refine lv_istore (lv' := [(4, .int (0 : Int32)), (0, .ref h), (1, .int x1), (2, .int x2), (3, .int x3)]) hx hb dX11_iceOf_15 hl (by decide) rfl (fun ls hl => ?_)
      obtain ⟨n_6, hw⟩ := hw
      exact tX11_iceOf_17 hC hK hA ih n_6 x1 x2 x3 (0 : Int32) r_all _ _ ls hw (hP.sub [0, 1] rfl) (hD.sub [0, 1] (by decide) rfl) hS (lv_sub hl [1, 2, 3, 4, 0] rfl)
set_option maxHeartbeats 4000000 in
set_option maxRecDepth 100000 in
theorem tX11_iceOf_e {p : Program} {l : Launch} {e : Env} {s : State} {m : MethodId} {args : Array Value} {below : List Frame} {meth : Method} {c : Code} {dC : Nat → ClassId} {dI : Nat → Nat → Nat} {cI cZ cO cW : ClassId} {A : Nat → Prop} {h h_all h_has h_line h_act h_pile h_comes h_leaves h_tried h_met : Nat} {f_size f_next f_where f_token f_number f_sign f_word f_wrong f_open f_lines f_acts : Int32} {Q : Int32 → Prop} (hC : Cx p s m args meth c cX11_iceOf (some .int) 5 GW RX11) (hK : va_K (dC, dI) vwCl (tysA cI cZ cO cW) s) (hA : ∀ q : Nat, s.heap.size ≤ q → A q) :
    ∀ (x1 : Int32) (r_all : Nat → Int32) (H : Heap) (locs : List Loc) (ls : Array Slot), wX11_iceOf Q x1 r_all → va_P (dC, dI) vwCl (vX11_iceOf cI cZ h h_all h_has h_line h_act h_pile h_comes h_leaves h_tried h_met f_size f_next f_where f_token f_number f_sign f_word f_wrong f_open f_lines f_acts r_all) H → va_D A (vX11_iceOf cI cZ h h_all h_has h_line h_act h_pile h_comes h_leaves h_tried h_met f_size f_next f_where f_token f_number f_sign f_word f_wrong f_open f_lines f_acts r_all) → va_S A s.heap H locs → lv_has ls 5 [(0, .ref h), (1, .int x1)] → W p l e rmX11_iceOf s m args below meth c H locs 0 0 (MQ below (qX11_iceOf dC dI cI cZ cO cW h h_all h_has h_line h_act h_pile h_comes h_leaves h_tried h_met f_size f_next f_where f_token f_number f_sign f_word f_wrong f_open f_lines f_acts r_all Q A) args s 0 0 A) (F0 m 0 ls []) := by
  obtain ⟨hx, hb, hr, hml, hown, hts, hlocks⟩ := id hC
  intro x1 r_all H locs ls hw hP hD hS hl
  refine lv_iconst (v := (0 : Int32)) hx hb dX11_iceOf_0 (by decide) ?_
  refine lv_istore_n (lv' := [(2, .int (0 : Int32)), (0, .ref h), (1, .int x1)]) hx hb dX11_iceOf_1 rfl hl (by decide) rfl (fun ls hl => ?_)
  refine lv_iconst (v := (0 : Int32)) hx hb dX11_iceOf_2 (by decide) ?_
  refine lv_istore_n (lv' := [(3, .int (0 : Int32)), (2, .int (0 : Int32)), (0, .ref h), (1, .int x1)]) hx hb dX11_iceOf_3 rfl hl (by decide) rfl (fun ls hl => ?_)
  obtain ⟨n_7, hw⟩ := hw
  exact tX11_iceOf_4 hC hK hA  n_7 x1 (0 : Int32) (0 : Int32) r_all _ _ ls hw (hP.sub [0, 1] rfl) (hD.sub [0, 1] (by decide) rfl) hS (lv_sub hl [2, 3, 1, 0] rfl)
set_option maxHeartbeats 4000000 in
set_option maxRecDepth 100000 in
theorem kX11_iceOf (l : Launch) (dC : Nat → ClassId) (dI : Nat → Nat → Nat) (cI cZ cO cW : ClassId) (h h_all h_has h_line h_act h_pile h_comes h_leaves h_tried h_met : Nat)  (sz : Nat) (f_size : Int32) (f_next : Int32) (f_where : Int32) (f_token : Int32) (f_number : Int32) (f_sign : Int32) (f_word : Int32) (f_wrong : Int32) (f_open : Int32) (f_lines : Int32) (f_acts : Int32) (r_all : Nat → Int32) (x1 : Int32) (Q : Int32 → Prop) (hw : wX11_iceOf Q x1 r_all) : Met l yX11_iceOf zsX11_iceOf rmX11_iceOf (va_Pc [.ref h, .int x1] (fun U => U.heap.size = sz ∧ va_P (dC, dI) vwCl (vX11_iceOf cI cZ h h_all h_has h_line h_act h_pile h_comes h_leaves h_tried h_met f_size f_next f_where f_token f_number f_sign f_word f_wrong f_open f_lines f_acts r_all) U.heap ∧ va_K (dC, dI) vwCl (tysA cI cZ cO cW) U ∧ va_D (fun _ => True) (vX11_iceOf cI cZ h h_all h_has h_line h_act h_pile h_comes h_leaves h_tried h_met f_size f_next f_where f_token f_number f_sign f_word f_wrong f_open f_lines f_acts r_all))) (qX11_iceOf dC dI cI cZ cO cW h h_all h_has h_line h_act h_pile h_comes h_leaves h_tried h_met f_size f_next f_where f_token f_number f_sign f_word f_wrong f_open f_lines f_acts r_all Q (va_A (vX11_iceOf cI cZ h h_all h_has h_line h_act h_pile h_comes h_leaves h_tried h_met f_size f_next f_where f_token f_number f_sign f_word f_wrong f_open f_lines f_acts r_all) sz)) 0 0 (va_A (vX11_iceOf cI cZ h h_all h_has h_line h_act h_pile h_comes h_leaves h_tried h_met f_size f_next f_where f_token f_number f_sign f_word f_wrong f_open f_lines f_acts r_all) sz) := by
  refine Met.ofW (cc := cX11_iceOf) (maxL := 5) (ret := (some .int)) (by decide) rfl ?_
  intro p e s m args below meth c s₁ B hml hv
  obtain ⟨rfl, hsz, hP, hK, hD0⟩ := hv
  subst hsz
  have hC : Cx p s m ([.ref h, .int x1] : List Value).toArray meth c cX11_iceOf (some .int) 5 GW RX11 := ⟨B.exec, B.bytes, B.returns, hml, findClass_of_methodNamed B.named, fun w h => atoms_spec (ws := zsX11_iceOf) B.pre w (List.mem_cons_of_mem _ h), B.notSynchronized⟩
  have hD := hD0.self (sz := s.heap.size)
  generalize hAe : va_A (vX11_iceOf cI cZ h h_all h_has h_line h_act h_pile h_comes h_leaves h_tried h_met f_size f_next f_where f_token f_number f_sign f_word f_wrong f_open f_lines f_acts r_all) s.heap.size = A at hD ⊢
  have hA : ∀ q : Nat, s.heap.size ≤ q → A q := fun q h => by rw [← hAe]; exact Or.inr h
  have hl := lv_entry ([.ref h, .int x1]) (n := 5) (Nat.le_of_ble_eq_true rfl)
  rw [lg_entry_eq]
  generalize (lg_sl ([.ref h, .int x1]) ++ List.replicate (5 - (lg_sl ([.ref h, .int x1])).length) Slot.unset).toArray = ls at hl ⊢
  exact tX11_iceOf_e hC hK hA x1 r_all _ _ ls hw hP hD va_S.rf hl

/-! X11_copies -/
def wX11_copies_2 (Q : (Nat → Int32) → Prop)   : Nat → Int32 → Int32 → Int32 → (Nat → Int32) → Prop
  | 0, _, _, _, _ => False
  | n + 1, x1, x2, x3, r_all => (((10740 : Int32) ≤ x3 → (Q r_all)) ∧ (¬ (10740 : Int32) ≤ x3 → (vp_in (((10740 : Int32) * x1) + x3) 53700 ∧ (vp_in (((10740 : Int32) * x2) + x3) 53700 ∧ (wX11_copies_2 Q n x1 x2 (x3 + (1 : Int32)) (upd r_all (((10740 : Int32) * x2) + x3).toNatClampNeg (r_all (((10740 : Int32) * x1) + x3).toNatClampNeg)))))))
def wX11_copies (Q : (Nat → Int32) → Prop) (x1 : Int32) (x2 : Int32) (r_all : Nat → Int32) : Prop :=
  (∃ j_, wX11_copies_2 Q j_ x1 x2 (0 : Int32) r_all)
abbrev vX11_copies (cI cZ : ClassId) (h h_all h_has h_line h_act h_pile h_comes h_leaves h_tried h_met : Nat) (f_size : Int32) (f_next : Int32) (f_where : Int32) (f_token : Int32) (f_number : Int32) (f_sign : Int32) (f_word : Int32) (f_wrong : Int32) (f_open : Int32) (f_lines : Int32) (f_acts : Int32) (r_all : Nat → Int32) : va_W := [(h, .inr (10, [.ref h_all, .ref h_has, .int f_size, .int f_next, .int f_where, .int f_token, .int f_number, .int f_sign, .int f_word, .int f_wrong, .int f_open, .int f_lines, .int f_acts, .ref h_line, .ref h_act, .ref h_pile, .ref h_comes, .ref h_leaves, .ref h_tried, .ref h_met])), (h_all, .inl (cI, 53700, .inl r_all))]
abbrev rmX11_copies : Room := { frames := 0, cells := 0, slots := 0, locals := 0 }
abbrev qX11_copies (dC : Nat → ClassId) (dI : Nat → Nat → Nat) (cI cZ cO cW : ClassId) (h h_all h_has h_line h_act h_pile h_comes h_leaves h_tried h_met : Nat) (f_size : Int32) (f_next : Int32) (f_where : Int32) (f_token : Int32) (f_number : Int32) (f_sign : Int32) (f_word : Int32) (f_wrong : Int32) (f_open : Int32) (f_lines : Int32) (f_acts : Int32) (Q : (Nat → Int32) → Prop) (A : Nat → Prop) : Array Value → State → Outcome → State → Prop := va_Qv (fun (u : (Nat → Int32)) => Q u) (fun (u : (Nat → Int32)) (t : State) => va_P (dC, dI) vwCl (vX11_copies cI cZ h h_all h_has h_line h_act h_pile h_comes h_leaves h_tried h_met f_size f_next f_where f_token f_number f_sign f_word f_wrong f_open f_lines f_acts u) t.heap ∧ va_K (dC, dI) vwCl (tysA cI cZ cO cW) t ∧ va_D A (vX11_copies cI cZ h h_all h_has h_line h_act h_pile h_comes h_leaves h_tried h_met f_size f_next f_where f_token f_number f_sign f_word f_wrong f_open f_lines f_acts u)) A
def zsX11_copies : List Cond := Cond.code yX11_copies cX11_copies 4 none :: GW
set_option maxHeartbeats 4000000 in
set_option maxRecDepth 100000 in
theorem tX11_copies_2 {p : Program} {l : Launch} {e : Env} {s : State} {m : MethodId} {args : Array Value} {below : List Frame} {meth : Method} {c : Code} {dC : Nat → ClassId} {dI : Nat → Nat → Nat} {cI cZ cO cW : ClassId} {A : Nat → Prop} {h h_all h_has h_line h_act h_pile h_comes h_leaves h_tried h_met : Nat} {f_size f_next f_where f_token f_number f_sign f_word f_wrong f_open f_lines f_acts : Int32} {Q : (Nat → Int32) → Prop}  (hC : Cx p s m args meth c cX11_copies none 4 GW RX11) (hK : va_K (dC, dI) vwCl (tysA cI cZ cO cW) s) (hA : ∀ q : Nat, s.heap.size ≤ q → A q) :
    ∀ (n : Nat) (x1 : Int32) (x2 : Int32) (x3 : Int32) (r_all : (Nat → Int32)) (H : Heap) (locs : List Loc) (ls : Array Slot), wX11_copies_2 Q  n x1 x2 x3 r_all → va_P (dC, dI) vwCl (vX11_copies cI cZ h h_all h_has h_line h_act h_pile h_comes h_leaves h_tried h_met f_size f_next f_where f_token f_number f_sign f_word f_wrong f_open f_lines f_acts r_all) H → va_D A (vX11_copies cI cZ h h_all h_has h_line h_act h_pile h_comes h_leaves h_tried h_met f_size f_next f_where f_token f_number f_sign f_word f_wrong f_open f_lines f_acts r_all) → va_S A s.heap H locs → lv_has ls 4 [(0, .ref h), (1, .int x1), (2, .int x2), (3, .int x3)] → W p l e rmX11_copies s m args below meth c H locs 0 0 (MQ below (qX11_copies dC dI cI cZ cO cW h h_all h_has h_line h_act h_pile h_comes h_leaves h_tried h_met f_size f_next f_where f_token f_number f_sign f_word f_wrong f_open f_lines f_acts Q A) args s 0 0 A) (F0 m 2 ls []) := by
  obtain ⟨hx, hb, hr, hml, hown, hts, hlocks⟩ := id hC
  intro n
  induction n with
  | zero =>
    intro  x1 x2 x3 r_all H locs ls hw
    exact hw.elim
  | succ n ih =>
    intro  x1 x2 x3 r_all H locs ls hw hP hD hS hl
    refine lv_iload_n hx hb dX11_copies_2 rfl (lv_at hl 3 rfl) ?_
    refine lv_sipush (v := (10740 : Int32)) hx hb dX11_copies_3 (by decide) ?_
    refine lv_icmp_ge (tgt := 39) hx hb dX11_copies_6 (by decide) (fun c_1 => ?_) (fun c_1 => ?_)
    · have hw := hw.1 c_1
      have hP9 := hP.sub (ws' := (vX11_copies cI cZ h h_all h_has h_line h_act h_pile h_comes h_leaves h_tried h_met f_size f_next f_where f_token f_number f_sign f_word f_wrong f_open f_lines f_acts r_all)) [0, 1] rfl
      have hD9 := hD.sub (ws' := (vX11_copies cI cZ h h_all h_has h_line h_act h_pile h_comes h_leaves h_tried h_met f_size f_next f_where f_token f_number f_sign f_word f_wrong f_open f_lines f_acts r_all)) [0, 1] (by decide) rfl
      exact W.vret hx hb hr (fun t ht hW => ⟨⟨r_all, rfl, hw, by rw [ht]; exact hP9, va_K.moved hW.alike hK, hD9⟩, hS.F ht⟩) hS.2.2 dX11_copies_39
    · have hw := hw.2 c_1
      refine lv_aload_n hx hb dX11_copies_9 rfl (lv_at hl 0 rfl) ?_
      refine va_get (D := (dC, dI)) (ci := 10) (v := .ref h_all) (C := RX11) (T := TX11) (N := 20) hx hb hts gu_X11 hown hK hP 0 rfl rfl 0 (by decide) (hts _ gw_607) (fun _ h9 => h9) rfl dX11_copies_10 ?_
      refine lv_sipush (v := (10740 : Int32)) hx hb dX11_copies_13 (by decide) ?_
      refine lv_iload_n hx hb dX11_copies_16 rfl (lv_at hl 2 rfl) ?_
      refine lv_imul hx hb dX11_copies_17 ?_
      refine lv_iload_n hx hb dX11_copies_18 rfl (lv_at hl 3 rfl) ?_
      refine lv_iadd hx hb dX11_copies_19 ?_
      refine lv_aload_n hx hb dX11_copies_20 rfl (lv_at hl 0 rfl) ?_
      refine va_get (D := (dC, dI)) (ci := 10) (v := .ref h_all) (C := RX11) (T := TX11) (N := 20) hx hb hts gu_X11 hown hK hP 0 rfl rfl 0 (by decide) (hts _ gw_607) (fun _ h9 => h9) rfl dX11_copies_21 ?_
      refine lv_sipush (v := (10740 : Int32)) hx hb dX11_copies_24 (by decide) ?_
      refine lv_iload_n hx hb dX11_copies_27 rfl (lv_at hl 1 rfl) ?_
      refine lv_imul hx hb dX11_copies_28 ?_
      refine lv_iload_n hx hb dX11_copies_29 rfl (lv_at hl 3 rfl) ?_
      refine lv_iadd hx hb dX11_copies_30 ?_
      obtain ⟨h_2, hw⟩ := hw
      refine va_iald hx hb hK hP 1 0 rfl rfl h_2 dX11_copies_31 ?_
      obtain ⟨h_3, hw⟩ := hw
      refine va_iast hx hb hK hP hD hS 1 0 rfl rfl h_3 dX11_copies_32 (fun H locs hP hD hS => ?_)
      have hP : va_P (dC, dI) vwCl [(h, .inr (10, [.ref h_all, .ref h_has, .int f_size, .int f_next, .int f_where, .int f_token, .int f_number, .int f_sign, .int f_word, .int f_wrong, .int f_open, .int f_lines, .int f_acts, .ref h_line, .ref h_act, .ref h_pile, .ref h_comes, .ref h_leaves, .ref h_tried, .ref h_met])), (h_all, .inl (cI, 53700, .inl (upd r_all (((10740 : Int32) * x2) + x3).toNatClampNeg (r_all (((10740 : Int32) * x1) + x3).toNatClampNeg))))] _ := hP
      have hD : va_D A [(h, .inr (10, [.ref h_all, .ref h_has, .int f_size, .int f_next, .int f_where, .int f_token, .int f_number, .int f_sign, .int f_word, .int f_wrong, .int f_open, .int f_lines, .int f_acts, .ref h_line, .ref h_act, .ref h_pile, .ref h_comes, .ref h_leaves, .ref h_tried, .ref h_met])), (h_all, .inl (cI, 53700, .inl (upd r_all (((10740 : Int32) * x2) + x3).toNatClampNeg (r_all (((10740 : Int32) * x1) + x3).toNatClampNeg))))] := hD
      refine lv_iinc (v := (x3 + (1 : Int32))) (lv' := [(3, .int (x3 + (1 : Int32))), (0, .ref h), (1, .int x1), (2, .int x2)]) hx hb dX11_copies_33 hl (k := 3) rfl rfl (by decide) rfl (fun ls hl => ?_)
      refine lv_goto (tgt := 2) hx hb dX11_copies_36 (by decide) ?_
      exact ih x1 x2 (x3 + (1 : Int32)) (upd r_all (((10740 : Int32) * x2) + x3).toNatClampNeg (r_all (((10740 : Int32) * x1) + x3).toNatClampNeg)) _ _ ls hw (hP.sub [0, 1] rfl) (hD.sub [0, 1] (by decide) rfl) hS (lv_sub hl [1, 2, 3, 0] rfl)
set_option maxHeartbeats 4000000 in
set_option maxRecDepth 100000 in
theorem tX11_copies_e {p : Program} {l : Launch} {e : Env} {s : State} {m : MethodId} {args : Array Value} {below : List Frame} {meth : Method} {c : Code} {dC : Nat → ClassId} {dI : Nat → Nat → Nat} {cI cZ cO cW : ClassId} {A : Nat → Prop} {h h_all h_has h_line h_act h_pile h_comes h_leaves h_tried h_met : Nat} {f_size f_next f_where f_token f_number f_sign f_word f_wrong f_open f_lines f_acts : Int32} {Q : (Nat → Int32) → Prop} (hC : Cx p s m args meth c cX11_copies none 4 GW RX11) (hK : va_K (dC, dI) vwCl (tysA cI cZ cO cW) s) (hA : ∀ q : Nat, s.heap.size ≤ q → A q) :
    ∀ (x1 : Int32) (x2 : Int32) (r_all : Nat → Int32) (H : Heap) (locs : List Loc) (ls : Array Slot), wX11_copies Q x1 x2 r_all → va_P (dC, dI) vwCl (vX11_copies cI cZ h h_all h_has h_line h_act h_pile h_comes h_leaves h_tried h_met f_size f_next f_where f_token f_number f_sign f_word f_wrong f_open f_lines f_acts r_all) H → va_D A (vX11_copies cI cZ h h_all h_has h_line h_act h_pile h_comes h_leaves h_tried h_met f_size f_next f_where f_token f_number f_sign f_word f_wrong f_open f_lines f_acts r_all) → va_S A s.heap H locs → lv_has ls 4 [(0, .ref h), (1, .int x1), (2, .int x2)] → W p l e rmX11_copies s m args below meth c H locs 0 0 (MQ below (qX11_copies dC dI cI cZ cO cW h h_all h_has h_line h_act h_pile h_comes h_leaves h_tried h_met f_size f_next f_where f_token f_number f_sign f_word f_wrong f_open f_lines f_acts Q A) args s 0 0 A) (F0 m 0 ls []) := by
  obtain ⟨hx, hb, hr, hml, hown, hts, hlocks⟩ := id hC
  intro x1 x2 r_all H locs ls hw hP hD hS hl
  refine lv_iconst (v := (0 : Int32)) hx hb dX11_copies_0 (by decide) ?_
  refine lv_istore_n (lv' := [(3, .int (0 : Int32)), (0, .ref h), (1, .int x1), (2, .int x2)]) hx hb dX11_copies_1 rfl hl (by decide) rfl (fun ls hl => ?_)
  obtain ⟨n_4, hw⟩ := hw
  exact tX11_copies_2 hC hK hA  n_4 x1 x2 (0 : Int32) r_all _ _ ls hw (hP.sub [0, 1] rfl) (hD.sub [0, 1] (by decide) rfl) hS (lv_sub hl [1, 2, 3, 0] rfl)
set_option maxHeartbeats 4000000 in
set_option maxRecDepth 100000 in
theorem kX11_copies (l : Launch) (dC : Nat → ClassId) (dI : Nat → Nat → Nat) (cI cZ cO cW : ClassId) (h h_all h_has h_line h_act h_pile h_comes h_leaves h_tried h_met : Nat)  (sz : Nat) (f_size : Int32) (f_next : Int32) (f_where : Int32) (f_token : Int32) (f_number : Int32) (f_sign : Int32) (f_word : Int32) (f_wrong : Int32) (f_open : Int32) (f_lines : Int32) (f_acts : Int32) (r_all : Nat → Int32) (x1 : Int32) (x2 : Int32) (Q : (Nat → Int32) → Prop) (hw : wX11_copies Q x1 x2 r_all) : Met l yX11_copies zsX11_copies rmX11_copies (va_Pc [.ref h, .int x1, .int x2] (fun U => U.heap.size = sz ∧ va_P (dC, dI) vwCl (vX11_copies cI cZ h h_all h_has h_line h_act h_pile h_comes h_leaves h_tried h_met f_size f_next f_where f_token f_number f_sign f_word f_wrong f_open f_lines f_acts r_all) U.heap ∧ va_K (dC, dI) vwCl (tysA cI cZ cO cW) U ∧ va_D (fun _ => True) (vX11_copies cI cZ h h_all h_has h_line h_act h_pile h_comes h_leaves h_tried h_met f_size f_next f_where f_token f_number f_sign f_word f_wrong f_open f_lines f_acts r_all))) (qX11_copies dC dI cI cZ cO cW h h_all h_has h_line h_act h_pile h_comes h_leaves h_tried h_met f_size f_next f_where f_token f_number f_sign f_word f_wrong f_open f_lines f_acts Q (va_A (vX11_copies cI cZ h h_all h_has h_line h_act h_pile h_comes h_leaves h_tried h_met f_size f_next f_where f_token f_number f_sign f_word f_wrong f_open f_lines f_acts r_all) sz)) 0 0 (va_A (vX11_copies cI cZ h h_all h_has h_line h_act h_pile h_comes h_leaves h_tried h_met f_size f_next f_where f_token f_number f_sign f_word f_wrong f_open f_lines f_acts r_all) sz) := by
  refine Met.ofW (cc := cX11_copies) (maxL := 4) (ret := none) (by decide) rfl ?_
  intro p e s m args below meth c s₁ B hml hv
  obtain ⟨rfl, hsz, hP, hK, hD0⟩ := hv
  subst hsz
  have hC : Cx p s m ([.ref h, .int x1, .int x2] : List Value).toArray meth c cX11_copies none 4 GW RX11 := ⟨B.exec, B.bytes, B.returns, hml, findClass_of_methodNamed B.named, fun w h => atoms_spec (ws := zsX11_copies) B.pre w (List.mem_cons_of_mem _ h), B.notSynchronized⟩
  have hD := hD0.self (sz := s.heap.size)
  generalize hAe : va_A (vX11_copies cI cZ h h_all h_has h_line h_act h_pile h_comes h_leaves h_tried h_met f_size f_next f_where f_token f_number f_sign f_word f_wrong f_open f_lines f_acts r_all) s.heap.size = A at hD ⊢
  have hA : ∀ q : Nat, s.heap.size ≤ q → A q := fun q h => by rw [← hAe]; exact Or.inr h
  have hl := lv_entry ([.ref h, .int x1, .int x2]) (n := 4) (Nat.le_of_ble_eq_true rfl)
  rw [lg_entry_eq]
  generalize (lg_sl ([.ref h, .int x1, .int x2]) ++ List.replicate (4 - (lg_sl ([.ref h, .int x1, .int x2])).length) Slot.unset).toArray = ls at hl ⊢
  exact tX11_copies_e hC hK hA x1 x2 r_all _ _ ls hw hP hD va_S.rf hl

/-! X11_count -/
def wX11_count (Q : Int32 → Prop) (x1 : Int32) (r_all : Nat → Int32) : Prop :=
  ((x1 = (0 : Int32) → (vp_in (0 : Int32) 53700 ∧ (Q (r_all (0 : Int32).toNatClampNeg)))) ∧ (x1 = (1 : Int32) → (vp_in (1 : Int32) 53700 ∧ (Q (r_all (1 : Int32).toNatClampNeg)))) ∧ (x1 = (2 : Int32) → (vp_in (2 : Int32) 53700 ∧ (Q (r_all (2 : Int32).toNatClampNeg)))) ∧ (x1 = (3 : Int32) → (vp_in (3 : Int32) 53700 ∧ (Q (r_all (3 : Int32).toNatClampNeg)))) ∧ (x1 = (4 : Int32) → (wX11_iceOf (fun r_7 => (Q r_7)) (1 : Int32) r_all)) ∧ (x1 = (5 : Int32) → (wX11_iceOf (fun r_8 => (Q r_8)) (2 : Int32) r_all)) ∧ (x1 = (6 : Int32) → (vp_in (4 : Int32) 53700 ∧ (Q (r_all (4 : Int32).toNatClampNeg)))) ∧ (x1 = (7 : Int32) → (vp_in (5 : Int32) 53700 ∧ (Q (r_all (5 : Int32).toNatClampNeg)))) ∧ (x1 = (8 : Int32) → (vp_in (6 : Int32) 53700 ∧ (Q (r_all (6 : Int32).toNatClampNeg)))) ∧ (x1 = (9 : Int32) → (vp_in (7 : Int32) 53700 ∧ (Q (r_all (7 : Int32).toNatClampNeg)))) ∧ ((x1.toInt < (0 : Int) ∨ (9 : Int) < x1.toInt) → (Q (-1 : Int32))))
abbrev vX11_count (cI cZ : ClassId) (h h_all h_has h_line h_act h_pile h_comes h_leaves h_tried h_met : Nat) (f_size : Int32) (f_next : Int32) (f_where : Int32) (f_token : Int32) (f_number : Int32) (f_sign : Int32) (f_word : Int32) (f_wrong : Int32) (f_open : Int32) (f_lines : Int32) (f_acts : Int32) (r_all : Nat → Int32) : va_W := [(h, .inr (10, [.ref h_all, .ref h_has, .int f_size, .int f_next, .int f_where, .int f_token, .int f_number, .int f_sign, .int f_word, .int f_wrong, .int f_open, .int f_lines, .int f_acts, .ref h_line, .ref h_act, .ref h_pile, .ref h_comes, .ref h_leaves, .ref h_tried, .ref h_met])), (h_all, .inl (cI, 53700, .inl r_all))]
abbrev rmX11_count : Room := { frames := 2, cells := 0, slots := 0, locals := 47 }
abbrev qX11_count (dC : Nat → ClassId) (dI : Nat → Nat → Nat) (cI cZ cO cW : ClassId) (h h_all h_has h_line h_act h_pile h_comes h_leaves h_tried h_met : Nat) (f_size : Int32) (f_next : Int32) (f_where : Int32) (f_token : Int32) (f_number : Int32) (f_sign : Int32) (f_word : Int32) (f_wrong : Int32) (f_open : Int32) (f_lines : Int32) (f_acts : Int32) (r_all : Nat → Int32) (Q : Int32 → Prop) (A : Nat → Prop) : Array Value → State → Outcome → State → Prop := va_Qi (fun (r : Int32) (u : Unit) => Q r) (fun (u : Unit) (t : State) => va_P (dC, dI) vwCl (vX11_count cI cZ h h_all h_has h_line h_act h_pile h_comes h_leaves h_tried h_met f_size f_next f_where f_token f_number f_sign f_word f_wrong f_open f_lines f_acts r_all) t.heap ∧ va_K (dC, dI) vwCl (tysA cI cZ cO cW) t ∧ va_D A (vX11_count cI cZ h h_all h_has h_line h_act h_pile h_comes h_leaves h_tried h_met f_size f_next f_where f_token f_number f_sign f_word f_wrong f_open f_lines f_acts r_all)) A
def zsX11_count : List Cond := Cond.code yX11_count cX11_count 2 (some .int) :: GW
set_option maxHeartbeats 4000000 in
set_option maxRecDepth 100000 in
theorem tX11_count_e {p : Program} {l : Launch} {e : Env} {s : State} {m : MethodId} {args : Array Value} {below : List Frame} {meth : Method} {c : Code} {dC : Nat → ClassId} {dI : Nat → Nat → Nat} {cI cZ cO cW : ClassId} {A : Nat → Prop} {h h_all h_has h_line h_act h_pile h_comes h_leaves h_tried h_met : Nat} {f_size f_next f_where f_token f_number f_sign f_word f_wrong f_open f_lines f_acts : Int32} {Q : Int32 → Prop} (hC : Cx p s m args meth c cX11_count (some .int) 2 GW RX11) (hK : va_K (dC, dI) vwCl (tysA cI cZ cO cW) s) (hA : ∀ q : Nat, s.heap.size ≤ q → A q) :
    ∀ (x1 : Int32) (r_all : Nat → Int32) (H : Heap) (locs : List Loc) (ls : Array Slot), wX11_count Q x1 r_all → va_P (dC, dI) vwCl (vX11_count cI cZ h h_all h_has h_line h_act h_pile h_comes h_leaves h_tried h_met f_size f_next f_where f_token f_number f_sign f_word f_wrong f_open f_lines f_acts r_all) H → va_D A (vX11_count cI cZ h h_all h_has h_line h_act h_pile h_comes h_leaves h_tried h_met f_size f_next f_where f_token f_number f_sign f_word f_wrong f_open f_lines f_acts r_all) → va_S A s.heap H locs → lv_has ls 2 [(0, .ref h), (1, .int x1)] → W p l e rmX11_count s m args below meth c H locs 0 0 (MQ below (qX11_count dC dI cI cZ cO cW h h_all h_has h_line h_act h_pile h_comes h_leaves h_tried h_met f_size f_next f_where f_token f_number f_sign f_word f_wrong f_open f_lines f_acts r_all Q A) args s 0 0 A) (F0 m 0 ls []) := by
  obtain ⟨hx, hb, hr, hml, hown, hts, hlocks⟩ := id hC
  intro x1 r_all H locs ls hw hP hD hS hl
  refine lv_iload_n hx hb dX11_count_0 rfl (lv_at hl 1 rfl) ?_
  refine lv_topi (fun y_1 ey_1 => ?_)
  rcases (show (y_1.toInt < (0 : Int) ∨ (9 : Int) < y_1.toInt) ∨ y_1.toInt = 0 ∨ y_1.toInt = 1 ∨ y_1.toInt = 2 ∨ y_1.toInt = 3 ∨ y_1.toInt = 4 ∨ y_1.toInt = 5 ∨ y_1.toInt = 6 ∨ y_1.toInt = 7 ∨ y_1.toInt = 8 ∨ y_1.toInt = 9 by omega) with c_2 | c_2 | c_2 | c_2 | c_2 | c_2 | c_2 | c_2 | c_2 | c_2 | c_2
  · have hw := hw.2.2.2.2.2.2.2.2.2.2 (by rw [← ey_1]; exact c_2)
    refine lv_tableOut (tgt := 126) hx hb dX11_count_1 c_2 (by decide) ?_
    refine lv_iconst (v := (-1 : Int32)) hx hb dX11_count_126 (by decide) ?_
    have hP9 := hP.sub (ws' := (vX11_count cI cZ h h_all h_has h_line h_act h_pile h_comes h_leaves h_tried h_met f_size f_next f_where f_token f_number f_sign f_word f_wrong f_open f_lines f_acts r_all)) [0, 1] rfl
    have hD9 := hD.sub (ws' := (vX11_count cI cZ h h_all h_has h_line h_act h_pile h_comes h_leaves h_tried h_met f_size f_next f_where f_token f_number f_sign f_word f_wrong f_open f_lines f_acts r_all)) [0, 1] (by decide) rfl
    exact W.iret (v := (-1 : Int32)) hx hb hr (fun t ht hW => ⟨⟨(-1 : Int32), (), rfl, hw, by rw [ht]; exact hP9, va_K.moved hW.alike hK, hD9⟩, hS.F ht⟩) hS.2.2 dX11_count_127
  · have hw := hw.1 (ey_1.symm.trans (Int32.toInt_inj.mp (c_2.trans (by decide))))
    refine lv_tableIn (tgt := 56) hx hb dX11_count_1 (by omega) (by omega) (by rw [c_2]; rfl) (by decide) ?_
    refine lv_aload_n hx hb dX11_count_56 rfl (lv_at hl 0 rfl) ?_
    refine va_get (D := (dC, dI)) (ci := 10) (v := .ref h_all) (C := RX11) (T := TX11) (N := 20) hx hb hts gu_X11 hown hK hP 0 rfl rfl 0 (by decide) (hts _ gw_607) (fun _ h9 => h9) rfl dX11_count_57 ?_
    refine lv_iconst (v := (0 : Int32)) hx hb dX11_count_60 (by decide) ?_
    obtain ⟨h_3, hw⟩ := hw
    refine va_iald hx hb hK hP 1 0 rfl rfl h_3 dX11_count_61 ?_
    have hP9 := hP.sub (ws' := (vX11_count cI cZ h h_all h_has h_line h_act h_pile h_comes h_leaves h_tried h_met f_size f_next f_where f_token f_number f_sign f_word f_wrong f_open f_lines f_acts r_all)) [0, 1] rfl
    have hD9 := hD.sub (ws' := (vX11_count cI cZ h h_all h_has h_line h_act h_pile h_comes h_leaves h_tried h_met f_size f_next f_where f_token f_number f_sign f_word f_wrong f_open f_lines f_acts r_all)) [0, 1] (by decide) rfl
    exact W.iret (v := (r_all (0 : Int32).toNatClampNeg)) hx hb hr (fun t ht hW => ⟨⟨(r_all (0 : Int32).toNatClampNeg), (), rfl, hw, by rw [ht]; exact hP9, va_K.moved hW.alike hK, hD9⟩, hS.F ht⟩) hS.2.2 dX11_count_62
  · have hw := hw.2.1 (ey_1.symm.trans (Int32.toInt_inj.mp (c_2.trans (by decide))))
    refine lv_tableIn (tgt := 63) hx hb dX11_count_1 (by omega) (by omega) (by rw [c_2]; rfl) (by decide) ?_
    refine lv_aload_n hx hb dX11_count_63 rfl (lv_at hl 0 rfl) ?_
    refine va_get (D := (dC, dI)) (ci := 10) (v := .ref h_all) (C := RX11) (T := TX11) (N := 20) hx hb hts gu_X11 hown hK hP 0 rfl rfl 0 (by decide) (hts _ gw_607) (fun _ h9 => h9) rfl dX11_count_64 ?_
    refine lv_iconst (v := (1 : Int32)) hx hb dX11_count_67 (by decide) ?_
    obtain ⟨h_4, hw⟩ := hw
    refine va_iald hx hb hK hP 1 0 rfl rfl h_4 dX11_count_68 ?_
    have hP9 := hP.sub (ws' := (vX11_count cI cZ h h_all h_has h_line h_act h_pile h_comes h_leaves h_tried h_met f_size f_next f_where f_token f_number f_sign f_word f_wrong f_open f_lines f_acts r_all)) [0, 1] rfl
    have hD9 := hD.sub (ws' := (vX11_count cI cZ h h_all h_has h_line h_act h_pile h_comes h_leaves h_tried h_met f_size f_next f_where f_token f_number f_sign f_word f_wrong f_open f_lines f_acts r_all)) [0, 1] (by decide) rfl
    exact W.iret (v := (r_all (1 : Int32).toNatClampNeg)) hx hb hr (fun t ht hW => ⟨⟨(r_all (1 : Int32).toNatClampNeg), (), rfl, hw, by rw [ht]; exact hP9, va_K.moved hW.alike hK, hD9⟩, hS.F ht⟩) hS.2.2 dX11_count_69
  · have hw := hw.2.2.1 (ey_1.symm.trans (Int32.toInt_inj.mp (c_2.trans (by decide))))
    refine lv_tableIn (tgt := 70) hx hb dX11_count_1 (by omega) (by omega) (by rw [c_2]; rfl) (by decide) ?_
    refine lv_aload_n hx hb dX11_count_70 rfl (lv_at hl 0 rfl) ?_
    refine va_get (D := (dC, dI)) (ci := 10) (v := .ref h_all) (C := RX11) (T := TX11) (N := 20) hx hb hts gu_X11 hown hK hP 0 rfl rfl 0 (by decide) (hts _ gw_607) (fun _ h9 => h9) rfl dX11_count_71 ?_
    refine lv_iconst (v := (2 : Int32)) hx hb dX11_count_74 (by decide) ?_
    obtain ⟨h_5, hw⟩ := hw
    refine va_iald hx hb hK hP 1 0 rfl rfl h_5 dX11_count_75 ?_
    have hP9 := hP.sub (ws' := (vX11_count cI cZ h h_all h_has h_line h_act h_pile h_comes h_leaves h_tried h_met f_size f_next f_where f_token f_number f_sign f_word f_wrong f_open f_lines f_acts r_all)) [0, 1] rfl
    have hD9 := hD.sub (ws' := (vX11_count cI cZ h h_all h_has h_line h_act h_pile h_comes h_leaves h_tried h_met f_size f_next f_where f_token f_number f_sign f_word f_wrong f_open f_lines f_acts r_all)) [0, 1] (by decide) rfl
    exact W.iret (v := (r_all (2 : Int32).toNatClampNeg)) hx hb hr (fun t ht hW => ⟨⟨(r_all (2 : Int32).toNatClampNeg), (), rfl, hw, by rw [ht]; exact hP9, va_K.moved hW.alike hK, hD9⟩, hS.F ht⟩) hS.2.2 dX11_count_76
  · have hw := hw.2.2.2.1 (ey_1.symm.trans (Int32.toInt_inj.mp (c_2.trans (by decide))))
    refine lv_tableIn (tgt := 77) hx hb dX11_count_1 (by omega) (by omega) (by rw [c_2]; rfl) (by decide) ?_
    refine lv_aload_n hx hb dX11_count_77 rfl (lv_at hl 0 rfl) ?_
    refine va_get (D := (dC, dI)) (ci := 10) (v := .ref h_all) (C := RX11) (T := TX11) (N := 20) hx hb hts gu_X11 hown hK hP 0 rfl rfl 0 (by decide) (hts _ gw_607) (fun _ h9 => h9) rfl dX11_count_78 ?_
    refine lv_iconst (v := (3 : Int32)) hx hb dX11_count_81 (by decide) ?_
    obtain ⟨h_6, hw⟩ := hw
    refine va_iald hx hb hK hP 1 0 rfl rfl h_6 dX11_count_82 ?_
    have hP9 := hP.sub (ws' := (vX11_count cI cZ h h_all h_has h_line h_act h_pile h_comes h_leaves h_tried h_met f_size f_next f_where f_token f_number f_sign f_word f_wrong f_open f_lines f_acts r_all)) [0, 1] rfl
    have hD9 := hD.sub (ws' := (vX11_count cI cZ h h_all h_has h_line h_act h_pile h_comes h_leaves h_tried h_met f_size f_next f_where f_token f_number f_sign f_word f_wrong f_open f_lines f_acts r_all)) [0, 1] (by decide) rfl
    exact W.iret (v := (r_all (3 : Int32).toNatClampNeg)) hx hb hr (fun t ht hW => ⟨⟨(r_all (3 : Int32).toNatClampNeg), (), rfl, hw, by rw [ht]; exact hP9, va_K.moved hW.alike hK, hD9⟩, hS.F ht⟩) hS.2.2 dX11_count_83
  · have hw := hw.2.2.2.2.1 (ey_1.symm.trans (Int32.toInt_inj.mp (c_2.trans (by decide))))
    refine lv_tableIn (tgt := 84) hx hb dX11_count_1 (by omega) (by omega) (by rw [c_2]; rfl) (by decide) ?_
    refine lv_aload_n hx hb dX11_count_84 rfl (lv_at hl 0 rfl) ?_
    refine lv_iconst (v := (1 : Int32)) hx hb dX11_count_85 (by decide) ?_
    have hPc := hP.sub (ws' := [(h, .inr (10, [.ref h_all, .ref h_has, .int f_size, .int f_next, .int f_where, .int f_token, .int f_number, .int f_sign, .int f_word, .int f_wrong, .int f_open, .int f_lines, .int f_acts, .ref h_line, .ref h_act, .ref h_pile, .ref h_comes, .ref h_leaves, .ref h_tried, .ref h_met])), (h_all, .inl (cI, 53700, .inl r_all))]) [0, 1] rfl
    have hDc := hD.sub (ws' := [(h, .inr (10, [.ref h_all, .ref h_has, .int f_size, .int f_next, .int f_where, .int f_token, .int f_number, .int f_sign, .int f_word, .int f_wrong, .int f_open, .int f_lines, .int f_acts, .ref h_line, .ref h_act, .ref h_pile, .ref h_comes, .ref h_leaves, .ref h_tried, .ref h_met])), (h_all, .inl (cI, 53700, .inl r_all))]) [0, 1] (by decide) rfl
    have hFc := va_free (wc := [(h, .inr (10, [.ref h_all, .ref h_has, .int f_size, .int f_next, .int f_where, .int f_token, .int f_number, .int f_sign, .int f_word, .int f_wrong, .int f_open, .int f_lines, .int f_acts, .ref h_line, .ref h_act, .ref h_pile, .ref h_comes, .ref h_leaves, .ref h_tried, .ref h_met])), (h_all, .inl (cI, 53700, .inl r_all))]) hD hS hA [0, 1] rfl
    refine va_calli (va_runV (As := [.int (1 : Int32)]) (rest := []) ⟨hx, hb, hml, hown, hts⟩ (kX11_iceOf l dC dI cI cZ cO cW h h_all h_has h_line h_act h_pile h_comes h_leaves h_tried h_met H.size f_size f_next f_where f_token f_number f_sign f_word f_wrong f_open f_lines f_acts r_all (1 : Int32) _ hw) (cwV 1 hts (gV gw_830 gw_831 gw_832 gw_622 (gM gw_825)) rfl rfl rfl (by decide +kernel) ⟨Nat.le_of_ble_eq_true rfl, Nat.le_of_ble_eq_true rfl⟩) (pv_of hPc hK hDc (va_recv hK hPc (ci := 10) (q0 := 0) rfl rfl)) rfl rfl hl.1 rfl (lv_room (Nat.le_of_ble_eq_true rfl)) dX11_count_86 ⟨Nat.zero_le _, Nat.zero_le _⟩) hS (fun q _ h => hFc q h) hFc (fun r_7 u t H locs ht hvm hw hB hz1 hk1 hS => ?_)
    obtain ⟨hP, hD⟩ := af_join (wr := []) (w1 := [(h, .inr (10, [.ref h_all, .ref h_has, .int f_size, .int f_next, .int f_where, .int f_token, .int f_number, .int f_sign, .int f_word, .int f_wrong, .int f_open, .int f_lines, .int f_acts, .ref h_line, .ref h_act, .ref h_pile, .ref h_comes, .ref h_leaves, .ref h_tried, .ref h_met])), (h_all, .inl (cI, 53700, .inl r_all))]) hB ht hP hD [0, 1] [] rfl rfl (by decide) (by decide) hk1 hFc
    have hP : va_P (dC, dI) vwCl [(h, .inr (10, [.ref h_all, .ref h_has, .int f_size, .int f_next, .int f_where, .int f_token, .int f_number, .int f_sign, .int f_word, .int f_wrong, .int f_open, .int f_lines, .int f_acts, .ref h_line, .ref h_act, .ref h_pile, .ref h_comes, .ref h_leaves, .ref h_tried, .ref h_met])), (h_all, .inl (cI, 53700, .inl r_all))] _ := hP
    have hD : va_D A [(h, .inr (10, [.ref h_all, .ref h_has, .int f_size, .int f_next, .int f_where, .int f_token, .int f_number, .int f_sign, .int f_word, .int f_wrong, .int f_open, .int f_lines, .int f_acts, .ref h_line, .ref h_act, .ref h_pile, .ref h_comes, .ref h_leaves, .ref h_tried, .ref h_met])), (h_all, .inl (cI, 53700, .inl r_all))] := hD
    have hP9 := hP.sub (ws' := (vX11_count cI cZ h h_all h_has h_line h_act h_pile h_comes h_leaves h_tried h_met f_size f_next f_where f_token f_number f_sign f_word f_wrong f_open f_lines f_acts r_all)) [0, 1] rfl
    have hD9 := hD.sub (ws' := (vX11_count cI cZ h h_all h_has h_line h_act h_pile h_comes h_leaves h_tried h_met f_size f_next f_where f_token f_number f_sign f_word f_wrong f_open f_lines f_acts r_all)) [0, 1] (by decide) rfl
    exact W.iret (v := r_7) hx hb hr (fun t ht hW => ⟨⟨r_7, (), rfl, hw, by rw [ht]; exact hP9, va_K.moved hW.alike hK, hD9⟩, hS.F ht⟩) hS.2.2 dX11_count_89
  · have hw := hw.2.2.2.2.2.1 (ey_1.symm.trans (Int32.toInt_inj.mp (c_2.trans (by decide))))
    refine lv_tableIn (tgt := 90) hx hb dX11_count_1 (by omega) (by omega) (by rw [c_2]; rfl) (by decide) ?_
    refine lv_aload_n hx hb dX11_count_90 rfl (lv_at hl 0 rfl) ?_
    refine lv_iconst (v := (2 : Int32)) hx hb dX11_count_91 (by decide) ?_
    have hPc := hP.sub (ws' := [(h, .inr (10, [.ref h_all, .ref h_has, .int f_size, .int f_next, .int f_where, .int f_token, .int f_number, .int f_sign, .int f_word, .int f_wrong, .int f_open, .int f_lines, .int f_acts, .ref h_line, .ref h_act, .ref h_pile, .ref h_comes, .ref h_leaves, .ref h_tried, .ref h_met])), (h_all, .inl (cI, 53700, .inl r_all))]) [0, 1] rfl
    have hDc := hD.sub (ws' := [(h, .inr (10, [.ref h_all, .ref h_has, .int f_size, .int f_next, .int f_where, .int f_token, .int f_number, .int f_sign, .int f_word, .int f_wrong, .int f_open, .int f_lines, .int f_acts, .ref h_line, .ref h_act, .ref h_pile, .ref h_comes, .ref h_leaves, .ref h_tried, .ref h_met])), (h_all, .inl (cI, 53700, .inl r_all))]) [0, 1] (by decide) rfl
    have hFc := va_free (wc := [(h, .inr (10, [.ref h_all, .ref h_has, .int f_size, .int f_next, .int f_where, .int f_token, .int f_number, .int f_sign, .int f_word, .int f_wrong, .int f_open, .int f_lines, .int f_acts, .ref h_line, .ref h_act, .ref h_pile, .ref h_comes, .ref h_leaves, .ref h_tried, .ref h_met])), (h_all, .inl (cI, 53700, .inl r_all))]) hD hS hA [0, 1] rfl
    refine va_calli (va_runV (As := [.int (2 : Int32)]) (rest := []) ⟨hx, hb, hml, hown, hts⟩ (kX11_iceOf l dC dI cI cZ cO cW h h_all h_has h_line h_act h_pile h_comes h_leaves h_tried h_met H.size f_size f_next f_where f_token f_number f_sign f_word f_wrong f_open f_lines f_acts r_all (2 : Int32) _ hw) (cwV 1 hts (gV gw_830 gw_831 gw_832 gw_622 (gM gw_825)) rfl rfl rfl (by decide +kernel) ⟨Nat.le_of_ble_eq_true rfl, Nat.le_of_ble_eq_true rfl⟩) (pv_of hPc hK hDc (va_recv hK hPc (ci := 10) (q0 := 0) rfl rfl)) rfl rfl hl.1 rfl (lv_room (Nat.le_of_ble_eq_true rfl)) dX11_count_92 ⟨Nat.zero_le _, Nat.zero_le _⟩) hS (fun q _ h => hFc q h) hFc (fun r_8 u t H locs ht hvm hw hB hz1 hk1 hS => ?_)
    obtain ⟨hP, hD⟩ := af_join (wr := []) (w1 := [(h, .inr (10, [.ref h_all, .ref h_has, .int f_size, .int f_next, .int f_where, .int f_token, .int f_number, .int f_sign, .int f_word, .int f_wrong, .int f_open, .int f_lines, .int f_acts, .ref h_line, .ref h_act, .ref h_pile, .ref h_comes, .ref h_leaves, .ref h_tried, .ref h_met])), (h_all, .inl (cI, 53700, .inl r_all))]) hB ht hP hD [0, 1] [] rfl rfl (by decide) (by decide) hk1 hFc
    have hP : va_P (dC, dI) vwCl [(h, .inr (10, [.ref h_all, .ref h_has, .int f_size, .int f_next, .int f_where, .int f_token, .int f_number, .int f_sign, .int f_word, .int f_wrong, .int f_open, .int f_lines, .int f_acts, .ref h_line, .ref h_act, .ref h_pile, .ref h_comes, .ref h_leaves, .ref h_tried, .ref h_met])), (h_all, .inl (cI, 53700, .inl r_all))] _ := hP
    have hD : va_D A [(h, .inr (10, [.ref h_all, .ref h_has, .int f_size, .int f_next, .int f_where, .int f_token, .int f_number, .int f_sign, .int f_word, .int f_wrong, .int f_open, .int f_lines, .int f_acts, .ref h_line, .ref h_act, .ref h_pile, .ref h_comes, .ref h_leaves, .ref h_tried, .ref h_met])), (h_all, .inl (cI, 53700, .inl r_all))] := hD
    have hP9 := hP.sub (ws' := (vX11_count cI cZ h h_all h_has h_line h_act h_pile h_comes h_leaves h_tried h_met f_size f_next f_where f_token f_number f_sign f_word f_wrong f_open f_lines f_acts r_all)) [0, 1] rfl
    have hD9 := hD.sub (ws' := (vX11_count cI cZ h h_all h_has h_line h_act h_pile h_comes h_leaves h_tried h_met f_size f_next f_where f_token f_number f_sign f_word f_wrong f_open f_lines f_acts r_all)) [0, 1] (by decide) rfl
    exact W.iret (v := r_8) hx hb hr (fun t ht hW => ⟨⟨r_8, (), rfl, hw, by rw [ht]; exact hP9, va_K.moved hW.alike hK, hD9⟩, hS.F ht⟩) hS.2.2 dX11_count_95
  · have hw := hw.2.2.2.2.2.2.1 (ey_1.symm.trans (Int32.toInt_inj.mp (c_2.trans (by decide))))
    refine lv_tableIn (tgt := 96) hx hb dX11_count_1 (by omega) (by omega) (by rw [c_2]; rfl) (by decide) ?_
    refine lv_aload_n hx hb dX11_count_96 rfl (lv_at hl 0 rfl) ?_
    refine va_get (D := (dC, dI)) (ci := 10) (v := .ref h_all) (C := RX11) (T := TX11) (N := 20) hx hb hts gu_X11 hown hK hP 0 rfl rfl 0 (by decide) (hts _ gw_607) (fun _ h9 => h9) rfl dX11_count_97 ?_
    refine lv_iconst (v := (4 : Int32)) hx hb dX11_count_100 (by decide) ?_
    obtain ⟨h_9, hw⟩ := hw
    refine va_iald hx hb hK hP 1 0 rfl rfl h_9 dX11_count_101 ?_
    have hP9 := hP.sub (ws' := (vX11_count cI cZ h h_all h_has h_line h_act h_pile h_comes h_leaves h_tried h_met f_size f_next f_where f_token f_number f_sign f_word f_wrong f_open f_lines f_acts r_all)) [0, 1] rfl
    have hD9 := hD.sub (ws' := (vX11_count cI cZ h h_all h_has h_line h_act h_pile h_comes h_leaves h_tried h_met f_size f_next f_where f_token f_number f_sign f_word f_wrong f_open f_lines f_acts r_all)) [0, 1] (by decide) rfl
    exact W.iret (v := (r_all (4 : Int32).toNatClampNeg)) hx hb hr (fun t ht hW => ⟨⟨(r_all (4 : Int32).toNatClampNeg), (), rfl, hw, by rw [ht]; exact hP9, va_K.moved hW.alike hK, hD9⟩, hS.F ht⟩) hS.2.2 dX11_count_102
  · have hw := hw.2.2.2.2.2.2.2.1 (ey_1.symm.trans (Int32.toInt_inj.mp (c_2.trans (by decide))))
    refine lv_tableIn (tgt := 103) hx hb dX11_count_1 (by omega) (by omega) (by rw [c_2]; rfl) (by decide) ?_
    refine lv_aload_n hx hb dX11_count_103 rfl (lv_at hl 0 rfl) ?_
    refine va_get (D := (dC, dI)) (ci := 10) (v := .ref h_all) (C := RX11) (T := TX11) (N := 20) hx hb hts gu_X11 hown hK hP 0 rfl rfl 0 (by decide) (hts _ gw_607) (fun _ h9 => h9) rfl dX11_count_104 ?_
    refine lv_iconst (v := (5 : Int32)) hx hb dX11_count_107 (by decide) ?_
    obtain ⟨h_10, hw⟩ := hw
    refine va_iald hx hb hK hP 1 0 rfl rfl h_10 dX11_count_108 ?_
    have hP9 := hP.sub (ws' := (vX11_count cI cZ h h_all h_has h_line h_act h_pile h_comes h_leaves h_tried h_met f_size f_next f_where f_token f_number f_sign f_word f_wrong f_open f_lines f_acts r_all)) [0, 1] rfl
    have hD9 := hD.sub (ws' := (vX11_count cI cZ h h_all h_has h_line h_act h_pile h_comes h_leaves h_tried h_met f_size f_next f_where f_token f_number f_sign f_word f_wrong f_open f_lines f_acts r_all)) [0, 1] (by decide) rfl
    exact W.iret (v := (r_all (5 : Int32).toNatClampNeg)) hx hb hr (fun t ht hW => ⟨⟨(r_all (5 : Int32).toNatClampNeg), (), rfl, hw, by rw [ht]; exact hP9, va_K.moved hW.alike hK, hD9⟩, hS.F ht⟩) hS.2.2 dX11_count_109
  · have hw := hw.2.2.2.2.2.2.2.2.1 (ey_1.symm.trans (Int32.toInt_inj.mp (c_2.trans (by decide))))
    refine lv_tableIn (tgt := 110) hx hb dX11_count_1 (by omega) (by omega) (by rw [c_2]; rfl) (by decide) ?_
    refine lv_aload_n hx hb dX11_count_110 rfl (lv_at hl 0 rfl) ?_
    refine va_get (D := (dC, dI)) (ci := 10) (v := .ref h_all) (C := RX11) (T := TX11) (N := 20) hx hb hts gu_X11 hown hK hP 0 rfl rfl 0 (by decide) (hts _ gw_607) (fun _ h9 => h9) rfl dX11_count_111 ?_
    refine lv_bipush (v := (6 : Int32)) hx hb dX11_count_114 (by decide) ?_
    obtain ⟨h_11, hw⟩ := hw
    refine va_iald hx hb hK hP 1 0 rfl rfl h_11 dX11_count_116 ?_
    have hP9 := hP.sub (ws' := (vX11_count cI cZ h h_all h_has h_line h_act h_pile h_comes h_leaves h_tried h_met f_size f_next f_where f_token f_number f_sign f_word f_wrong f_open f_lines f_acts r_all)) [0, 1] rfl
    have hD9 := hD.sub (ws' := (vX11_count cI cZ h h_all h_has h_line h_act h_pile h_comes h_leaves h_tried h_met f_size f_next f_where f_token f_number f_sign f_word f_wrong f_open f_lines f_acts r_all)) [0, 1] (by decide) rfl
    exact W.iret (v := (r_all (6 : Int32).toNatClampNeg)) hx hb hr (fun t ht hW => ⟨⟨(r_all (6 : Int32).toNatClampNeg), (), rfl, hw, by rw [ht]; exact hP9, va_K.moved hW.alike hK, hD9⟩, hS.F ht⟩) hS.2.2 dX11_count_117
  · have hw := hw.2.2.2.2.2.2.2.2.2.1 (ey_1.symm.trans (Int32.toInt_inj.mp (c_2.trans (by decide))))
    refine lv_tableIn (tgt := 118) hx hb dX11_count_1 (by omega) (by omega) (by rw [c_2]; rfl) (by decide) ?_
    refine lv_aload_n hx hb dX11_count_118 rfl (lv_at hl 0 rfl) ?_
    refine va_get (D := (dC, dI)) (ci := 10) (v := .ref h_all) (C := RX11) (T := TX11) (N := 20) hx hb hts gu_X11 hown hK hP 0 rfl rfl 0 (by decide) (hts _ gw_607) (fun _ h9 => h9) rfl dX11_count_119 ?_
    refine lv_bipush (v := (7 : Int32)) hx hb dX11_count_122 (by decide) ?_
    obtain ⟨h_12, hw⟩ := hw
    refine va_iald hx hb hK hP 1 0 rfl rfl h_12 dX11_count_124 ?_
    have hP9 := hP.sub (ws' := (vX11_count cI cZ h h_all h_has h_line h_act h_pile h_comes h_leaves h_tried h_met f_size f_next f_where f_token f_number f_sign f_word f_wrong f_open f_lines f_acts r_all)) [0, 1] rfl
    have hD9 := hD.sub (ws' := (vX11_count cI cZ h h_all h_has h_line h_act h_pile h_comes h_leaves h_tried h_met f_size f_next f_where f_token f_number f_sign f_word f_wrong f_open f_lines f_acts r_all)) [0, 1] (by decide) rfl
    exact W.iret (v := (r_all (7 : Int32).toNatClampNeg)) hx hb hr (fun t ht hW => ⟨⟨(r_all (7 : Int32).toNatClampNeg), (), rfl, hw, by rw [ht]; exact hP9, va_K.moved hW.alike hK, hD9⟩, hS.F ht⟩) hS.2.2 dX11_count_125
set_option maxHeartbeats 4000000 in
set_option maxRecDepth 100000 in
theorem kX11_count (l : Launch) (dC : Nat → ClassId) (dI : Nat → Nat → Nat) (cI cZ cO cW : ClassId) (h h_all h_has h_line h_act h_pile h_comes h_leaves h_tried h_met : Nat)  (sz : Nat) (f_size : Int32) (f_next : Int32) (f_where : Int32) (f_token : Int32) (f_number : Int32) (f_sign : Int32) (f_word : Int32) (f_wrong : Int32) (f_open : Int32) (f_lines : Int32) (f_acts : Int32) (r_all : Nat → Int32) (x1 : Int32) (Q : Int32 → Prop) (hw : wX11_count Q x1 r_all) : Met l yX11_count zsX11_count rmX11_count (va_Pc [.ref h, .int x1] (fun U => U.heap.size = sz ∧ va_P (dC, dI) vwCl (vX11_count cI cZ h h_all h_has h_line h_act h_pile h_comes h_leaves h_tried h_met f_size f_next f_where f_token f_number f_sign f_word f_wrong f_open f_lines f_acts r_all) U.heap ∧ va_K (dC, dI) vwCl (tysA cI cZ cO cW) U ∧ va_D (fun _ => True) (vX11_count cI cZ h h_all h_has h_line h_act h_pile h_comes h_leaves h_tried h_met f_size f_next f_where f_token f_number f_sign f_word f_wrong f_open f_lines f_acts r_all))) (qX11_count dC dI cI cZ cO cW h h_all h_has h_line h_act h_pile h_comes h_leaves h_tried h_met f_size f_next f_where f_token f_number f_sign f_word f_wrong f_open f_lines f_acts r_all Q (va_A (vX11_count cI cZ h h_all h_has h_line h_act h_pile h_comes h_leaves h_tried h_met f_size f_next f_where f_token f_number f_sign f_word f_wrong f_open f_lines f_acts r_all) sz)) 0 0 (va_A (vX11_count cI cZ h h_all h_has h_line h_act h_pile h_comes h_leaves h_tried h_met f_size f_next f_where f_token f_number f_sign f_word f_wrong f_open f_lines f_acts r_all) sz) := by
  refine Met.ofW (cc := cX11_count) (maxL := 2) (ret := (some .int)) (by decide) rfl ?_
  intro p e s m args below meth c s₁ B hml hv
  obtain ⟨rfl, hsz, hP, hK, hD0⟩ := hv
  subst hsz
  have hC : Cx p s m ([.ref h, .int x1] : List Value).toArray meth c cX11_count (some .int) 2 GW RX11 := ⟨B.exec, B.bytes, B.returns, hml, findClass_of_methodNamed B.named, fun w h => atoms_spec (ws := zsX11_count) B.pre w (List.mem_cons_of_mem _ h), B.notSynchronized⟩
  have hD := hD0.self (sz := s.heap.size)
  generalize hAe : va_A (vX11_count cI cZ h h_all h_has h_line h_act h_pile h_comes h_leaves h_tried h_met f_size f_next f_where f_token f_number f_sign f_word f_wrong f_open f_lines f_acts r_all) s.heap.size = A at hD ⊢
  have hA : ∀ q : Nat, s.heap.size ≤ q → A q := fun q h => by rw [← hAe]; exact Or.inr h
  have hl := lv_entry ([.ref h, .int x1]) (n := 2) (Nat.le_of_ble_eq_true rfl)
  rw [lg_entry_eq]
  generalize (lg_sl ([.ref h, .int x1]) ++ List.replicate (2 - (lg_sl ([.ref h, .int x1])).length) Slot.unset).toArray = ls at hl ⊢
  exact tX11_count_e hC hK hA x1 r_all _ _ ls hw hP hD va_S.rf hl

/-! X11_passage -/
def wX11_passage (Q : Int32 → (Nat → Int32) → Prop) (x1 : Int32) (x2 : Int32) (x3 : Int32) (r_all : Nat → Int32) : Prop :=
  (vp_in (7 : Int32) 53700 ∧ (((r_all (7 : Int32).toNatClampNeg) = (6 : Int32) → (Q (-1 : Int32) r_all)) ∧ (¬ (r_all (7 : Int32).toNatClampNeg) = (6 : Int32) → (wX11_isIn (fun r_3 => ((r_3 = 0 → (Q (-1 : Int32) r_all)) ∧ (¬ r_3 = 0 → (wX11_isIn (fun r_5 => ((r_5 = 0 → (Q (-1 : Int32) r_all)) ∧ (¬ r_5 = 0 → (wX11_isIn (fun r_7 => ((¬ r_7 = 0 → (vp_in (7 : Int32) 53700 ∧ (vp_in ((20 : Int32) + ((3 : Int32) * (r_all (7 : Int32).toNatClampNeg))) 53700 ∧ (vp_in (((20 : Int32) + ((3 : Int32) * (r_all (7 : Int32).toNatClampNeg))) + (1 : Int32)) 53700 ∧ (vp_in (((20 : Int32) + ((3 : Int32) * (r_all (7 : Int32).toNatClampNeg))) + (2 : Int32)) 53700 ∧ (vp_in (7 : Int32) 53700 ∧ (vp_in (7 : Int32) 53700 ∧ (vp_in (7 : Int32) 53700 ∧ (Q (((upd (upd (upd (upd r_all ((20 : Int32) + ((3 : Int32) * (r_all (7 : Int32).toNatClampNeg))).toNatClampNeg x1) (((20 : Int32) + ((3 : Int32) * (r_all (7 : Int32).toNatClampNeg))) + (1 : Int32)).toNatClampNeg x2) (((20 : Int32) + ((3 : Int32) * (r_all (7 : Int32).toNatClampNeg))) + (2 : Int32)).toNatClampNeg x3) (7 : Int32).toNatClampNeg (((upd (upd (upd r_all ((20 : Int32) + ((3 : Int32) * (r_all (7 : Int32).toNatClampNeg))).toNatClampNeg x1) (((20 : Int32) + ((3 : Int32) * (r_all (7 : Int32).toNatClampNeg))) + (1 : Int32)).toNatClampNeg x2) (((20 : Int32) + ((3 : Int32) * (r_all (7 : Int32).toNatClampNeg))) + (2 : Int32)).toNatClampNeg x3) (7 : Int32).toNatClampNeg) + (1 : Int32))) (7 : Int32).toNatClampNeg) - (1 : Int32)) (upd (upd (upd (upd r_all ((20 : Int32) + ((3 : Int32) * (r_all (7 : Int32).toNatClampNeg))).toNatClampNeg x1) (((20 : Int32) + ((3 : Int32) * (r_all (7 : Int32).toNatClampNeg))) + (1 : Int32)).toNatClampNeg x2) (((20 : Int32) + ((3 : Int32) * (r_all (7 : Int32).toNatClampNeg))) + (2 : Int32)).toNatClampNeg x3) (7 : Int32).toNatClampNeg (((upd (upd (upd r_all ((20 : Int32) + ((3 : Int32) * (r_all (7 : Int32).toNatClampNeg))).toNatClampNeg x1) (((20 : Int32) + ((3 : Int32) * (r_all (7 : Int32).toNatClampNeg))) + (1 : Int32)).toNatClampNeg x2) (((20 : Int32) + ((3 : Int32) * (r_all (7 : Int32).toNatClampNeg))) + (2 : Int32)).toNatClampNeg x3) (7 : Int32).toNatClampNeg) + (1 : Int32)))))))))))) ∧ (r_7 = 0 → (Q (-1 : Int32) r_all)))) x3 (1 : Int32) (100 : Int32))))) x2 (1 : Int32) (100 : Int32))))) x1 (0 : Int32) (1000 : Int32)))))
abbrev vX11_passage (cI cZ : ClassId) (h h_all h_has h_line h_act h_pile h_comes h_leaves h_tried h_met : Nat) (f_size : Int32) (f_next : Int32) (f_where : Int32) (f_token : Int32) (f_number : Int32) (f_sign : Int32) (f_word : Int32) (f_wrong : Int32) (f_open : Int32) (f_lines : Int32) (f_acts : Int32) (r_all : Nat → Int32) : va_W := [(h, .inr (10, [.ref h_all, .ref h_has, .int f_size, .int f_next, .int f_where, .int f_token, .int f_number, .int f_sign, .int f_word, .int f_wrong, .int f_open, .int f_lines, .int f_acts, .ref h_line, .ref h_act, .ref h_pile, .ref h_comes, .ref h_leaves, .ref h_tried, .ref h_met])), (h_all, .inl (cI, 53700, .inl r_all))]
abbrev rmX11_passage : Room := { frames := 1, cells := 0, slots := 0, locals := 22 }
abbrev qX11_passage (dC : Nat → ClassId) (dI : Nat → Nat → Nat) (cI cZ cO cW : ClassId) (h h_all h_has h_line h_act h_pile h_comes h_leaves h_tried h_met : Nat) (f_size : Int32) (f_next : Int32) (f_where : Int32) (f_token : Int32) (f_number : Int32) (f_sign : Int32) (f_word : Int32) (f_wrong : Int32) (f_open : Int32) (f_lines : Int32) (f_acts : Int32) (Q : Int32 → (Nat → Int32) → Prop) (A : Nat → Prop) : Array Value → State → Outcome → State → Prop := va_Qi (fun (r : Int32) (u : (Nat → Int32)) => Q r u) (fun (u : (Nat → Int32)) (t : State) => va_P (dC, dI) vwCl (vX11_passage cI cZ h h_all h_has h_line h_act h_pile h_comes h_leaves h_tried h_met f_size f_next f_where f_token f_number f_sign f_word f_wrong f_open f_lines f_acts u) t.heap ∧ va_K (dC, dI) vwCl (tysA cI cZ cO cW) t ∧ va_D A (vX11_passage cI cZ h h_all h_has h_line h_act h_pile h_comes h_leaves h_tried h_met f_size f_next f_where f_token f_number f_sign f_word f_wrong f_open f_lines f_acts u)) A
def zsX11_passage : List Cond := Cond.code yX11_passage cX11_passage 5 (some .int) :: GW
set_option maxHeartbeats 4000000 in
set_option maxRecDepth 100000 in
theorem tX11_passage_e {p : Program} {l : Launch} {e : Env} {s : State} {m : MethodId} {args : Array Value} {below : List Frame} {meth : Method} {c : Code} {dC : Nat → ClassId} {dI : Nat → Nat → Nat} {cI cZ cO cW : ClassId} {A : Nat → Prop} {h h_all h_has h_line h_act h_pile h_comes h_leaves h_tried h_met : Nat} {f_size f_next f_where f_token f_number f_sign f_word f_wrong f_open f_lines f_acts : Int32} {Q : Int32 → (Nat → Int32) → Prop} (hC : Cx p s m args meth c cX11_passage (some .int) 5 GW RX11) (hK : va_K (dC, dI) vwCl (tysA cI cZ cO cW) s) (hA : ∀ q : Nat, s.heap.size ≤ q → A q) :
    ∀ (x1 : Int32) (x2 : Int32) (x3 : Int32) (r_all : Nat → Int32) (H : Heap) (locs : List Loc) (ls : Array Slot), wX11_passage Q x1 x2 x3 r_all → va_P (dC, dI) vwCl (vX11_passage cI cZ h h_all h_has h_line h_act h_pile h_comes h_leaves h_tried h_met f_size f_next f_where f_token f_number f_sign f_word f_wrong f_open f_lines f_acts r_all) H → va_D A (vX11_passage cI cZ h h_all h_has h_line h_act h_pile h_comes h_leaves h_tried h_met f_size f_next f_where f_token f_number f_sign f_word f_wrong f_open f_lines f_acts r_all) → va_S A s.heap H locs → lv_has ls 5 [(0, .ref h), (1, .int x1), (2, .int x2), (3, .int x3)] → W p l e rmX11_passage s m args below meth c H locs 0 0 (MQ below (qX11_passage dC dI cI cZ cO cW h h_all h_has h_line h_act h_pile h_comes h_leaves h_tried h_met f_size f_next f_where f_token f_number f_sign f_word f_wrong f_open f_lines f_acts Q A) args s 0 0 A) (F0 m 0 ls []) := by
  obtain ⟨hx, hb, hr, hml, hown, hts, hlocks⟩ := id hC
  intro x1 x2 x3 r_all H locs ls hw hP hD hS hl
  refine lv_aload_n hx hb dX11_passage_0 rfl (lv_at hl 0 rfl) ?_
  refine va_get (D := (dC, dI)) (ci := 10) (v := .ref h_all) (C := RX11) (T := TX11) (N := 20) hx hb hts gu_X11 hown hK hP 0 rfl rfl 0 (by decide) (hts _ gw_607) (fun _ h9 => h9) rfl dX11_passage_1 ?_
  refine lv_bipush (v := (7 : Int32)) hx hb dX11_passage_4 (by decide) ?_
  obtain ⟨h_1, hw⟩ := hw
  refine va_iald hx hb hK hP 1 0 rfl rfl h_1 dX11_passage_6 ?_
  refine lv_bipush (v := (6 : Int32)) hx hb dX11_passage_7 (by decide) ?_
  refine lv_icmp_eq (tgt := 43) hx hb dX11_passage_9 (by decide) (fun c_2 => ?_) (fun c_2 => ?_)
  · have hw := hw.1 c_2
    refine lv_iconst (v := (-1 : Int32)) hx hb dX11_passage_43 (by decide) ?_
    have hP9 := hP.sub (ws' := (vX11_passage cI cZ h h_all h_has h_line h_act h_pile h_comes h_leaves h_tried h_met f_size f_next f_where f_token f_number f_sign f_word f_wrong f_open f_lines f_acts r_all)) [0, 1] rfl
    have hD9 := hD.sub (ws' := (vX11_passage cI cZ h h_all h_has h_line h_act h_pile h_comes h_leaves h_tried h_met f_size f_next f_where f_token f_number f_sign f_word f_wrong f_open f_lines f_acts r_all)) [0, 1] (by decide) rfl
    exact W.iret (v := (-1 : Int32)) hx hb hr (fun t ht hW => ⟨⟨(-1 : Int32), r_all, rfl, hw, by rw [ht]; exact hP9, va_K.moved hW.alike hK, hD9⟩, hS.F ht⟩) hS.2.2 dX11_passage_44
  · have hw := hw.2 c_2
    refine lv_iload_n hx hb dX11_passage_12 rfl (lv_at hl 1 rfl) ?_
    refine lv_iconst (v := (0 : Int32)) hx hb dX11_passage_13 (by decide) ?_
    refine lv_sipush (v := (1000 : Int32)) hx hb dX11_passage_14 (by decide) ?_
    have hPc := hP.sub (ws' := []) [] rfl
    have hDc := hD.sub (ws' := []) [] (by decide) rfl
    have hFc := va_free (wc := []) hD hS hA [] rfl
    refine va_calli (va_runS (As := [.int x1, .int (0 : Int32), .int (1000 : Int32)]) (rest := []) ⟨hx, hb, hml, hown, hts⟩ (kX11_isIn l dC dI cI cZ cO cW H.size x1 (0 : Int32) (1000 : Int32) _ hw) (va_cwS 3 hts (gS gw_625 gw_626 gw_622 (gM gw_623)) rfl rfl rfl (by decide +kernel) ⟨Nat.le_of_ble_eq_true rfl, Nat.le_of_ble_eq_true rfl⟩) (ps_of hPc hK hDc) rfl rfl hl.1 rfl (lv_room (Nat.le_of_ble_eq_true rfl)) dX11_passage_17 ⟨Nat.zero_le _, Nat.zero_le _⟩) hS (fun q _ h => hFc q h) hFc (fun r_3 u t H locs ht hvm hw hB hz1 hk1 hS => ?_)
    obtain ⟨hP, hD⟩ := af_join (wr := [(h, .inr (10, [.ref h_all, .ref h_has, .int f_size, .int f_next, .int f_where, .int f_token, .int f_number, .int f_sign, .int f_word, .int f_wrong, .int f_open, .int f_lines, .int f_acts, .ref h_line, .ref h_act, .ref h_pile, .ref h_comes, .ref h_leaves, .ref h_tried, .ref h_met])), (h_all, .inl (cI, 53700, .inl r_all))]) (w1 := []) hB ht hP hD [] [0, 1] rfl rfl (by decide) (by decide) hk1 hFc
    have hP : va_P (dC, dI) vwCl [(h, .inr (10, [.ref h_all, .ref h_has, .int f_size, .int f_next, .int f_where, .int f_token, .int f_number, .int f_sign, .int f_word, .int f_wrong, .int f_open, .int f_lines, .int f_acts, .ref h_line, .ref h_act, .ref h_pile, .ref h_comes, .ref h_leaves, .ref h_tried, .ref h_met])), (h_all, .inl (cI, 53700, .inl r_all))] _ := hP
    have hD : va_D A [(h, .inr (10, [.ref h_all, .ref h_has, .int f_size, .int f_next, .int f_where, .int f_token, .int f_number, .int f_sign, .int f_word, .int f_wrong, .int f_open, .int f_lines, .int f_acts, .ref h_line, .ref h_act, .ref h_pile, .ref h_comes, .ref h_leaves, .ref h_tried, .ref h_met])), (h_all, .inl (cI, 53700, .inl r_all))] := hD
    refine lv_if_eq (tgt := 43) hx hb dX11_passage_20 (by decide) (fun c_4 => ?_) (fun c_4 => ?_)
    · have hw := hw.1 c_4
      refine lv_iconst (v := (-1 : Int32)) hx hb dX11_passage_43 (by decide) ?_
      have hP9 := hP.sub (ws' := (vX11_passage cI cZ h h_all h_has h_line h_act h_pile h_comes h_leaves h_tried h_met f_size f_next f_where f_token f_number f_sign f_word f_wrong f_open f_lines f_acts r_all)) [0, 1] rfl
      have hD9 := hD.sub (ws' := (vX11_passage cI cZ h h_all h_has h_line h_act h_pile h_comes h_leaves h_tried h_met f_size f_next f_where f_token f_number f_sign f_word f_wrong f_open f_lines f_acts r_all)) [0, 1] (by decide) rfl
      exact W.iret (v := (-1 : Int32)) hx hb hr (fun t ht hW => ⟨⟨(-1 : Int32), r_all, rfl, hw, by rw [ht]; exact hP9, va_K.moved hW.alike hK, hD9⟩, hS.F ht⟩) hS.2.2 dX11_passage_44
    · have hw := hw.2 c_4
      refine lv_iload_n hx hb dX11_passage_23 rfl (lv_at hl 2 rfl) ?_
      refine lv_iconst (v := (1 : Int32)) hx hb dX11_passage_24 (by decide) ?_
      refine lv_bipush (v := (100 : Int32)) hx hb dX11_passage_25 (by decide) ?_
      have hPc := hP.sub (ws' := []) [] rfl
      have hDc := hD.sub (ws' := []) [] (by decide) rfl
      have hFc := va_free (wc := []) hD hS hA [] rfl
      refine va_calli (va_runS (As := [.int x2, .int (1 : Int32), .int (100 : Int32)]) (rest := []) ⟨hx, hb, hml, hown, hts⟩ (kX11_isIn l dC dI cI cZ cO cW H.size x2 (1 : Int32) (100 : Int32) _ hw) (va_cwS 3 hts (gS gw_625 gw_626 gw_622 (gM gw_623)) rfl rfl rfl (by decide +kernel) ⟨Nat.le_of_ble_eq_true rfl, Nat.le_of_ble_eq_true rfl⟩) (ps_of hPc hK hDc) rfl rfl hl.1 rfl (lv_room (Nat.le_of_ble_eq_true rfl)) dX11_passage_27 ⟨Nat.zero_le _, Nat.zero_le _⟩) hS (fun q _ h => hFc q h) hFc (fun r_5 u t H locs ht hvm hw hB hz1 hk1 hS => ?_)
      obtain ⟨hP, hD⟩ := af_join (wr := [(h, .inr (10, [.ref h_all, .ref h_has, .int f_size, .int f_next, .int f_where, .int f_token, .int f_number, .int f_sign, .int f_word, .int f_wrong, .int f_open, .int f_lines, .int f_acts, .ref h_line, .ref h_act, .ref h_pile, .ref h_comes, .ref h_leaves, .ref h_tried, .ref h_met])), (h_all, .inl (cI, 53700, .inl r_all))]) (w1 := []) hB ht hP hD [] [0, 1] rfl rfl (by decide) (by decide) hk1 hFc
      have hP : va_P (dC, dI) vwCl [(h, .inr (10, [.ref h_all, .ref h_has, .int f_size, .int f_next, .int f_where, .int f_token, .int f_number, .int f_sign, .int f_word, .int f_wrong, .int f_open, .int f_lines, .int f_acts, .ref h_line, .ref h_act, .ref h_pile, .ref h_comes, .ref h_leaves, .ref h_tried, .ref h_met])), (h_all, .inl (cI, 53700, .inl r_all))] _ := hP
      have hD : va_D A [(h, .inr (10, [.ref h_all, .ref h_has, .int f_size, .int f_next, .int f_where, .int f_token, .int f_number, .int f_sign, .int f_word, .int f_wrong, .int f_open, .int f_lines, .int f_acts, .ref h_line, .ref h_act, .ref h_pile, .ref h_comes, .ref h_leaves, .ref h_tried, .ref h_met])), (h_all, .inl (cI, 53700, .inl r_all))] := hD
      refine lv_if_eq (tgt := 43) hx hb dX11_passage_30 (by decide) (fun c_6 => ?_) (fun c_6 => ?_)
      · have hw := hw.1 c_6
        refine lv_iconst (v := (-1 : Int32)) hx hb dX11_passage_43 (by decide) ?_
        have hP9 := hP.sub (ws' := (vX11_passage cI cZ h h_all h_has h_line h_act h_pile h_comes h_leaves h_tried h_met f_size f_next f_where f_token f_number f_sign f_word f_wrong f_open f_lines f_acts r_all)) [0, 1] rfl
        have hD9 := hD.sub (ws' := (vX11_passage cI cZ h h_all h_has h_line h_act h_pile h_comes h_leaves h_tried h_met f_size f_next f_where f_token f_number f_sign f_word f_wrong f_open f_lines f_acts r_all)) [0, 1] (by decide) rfl
        exact W.iret (v := (-1 : Int32)) hx hb hr (fun t ht hW => ⟨⟨(-1 : Int32), r_all, rfl, hw, by rw [ht]; exact hP9, va_K.moved hW.alike hK, hD9⟩, hS.F ht⟩) hS.2.2 dX11_passage_44
      · have hw := hw.2 c_6
        refine lv_iload_n hx hb dX11_passage_33 rfl (lv_at hl 3 rfl) ?_
        refine lv_iconst (v := (1 : Int32)) hx hb dX11_passage_34 (by decide) ?_
        refine lv_bipush (v := (100 : Int32)) hx hb dX11_passage_35 (by decide) ?_
        have hPc := hP.sub (ws' := []) [] rfl
        have hDc := hD.sub (ws' := []) [] (by decide) rfl
        have hFc := va_free (wc := []) hD hS hA [] rfl
        refine va_calli (va_runS (As := [.int x3, .int (1 : Int32), .int (100 : Int32)]) (rest := []) ⟨hx, hb, hml, hown, hts⟩ (kX11_isIn l dC dI cI cZ cO cW H.size x3 (1 : Int32) (100 : Int32) _ hw) (va_cwS 3 hts (gS gw_625 gw_626 gw_622 (gM gw_623)) rfl rfl rfl (by decide +kernel) ⟨Nat.le_of_ble_eq_true rfl, Nat.le_of_ble_eq_true rfl⟩) (ps_of hPc hK hDc) rfl rfl hl.1 rfl (lv_room (Nat.le_of_ble_eq_true rfl)) dX11_passage_37 ⟨Nat.zero_le _, Nat.zero_le _⟩) hS (fun q _ h => hFc q h) hFc (fun r_7 u t H locs ht hvm hw hB hz1 hk1 hS => ?_)
        obtain ⟨hP, hD⟩ := af_join (wr := [(h, .inr (10, [.ref h_all, .ref h_has, .int f_size, .int f_next, .int f_where, .int f_token, .int f_number, .int f_sign, .int f_word, .int f_wrong, .int f_open, .int f_lines, .int f_acts, .ref h_line, .ref h_act, .ref h_pile, .ref h_comes, .ref h_leaves, .ref h_tried, .ref h_met])), (h_all, .inl (cI, 53700, .inl r_all))]) (w1 := []) hB ht hP hD [] [0, 1] rfl rfl (by decide) (by decide) hk1 hFc
        have hP : va_P (dC, dI) vwCl [(h, .inr (10, [.ref h_all, .ref h_has, .int f_size, .int f_next, .int f_where, .int f_token, .int f_number, .int f_sign, .int f_word, .int f_wrong, .int f_open, .int f_lines, .int f_acts, .ref h_line, .ref h_act, .ref h_pile, .ref h_comes, .ref h_leaves, .ref h_tried, .ref h_met])), (h_all, .inl (cI, 53700, .inl r_all))] _ := hP
        have hD : va_D A [(h, .inr (10, [.ref h_all, .ref h_has, .int f_size, .int f_next, .int f_where, .int f_token, .int f_number, .int f_sign, .int f_word, .int f_wrong, .int f_open, .int f_lines, .int f_acts, .ref h_line, .ref h_act, .ref h_pile, .ref h_comes, .ref h_leaves, .ref h_tried, .ref h_met])), (h_all, .inl (cI, 53700, .inl r_all))] := hD
        refine lv_if_ne (tgt := 45) hx hb dX11_passage_40 (by decide) (fun c_8 => ?_) (fun c_8 => ?_)
        · have hw := hw.1 c_8
          refine lv_bipush (v := (20 : Int32)) hx hb dX11_passage_45 (by decide) ?_
          refine lv_iconst (v := (3 : Int32)) hx hb dX11_passage_47 (by decide) ?_
          refine lv_aload_n hx hb dX11_passage_48 rfl (lv_at hl 0 rfl) ?_
          refine va_get (D := (dC, dI)) (ci := 10) (v := .ref h_all) (C := RX11) (T := TX11) (N := 20) hx hb hts gu_X11 hown hK hP 0 rfl rfl 0 (by decide) (hts _ gw_607) (fun _ h9 => h9) rfl dX11_passage_49 ?_
          refine lv_bipush (v := (7 : Int32)) hx hb dX11_passage_52 (by decide) ?_
          obtain ⟨h_9, hw⟩ := hw
          refine va_iald hx hb hK hP 1 0 rfl rfl h_9 dX11_passage_54 ?_
          refine lv_imul hx hb dX11_passage_55 ?_
          refine lv_iadd hx hb dX11_passage_56 ?_
          refine lv_istore (lv' := [(4, .int ((20 : Int32) + ((3 : Int32) * (r_all (7 : Int32).toNatClampNeg)))), (0, .ref h), (1, .int x1), (2, .int x2), (3, .int x3)]) hx hb dX11_passage_57 hl (by decide) rfl (fun ls hl => ?_)
          refine lv_aload_n hx hb dX11_passage_59 rfl (lv_at hl 1 rfl) ?_
          refine va_get (D := (dC, dI)) (ci := 10) (v := .ref h_all) (C := RX11) (T := TX11) (N := 20) hx hb hts gu_X11 hown hK hP 0 rfl rfl 0 (by decide) (hts _ gw_607) (fun _ h9 => h9) rfl dX11_passage_60 ?_
          refine lv_iload hx hb dX11_passage_63 (lv_at hl 0 rfl) ?_
          refine lv_iload_n hx hb dX11_passage_65 rfl (lv_at hl 2 rfl) ?_
          obtain ⟨h_10, hw⟩ := hw
          refine va_iast hx hb hK hP hD hS 1 0 rfl rfl h_10 dX11_passage_66 (fun H locs hP hD hS => ?_)
          have hP : va_P (dC, dI) vwCl [(h, .inr (10, [.ref h_all, .ref h_has, .int f_size, .int f_next, .int f_where, .int f_token, .int f_number, .int f_sign, .int f_word, .int f_wrong, .int f_open, .int f_lines, .int f_acts, .ref h_line, .ref h_act, .ref h_pile, .ref h_comes, .ref h_leaves, .ref h_tried, .ref h_met])), (h_all, .inl (cI, 53700, .inl (upd r_all ((20 : Int32) + ((3 : Int32) * (r_all (7 : Int32).toNatClampNeg))).toNatClampNeg x1)))] _ := hP
          have hD : va_D A [(h, .inr (10, [.ref h_all, .ref h_has, .int f_size, .int f_next, .int f_where, .int f_token, .int f_number, .int f_sign, .int f_word, .int f_wrong, .int f_open, .int f_lines, .int f_acts, .ref h_line, .ref h_act, .ref h_pile, .ref h_comes, .ref h_leaves, .ref h_tried, .ref h_met])), (h_all, .inl (cI, 53700, .inl (upd r_all ((20 : Int32) + ((3 : Int32) * (r_all (7 : Int32).toNatClampNeg))).toNatClampNeg x1)))] := hD
          refine lv_aload_n hx hb dX11_passage_67 rfl (lv_at hl 1 rfl) ?_
          refine va_get (D := (dC, dI)) (ci := 10) (v := .ref h_all) (C := RX11) (T := TX11) (N := 20) hx hb hts gu_X11 hown hK hP 0 rfl rfl 0 (by decide) (hts _ gw_607) (fun _ h9 => h9) rfl dX11_passage_68 ?_
          refine lv_iload hx hb dX11_passage_71 (lv_at hl 0 rfl) ?_
          refine lv_iconst (v := (1 : Int32)) hx hb dX11_passage_73 (by decide) ?_
          refine lv_iadd hx hb dX11_passage_74 ?_
          refine lv_iload_n hx hb dX11_passage_75 rfl (lv_at hl 3 rfl) ?_
          obtain ⟨h_11, hw⟩ := hw
          refine va_iast hx hb hK hP hD hS 1 0 rfl rfl h_11 dX11_passage_76 (fun H locs hP hD hS => ?_)
          have hP : va_P (dC, dI) vwCl [(h, .inr (10, [.ref h_all, .ref h_has, .int f_size, .int f_next, .int f_where, .int f_token, .int f_number, .int f_sign, .int f_word, .int f_wrong, .int f_open, .int f_lines, .int f_acts, .ref h_line, .ref h_act, .ref h_pile, .ref h_comes, .ref h_leaves, .ref h_tried, .ref h_met])), (h_all, .inl (cI, 53700, .inl (upd (upd r_all ((20 : Int32) + ((3 : Int32) * (r_all (7 : Int32).toNatClampNeg))).toNatClampNeg x1) (((20 : Int32) + ((3 : Int32) * (r_all (7 : Int32).toNatClampNeg))) + (1 : Int32)).toNatClampNeg x2)))] _ := hP
          have hD : va_D A [(h, .inr (10, [.ref h_all, .ref h_has, .int f_size, .int f_next, .int f_where, .int f_token, .int f_number, .int f_sign, .int f_word, .int f_wrong, .int f_open, .int f_lines, .int f_acts, .ref h_line, .ref h_act, .ref h_pile, .ref h_comes, .ref h_leaves, .ref h_tried, .ref h_met])), (h_all, .inl (cI, 53700, .inl (upd (upd r_all ((20 : Int32) + ((3 : Int32) * (r_all (7 : Int32).toNatClampNeg))).toNatClampNeg x1) (((20 : Int32) + ((3 : Int32) * (r_all (7 : Int32).toNatClampNeg))) + (1 : Int32)).toNatClampNeg x2)))] := hD
          refine lv_aload_n hx hb dX11_passage_77 rfl (lv_at hl 1 rfl) ?_
          refine va_get (D := (dC, dI)) (ci := 10) (v := .ref h_all) (C := RX11) (T := TX11) (N := 20) hx hb hts gu_X11 hown hK hP 0 rfl rfl 0 (by decide) (hts _ gw_607) (fun _ h9 => h9) rfl dX11_passage_78 ?_
          refine lv_iload hx hb dX11_passage_81 (lv_at hl 0 rfl) ?_
          refine lv_iconst (v := (2 : Int32)) hx hb dX11_passage_83 (by decide) ?_
          refine lv_iadd hx hb dX11_passage_84 ?_
          refine lv_iload_n hx hb dX11_passage_85 rfl (lv_at hl 4 rfl) ?_
          obtain ⟨h_12, hw⟩ := hw
          refine va_iast hx hb hK hP hD hS 1 0 rfl rfl h_12 dX11_passage_86 (fun H locs hP hD hS => ?_)
          have hP : va_P (dC, dI) vwCl [(h, .inr (10, [.ref h_all, .ref h_has, .int f_size, .int f_next, .int f_where, .int f_token, .int f_number, .int f_sign, .int f_word, .int f_wrong, .int f_open, .int f_lines, .int f_acts, .ref h_line, .ref h_act, .ref h_pile, .ref h_comes, .ref h_leaves, .ref h_tried, .ref h_met])), (h_all, .inl (cI, 53700, .inl (upd (upd (upd r_all ((20 : Int32) + ((3 : Int32) * (r_all (7 : Int32).toNatClampNeg))).toNatClampNeg x1) (((20 : Int32) + ((3 : Int32) * (r_all (7 : Int32).toNatClampNeg))) + (1 : Int32)).toNatClampNeg x2) (((20 : Int32) + ((3 : Int32) * (r_all (7 : Int32).toNatClampNeg))) + (2 : Int32)).toNatClampNeg x3)))] _ := hP
          have hD : va_D A [(h, .inr (10, [.ref h_all, .ref h_has, .int f_size, .int f_next, .int f_where, .int f_token, .int f_number, .int f_sign, .int f_word, .int f_wrong, .int f_open, .int f_lines, .int f_acts, .ref h_line, .ref h_act, .ref h_pile, .ref h_comes, .ref h_leaves, .ref h_tried, .ref h_met])), (h_all, .inl (cI, 53700, .inl (upd (upd (upd r_all ((20 : Int32) + ((3 : Int32) * (r_all (7 : Int32).toNatClampNeg))).toNatClampNeg x1) (((20 : Int32) + ((3 : Int32) * (r_all (7 : Int32).toNatClampNeg))) + (1 : Int32)).toNatClampNeg x2) (((20 : Int32) + ((3 : Int32) * (r_all (7 : Int32).toNatClampNeg))) + (2 : Int32)).toNatClampNeg x3)))] := hD
          refine lv_aload_n hx hb dX11_passage_87 rfl (lv_at hl 1 rfl) ?_
          refine va_get (D := (dC, dI)) (ci := 10) (v := .ref h_all) (C := RX11) (T := TX11) (N := 20) hx hb hts gu_X11 hown hK hP 0 rfl rfl 0 (by decide) (hts _ gw_607) (fun _ h9 => h9) rfl dX11_passage_88 ?_
          refine lv_bipush (v := (7 : Int32)) hx hb dX11_passage_91 (by decide) ?_
          refine lv_dup2_11 hx hb dX11_passage_93 rfl rfl ?_
          obtain ⟨h_13, hw⟩ := hw
          refine va_iald hx hb hK hP 1 0 rfl rfl h_13 dX11_passage_94 ?_
          refine lv_iconst (v := (1 : Int32)) hx hb dX11_passage_95 (by decide) ?_
          refine lv_iadd hx hb dX11_passage_96 ?_
          obtain ⟨h_14, hw⟩ := hw
          refine va_iast hx hb hK hP hD hS 1 0 rfl rfl h_14 dX11_passage_97 (fun H locs hP hD hS => ?_)
          have hP : va_P (dC, dI) vwCl [(h, .inr (10, [.ref h_all, .ref h_has, .int f_size, .int f_next, .int f_where, .int f_token, .int f_number, .int f_sign, .int f_word, .int f_wrong, .int f_open, .int f_lines, .int f_acts, .ref h_line, .ref h_act, .ref h_pile, .ref h_comes, .ref h_leaves, .ref h_tried, .ref h_met])), (h_all, .inl (cI, 53700, .inl (upd (upd (upd (upd r_all ((20 : Int32) + ((3 : Int32) * (r_all (7 : Int32).toNatClampNeg))).toNatClampNeg x1) (((20 : Int32) + ((3 : Int32) * (r_all (7 : Int32).toNatClampNeg))) + (1 : Int32)).toNatClampNeg x2) (((20 : Int32) + ((3 : Int32) * (r_all (7 : Int32).toNatClampNeg))) + (2 : Int32)).toNatClampNeg x3) (7 : Int32).toNatClampNeg (((upd (upd (upd r_all ((20 : Int32) + ((3 : Int32) * (r_all (7 : Int32).toNatClampNeg))).toNatClampNeg x1) (((20 : Int32) + ((3 : Int32) * (r_all (7 : Int32).toNatClampNeg))) + (1 : Int32)).toNatClampNeg x2) (((20 : Int32) + ((3 : Int32) * (r_all (7 : Int32).toNatClampNeg))) + (2 : Int32)).toNatClampNeg x3) (7 : Int32).toNatClampNeg) + (1 : Int32)))))] _ := hP
          have hD : va_D A [(h, .inr (10, [.ref h_all, .ref h_has, .int f_size, .int f_next, .int f_where, .int f_token, .int f_number, .int f_sign, .int f_word, .int f_wrong, .int f_open, .int f_lines, .int f_acts, .ref h_line, .ref h_act, .ref h_pile, .ref h_comes, .ref h_leaves, .ref h_tried, .ref h_met])), (h_all, .inl (cI, 53700, .inl (upd (upd (upd (upd r_all ((20 : Int32) + ((3 : Int32) * (r_all (7 : Int32).toNatClampNeg))).toNatClampNeg x1) (((20 : Int32) + ((3 : Int32) * (r_all (7 : Int32).toNatClampNeg))) + (1 : Int32)).toNatClampNeg x2) (((20 : Int32) + ((3 : Int32) * (r_all (7 : Int32).toNatClampNeg))) + (2 : Int32)).toNatClampNeg x3) (7 : Int32).toNatClampNeg (((upd (upd (upd r_all ((20 : Int32) + ((3 : Int32) * (r_all (7 : Int32).toNatClampNeg))).toNatClampNeg x1) (((20 : Int32) + ((3 : Int32) * (r_all (7 : Int32).toNatClampNeg))) + (1 : Int32)).toNatClampNeg x2) (((20 : Int32) + ((3 : Int32) * (r_all (7 : Int32).toNatClampNeg))) + (2 : Int32)).toNatClampNeg x3) (7 : Int32).toNatClampNeg) + (1 : Int32)))))] := hD
          refine lv_aload_n hx hb dX11_passage_98 rfl (lv_at hl 1 rfl) ?_
          refine va_get (D := (dC, dI)) (ci := 10) (v := .ref h_all) (C := RX11) (T := TX11) (N := 20) hx hb hts gu_X11 hown hK hP 0 rfl rfl 0 (by decide) (hts _ gw_607) (fun _ h9 => h9) rfl dX11_passage_99 ?_
          refine lv_bipush (v := (7 : Int32)) hx hb dX11_passage_102 (by decide) ?_
          obtain ⟨h_15, hw⟩ := hw
          refine va_iald hx hb hK hP 1 0 rfl rfl h_15 dX11_passage_104 ?_
          refine lv_iconst (v := (1 : Int32)) hx hb dX11_passage_105 (by decide) ?_
          refine lv_isub hx hb dX11_passage_106 ?_
          have hP9 := hP.sub (ws' := (vX11_passage cI cZ h h_all h_has h_line h_act h_pile h_comes h_leaves h_tried h_met f_size f_next f_where f_token f_number f_sign f_word f_wrong f_open f_lines f_acts (upd (upd (upd (upd r_all ((20 : Int32) + ((3 : Int32) * (r_all (7 : Int32).toNatClampNeg))).toNatClampNeg x1) (((20 : Int32) + ((3 : Int32) * (r_all (7 : Int32).toNatClampNeg))) + (1 : Int32)).toNatClampNeg x2) (((20 : Int32) + ((3 : Int32) * (r_all (7 : Int32).toNatClampNeg))) + (2 : Int32)).toNatClampNeg x3) (7 : Int32).toNatClampNeg (((upd (upd (upd r_all ((20 : Int32) + ((3 : Int32) * (r_all (7 : Int32).toNatClampNeg))).toNatClampNeg x1) (((20 : Int32) + ((3 : Int32) * (r_all (7 : Int32).toNatClampNeg))) + (1 : Int32)).toNatClampNeg x2) (((20 : Int32) + ((3 : Int32) * (r_all (7 : Int32).toNatClampNeg))) + (2 : Int32)).toNatClampNeg x3) (7 : Int32).toNatClampNeg) + (1 : Int32))))) [0, 1] rfl
          have hD9 := hD.sub (ws' := (vX11_passage cI cZ h h_all h_has h_line h_act h_pile h_comes h_leaves h_tried h_met f_size f_next f_where f_token f_number f_sign f_word f_wrong f_open f_lines f_acts (upd (upd (upd (upd r_all ((20 : Int32) + ((3 : Int32) * (r_all (7 : Int32).toNatClampNeg))).toNatClampNeg x1) (((20 : Int32) + ((3 : Int32) * (r_all (7 : Int32).toNatClampNeg))) + (1 : Int32)).toNatClampNeg x2) (((20 : Int32) + ((3 : Int32) * (r_all (7 : Int32).toNatClampNeg))) + (2 : Int32)).toNatClampNeg x3) (7 : Int32).toNatClampNeg (((upd (upd (upd r_all ((20 : Int32) + ((3 : Int32) * (r_all (7 : Int32).toNatClampNeg))).toNatClampNeg x1) (((20 : Int32) + ((3 : Int32) * (r_all (7 : Int32).toNatClampNeg))) + (1 : Int32)).toNatClampNeg x2) (((20 : Int32) + ((3 : Int32) * (r_all (7 : Int32).toNatClampNeg))) + (2 : Int32)).toNatClampNeg x3) (7 : Int32).toNatClampNeg) + (1 : Int32))))) [0, 1] (by decide) rfl
          exact W.iret (v := (((upd (upd (upd (upd r_all ((20 : Int32) + ((3 : Int32) * (r_all (7 : Int32).toNatClampNeg))).toNatClampNeg x1) (((20 : Int32) + ((3 : Int32) * (r_all (7 : Int32).toNatClampNeg))) + (1 : Int32)).toNatClampNeg x2) (((20 : Int32) + ((3 : Int32) * (r_all (7 : Int32).toNatClampNeg))) + (2 : Int32)).toNatClampNeg x3) (7 : Int32).toNatClampNeg (((upd (upd (upd r_all ((20 : Int32) + ((3 : Int32) * (r_all (7 : Int32).toNatClampNeg))).toNatClampNeg x1) (((20 : Int32) + ((3 : Int32) * (r_all (7 : Int32).toNatClampNeg))) + (1 : Int32)).toNatClampNeg x2) (((20 : Int32) + ((3 : Int32) * (r_all (7 : Int32).toNatClampNeg))) + (2 : Int32)).toNatClampNeg x3) (7 : Int32).toNatClampNeg) + (1 : Int32))) (7 : Int32).toNatClampNeg) - (1 : Int32))) hx hb hr (fun t ht hW => ⟨⟨(((upd (upd (upd (upd r_all ((20 : Int32) + ((3 : Int32) * (r_all (7 : Int32).toNatClampNeg))).toNatClampNeg x1) (((20 : Int32) + ((3 : Int32) * (r_all (7 : Int32).toNatClampNeg))) + (1 : Int32)).toNatClampNeg x2) (((20 : Int32) + ((3 : Int32) * (r_all (7 : Int32).toNatClampNeg))) + (2 : Int32)).toNatClampNeg x3) (7 : Int32).toNatClampNeg (((upd (upd (upd r_all ((20 : Int32) + ((3 : Int32) * (r_all (7 : Int32).toNatClampNeg))).toNatClampNeg x1) (((20 : Int32) + ((3 : Int32) * (r_all (7 : Int32).toNatClampNeg))) + (1 : Int32)).toNatClampNeg x2) (((20 : Int32) + ((3 : Int32) * (r_all (7 : Int32).toNatClampNeg))) + (2 : Int32)).toNatClampNeg x3) (7 : Int32).toNatClampNeg) + (1 : Int32))) (7 : Int32).toNatClampNeg) - (1 : Int32)), (upd (upd (upd (upd r_all ((20 : Int32) + ((3 : Int32) * (r_all (7 : Int32).toNatClampNeg))).toNatClampNeg x1) (((20 : Int32) + ((3 : Int32) * (r_all (7 : Int32).toNatClampNeg))) + (1 : Int32)).toNatClampNeg x2) (((20 : Int32) + ((3 : Int32) * (r_all (7 : Int32).toNatClampNeg))) + (2 : Int32)).toNatClampNeg x3) (7 : Int32).toNatClampNeg (((upd (upd (upd r_all ((20 : Int32) + ((3 : Int32) * (r_all (7 : Int32).toNatClampNeg))).toNatClampNeg x1) (((20 : Int32) + ((3 : Int32) * (r_all (7 : Int32).toNatClampNeg))) + (1 : Int32)).toNatClampNeg x2) (((20 : Int32) + ((3 : Int32) * (r_all (7 : Int32).toNatClampNeg))) + (2 : Int32)).toNatClampNeg x3) (7 : Int32).toNatClampNeg) + (1 : Int32))), rfl, hw, by rw [ht]; exact hP9, va_K.moved hW.alike hK, hD9⟩, hS.F ht⟩) hS.2.2 dX11_passage_107
        · have hw := hw.2 c_8
          refine lv_iconst (v := (-1 : Int32)) hx hb dX11_passage_43 (by decide) ?_
          have hP9 := hP.sub (ws' := (vX11_passage cI cZ h h_all h_has h_line h_act h_pile h_comes h_leaves h_tried h_met f_size f_next f_where f_token f_number f_sign f_word f_wrong f_open f_lines f_acts r_all)) [0, 1] rfl
          have hD9 := hD.sub (ws' := (vX11_passage cI cZ h h_all h_has h_line h_act h_pile h_comes h_leaves h_tried h_met f_size f_next f_where f_token f_number f_sign f_word f_wrong f_open f_lines f_acts r_all)) [0, 1] (by decide) rfl
          exact W.iret (v := (-1 : Int32)) hx hb hr (fun t ht hW => ⟨⟨(-1 : Int32), r_all, rfl, hw, by rw [ht]; exact hP9, va_K.moved hW.alike hK, hD9⟩, hS.F ht⟩) hS.2.2 dX11_passage_44
set_option maxHeartbeats 4000000 in
set_option maxRecDepth 100000 in
theorem kX11_passage (l : Launch) (dC : Nat → ClassId) (dI : Nat → Nat → Nat) (cI cZ cO cW : ClassId) (h h_all h_has h_line h_act h_pile h_comes h_leaves h_tried h_met : Nat)  (sz : Nat) (f_size : Int32) (f_next : Int32) (f_where : Int32) (f_token : Int32) (f_number : Int32) (f_sign : Int32) (f_word : Int32) (f_wrong : Int32) (f_open : Int32) (f_lines : Int32) (f_acts : Int32) (r_all : Nat → Int32) (x1 : Int32) (x2 : Int32) (x3 : Int32) (Q : Int32 → (Nat → Int32) → Prop) (hw : wX11_passage Q x1 x2 x3 r_all) : Met l yX11_passage zsX11_passage rmX11_passage (va_Pc [.ref h, .int x1, .int x2, .int x3] (fun U => U.heap.size = sz ∧ va_P (dC, dI) vwCl (vX11_passage cI cZ h h_all h_has h_line h_act h_pile h_comes h_leaves h_tried h_met f_size f_next f_where f_token f_number f_sign f_word f_wrong f_open f_lines f_acts r_all) U.heap ∧ va_K (dC, dI) vwCl (tysA cI cZ cO cW) U ∧ va_D (fun _ => True) (vX11_passage cI cZ h h_all h_has h_line h_act h_pile h_comes h_leaves h_tried h_met f_size f_next f_where f_token f_number f_sign f_word f_wrong f_open f_lines f_acts r_all))) (qX11_passage dC dI cI cZ cO cW h h_all h_has h_line h_act h_pile h_comes h_leaves h_tried h_met f_size f_next f_where f_token f_number f_sign f_word f_wrong f_open f_lines f_acts Q (va_A (vX11_passage cI cZ h h_all h_has h_line h_act h_pile h_comes h_leaves h_tried h_met f_size f_next f_where f_token f_number f_sign f_word f_wrong f_open f_lines f_acts r_all) sz)) 0 0 (va_A (vX11_passage cI cZ h h_all h_has h_line h_act h_pile h_comes h_leaves h_tried h_met f_size f_next f_where f_token f_number f_sign f_word f_wrong f_open f_lines f_acts r_all) sz) := by
  refine Met.ofW (cc := cX11_passage) (maxL := 5) (ret := (some .int)) (by decide) rfl ?_
  intro p e s m args below meth c s₁ B hml hv
  obtain ⟨rfl, hsz, hP, hK, hD0⟩ := hv
  subst hsz
  have hC : Cx p s m ([.ref h, .int x1, .int x2, .int x3] : List Value).toArray meth c cX11_passage (some .int) 5 GW RX11 := ⟨B.exec, B.bytes, B.returns, hml, findClass_of_methodNamed B.named, fun w h => atoms_spec (ws := zsX11_passage) B.pre w (List.mem_cons_of_mem _ h), B.notSynchronized⟩
  have hD := hD0.self (sz := s.heap.size)
  generalize hAe : va_A (vX11_passage cI cZ h h_all h_has h_line h_act h_pile h_comes h_leaves h_tried h_met f_size f_next f_where f_token f_number f_sign f_word f_wrong f_open f_lines f_acts r_all) s.heap.size = A at hD ⊢
  have hA : ∀ q : Nat, s.heap.size ≤ q → A q := fun q h => by rw [← hAe]; exact Or.inr h
  have hl := lv_entry ([.ref h, .int x1, .int x2, .int x3]) (n := 5) (Nat.le_of_ble_eq_true rfl)
  rw [lg_entry_eq]
  generalize (lg_sl ([.ref h, .int x1, .int x2, .int x3]) ++ List.replicate (5 - (lg_sl ([.ref h, .int x1, .int x2, .int x3])).length) Slot.unset).toArray = ls at hl ⊢
  exact tX11_passage_e hC hK hA x1 x2 x3 r_all _ _ ls hw hP hD va_S.rf hl

/-! X11_clear -/
def wX11_clear (Q : (Nat → Int32) → Prop)  (r_all : Nat → Int32) : Prop :=
  (vp_in (7 : Int32) 53700 ∧ (Q (upd r_all (7 : Int32).toNatClampNeg (0 : Int32))))
abbrev vX11_clear (cI cZ : ClassId) (h h_all h_has h_line h_act h_pile h_comes h_leaves h_tried h_met : Nat) (f_size : Int32) (f_next : Int32) (f_where : Int32) (f_token : Int32) (f_number : Int32) (f_sign : Int32) (f_word : Int32) (f_wrong : Int32) (f_open : Int32) (f_lines : Int32) (f_acts : Int32) (r_all : Nat → Int32) : va_W := [(h, .inr (10, [.ref h_all, .ref h_has, .int f_size, .int f_next, .int f_where, .int f_token, .int f_number, .int f_sign, .int f_word, .int f_wrong, .int f_open, .int f_lines, .int f_acts, .ref h_line, .ref h_act, .ref h_pile, .ref h_comes, .ref h_leaves, .ref h_tried, .ref h_met])), (h_all, .inl (cI, 53700, .inl r_all))]
abbrev rmX11_clear : Room := { frames := 0, cells := 0, slots := 0, locals := 0 }
abbrev qX11_clear (dC : Nat → ClassId) (dI : Nat → Nat → Nat) (cI cZ cO cW : ClassId) (h h_all h_has h_line h_act h_pile h_comes h_leaves h_tried h_met : Nat) (f_size : Int32) (f_next : Int32) (f_where : Int32) (f_token : Int32) (f_number : Int32) (f_sign : Int32) (f_word : Int32) (f_wrong : Int32) (f_open : Int32) (f_lines : Int32) (f_acts : Int32) (Q : (Nat → Int32) → Prop) (A : Nat → Prop) : Array Value → State → Outcome → State → Prop := va_Qv (fun (u : (Nat → Int32)) => Q u) (fun (u : (Nat → Int32)) (t : State) => va_P (dC, dI) vwCl (vX11_clear cI cZ h h_all h_has h_line h_act h_pile h_comes h_leaves h_tried h_met f_size f_next f_where f_token f_number f_sign f_word f_wrong f_open f_lines f_acts u) t.heap ∧ va_K (dC, dI) vwCl (tysA cI cZ cO cW) t ∧ va_D A (vX11_clear cI cZ h h_all h_has h_line h_act h_pile h_comes h_leaves h_tried h_met f_size f_next f_where f_token f_number f_sign f_word f_wrong f_open f_lines f_acts u)) A
def zsX11_clear : List Cond := Cond.code yX11_clear cX11_clear 1 none :: GW
set_option maxHeartbeats 4000000 in
set_option maxRecDepth 100000 in
theorem tX11_clear_e {p : Program} {l : Launch} {e : Env} {s : State} {m : MethodId} {args : Array Value} {below : List Frame} {meth : Method} {c : Code} {dC : Nat → ClassId} {dI : Nat → Nat → Nat} {cI cZ cO cW : ClassId} {A : Nat → Prop} {h h_all h_has h_line h_act h_pile h_comes h_leaves h_tried h_met : Nat} {f_size f_next f_where f_token f_number f_sign f_word f_wrong f_open f_lines f_acts : Int32} {Q : (Nat → Int32) → Prop} (hC : Cx p s m args meth c cX11_clear none 1 GW RX11) (hK : va_K (dC, dI) vwCl (tysA cI cZ cO cW) s) (hA : ∀ q : Nat, s.heap.size ≤ q → A q) :
    ∀ (r_all : Nat → Int32) (H : Heap) (locs : List Loc) (ls : Array Slot), wX11_clear Q  r_all → va_P (dC, dI) vwCl (vX11_clear cI cZ h h_all h_has h_line h_act h_pile h_comes h_leaves h_tried h_met f_size f_next f_where f_token f_number f_sign f_word f_wrong f_open f_lines f_acts r_all) H → va_D A (vX11_clear cI cZ h h_all h_has h_line h_act h_pile h_comes h_leaves h_tried h_met f_size f_next f_where f_token f_number f_sign f_word f_wrong f_open f_lines f_acts r_all) → va_S A s.heap H locs → lv_has ls 1 [(0, .ref h)] → W p l e rmX11_clear s m args below meth c H locs 0 0 (MQ below (qX11_clear dC dI cI cZ cO cW h h_all h_has h_line h_act h_pile h_comes h_leaves h_tried h_met f_size f_next f_where f_token f_number f_sign f_word f_wrong f_open f_lines f_acts Q A) args s 0 0 A) (F0 m 0 ls []) := by
  obtain ⟨hx, hb, hr, hml, hown, hts, hlocks⟩ := id hC
  intro  r_all H locs ls hw hP hD hS hl
  refine lv_aload_n hx hb dX11_clear_0 rfl (lv_at hl 0 rfl) ?_
  refine va_get (D := (dC, dI)) (ci := 10) (v := .ref h_all) (C := RX11) (T := TX11) (N := 20) hx hb hts gu_X11 hown hK hP 0 rfl rfl 0 (by decide) (hts _ gw_607) (fun _ h9 => h9) rfl dX11_clear_1 ?_
  refine lv_bipush (v := (7 : Int32)) hx hb dX11_clear_4 (by decide) ?_
  refine lv_iconst (v := (0 : Int32)) hx hb dX11_clear_6 (by decide) ?_
  obtain ⟨h_1, hw⟩ := hw
  refine va_iast hx hb hK hP hD hS 1 0 rfl rfl h_1 dX11_clear_7 (fun H locs hP hD hS => ?_)
  have hP : va_P (dC, dI) vwCl [(h, .inr (10, [.ref h_all, .ref h_has, .int f_size, .int f_next, .int f_where, .int f_token, .int f_number, .int f_sign, .int f_word, .int f_wrong, .int f_open, .int f_lines, .int f_acts, .ref h_line, .ref h_act, .ref h_pile, .ref h_comes, .ref h_leaves, .ref h_tried, .ref h_met])), (h_all, .inl (cI, 53700, .inl (upd r_all (7 : Int32).toNatClampNeg (0 : Int32))))] _ := hP
  have hD : va_D A [(h, .inr (10, [.ref h_all, .ref h_has, .int f_size, .int f_next, .int f_where, .int f_token, .int f_number, .int f_sign, .int f_word, .int f_wrong, .int f_open, .int f_lines, .int f_acts, .ref h_line, .ref h_act, .ref h_pile, .ref h_comes, .ref h_leaves, .ref h_tried, .ref h_met])), (h_all, .inl (cI, 53700, .inl (upd r_all (7 : Int32).toNatClampNeg (0 : Int32))))] := hD
  have hP9 := hP.sub (ws' := (vX11_clear cI cZ h h_all h_has h_line h_act h_pile h_comes h_leaves h_tried h_met f_size f_next f_where f_token f_number f_sign f_word f_wrong f_open f_lines f_acts (upd r_all (7 : Int32).toNatClampNeg (0 : Int32)))) [0, 1] rfl
  have hD9 := hD.sub (ws' := (vX11_clear cI cZ h h_all h_has h_line h_act h_pile h_comes h_leaves h_tried h_met f_size f_next f_where f_token f_number f_sign f_word f_wrong f_open f_lines f_acts (upd r_all (7 : Int32).toNatClampNeg (0 : Int32)))) [0, 1] (by decide) rfl
  exact W.vret hx hb hr (fun t ht hW => ⟨⟨(upd r_all (7 : Int32).toNatClampNeg (0 : Int32)), rfl, hw, by rw [ht]; exact hP9, va_K.moved hW.alike hK, hD9⟩, hS.F ht⟩) hS.2.2 dX11_clear_8
set_option maxHeartbeats 4000000 in
set_option maxRecDepth 100000 in
theorem kX11_clear (l : Launch) (dC : Nat → ClassId) (dI : Nat → Nat → Nat) (cI cZ cO cW : ClassId) (h h_all h_has h_line h_act h_pile h_comes h_leaves h_tried h_met : Nat)  (sz : Nat) (f_size : Int32) (f_next : Int32) (f_where : Int32) (f_token : Int32) (f_number : Int32) (f_sign : Int32) (f_word : Int32) (f_wrong : Int32) (f_open : Int32) (f_lines : Int32) (f_acts : Int32) (r_all : Nat → Int32)  (Q : (Nat → Int32) → Prop) (hw : wX11_clear Q  r_all) : Met l yX11_clear zsX11_clear rmX11_clear (va_Pc [.ref h] (fun U => U.heap.size = sz ∧ va_P (dC, dI) vwCl (vX11_clear cI cZ h h_all h_has h_line h_act h_pile h_comes h_leaves h_tried h_met f_size f_next f_where f_token f_number f_sign f_word f_wrong f_open f_lines f_acts r_all) U.heap ∧ va_K (dC, dI) vwCl (tysA cI cZ cO cW) U ∧ va_D (fun _ => True) (vX11_clear cI cZ h h_all h_has h_line h_act h_pile h_comes h_leaves h_tried h_met f_size f_next f_where f_token f_number f_sign f_word f_wrong f_open f_lines f_acts r_all))) (qX11_clear dC dI cI cZ cO cW h h_all h_has h_line h_act h_pile h_comes h_leaves h_tried h_met f_size f_next f_where f_token f_number f_sign f_word f_wrong f_open f_lines f_acts Q (va_A (vX11_clear cI cZ h h_all h_has h_line h_act h_pile h_comes h_leaves h_tried h_met f_size f_next f_where f_token f_number f_sign f_word f_wrong f_open f_lines f_acts r_all) sz)) 0 0 (va_A (vX11_clear cI cZ h h_all h_has h_line h_act h_pile h_comes h_leaves h_tried h_met f_size f_next f_where f_token f_number f_sign f_word f_wrong f_open f_lines f_acts r_all) sz) := by
  refine Met.ofW (cc := cX11_clear) (maxL := 1) (ret := none) (by decide) rfl ?_
  intro p e s m args below meth c s₁ B hml hv
  obtain ⟨rfl, hsz, hP, hK, hD0⟩ := hv
  subst hsz
  have hC : Cx p s m ([.ref h] : List Value).toArray meth c cX11_clear none 1 GW RX11 := ⟨B.exec, B.bytes, B.returns, hml, findClass_of_methodNamed B.named, fun w h => atoms_spec (ws := zsX11_clear) B.pre w (List.mem_cons_of_mem _ h), B.notSynchronized⟩
  have hD := hD0.self (sz := s.heap.size)
  generalize hAe : va_A (vX11_clear cI cZ h h_all h_has h_line h_act h_pile h_comes h_leaves h_tried h_met f_size f_next f_where f_token f_number f_sign f_word f_wrong f_open f_lines f_acts r_all) s.heap.size = A at hD ⊢
  have hA : ∀ q : Nat, s.heap.size ≤ q → A q := fun q h => by rw [← hAe]; exact Or.inr h
  have hl := lv_entry ([.ref h]) (n := 1) (Nat.le_of_ble_eq_true rfl)
  rw [lg_entry_eq]
  generalize (lg_sl ([.ref h]) ++ List.replicate (1 - (lg_sl ([.ref h])).length) Slot.unset).toArray = ls at hl ⊢
  exact tX11_clear_e hC hK hA  r_all _ _ ls hw hP hD va_S.rf hl

/-! X11_turn -/
def wX11_turn (Q : Int32 → Prop) (x1 : Int32) (r_all : Nat → Int32) : Prop :=
  (vp_in (8 : Int32) 53700 ∧ (wX11_isIn (fun r_2 => ((r_2 = 0 → (Q (-1 : Int32))) ∧ (¬ r_2 = 0 → (vp_in ((12 : Int32) + x1) 53700 ∧ (Q (r_all ((12 : Int32) + x1).toNatClampNeg)))))) x1 (0 : Int32) ((r_all (8 : Int32).toNatClampNeg) - (1 : Int32))))
abbrev vX11_turn (cI cZ : ClassId) (h h_all h_has h_line h_act h_pile h_comes h_leaves h_tried h_met : Nat) (f_size : Int32) (f_next : Int32) (f_where : Int32) (f_token : Int32) (f_number : Int32) (f_sign : Int32) (f_word : Int32) (f_wrong : Int32) (f_open : Int32) (f_lines : Int32) (f_acts : Int32) (r_all : Nat → Int32) : va_W := [(h, .inr (10, [.ref h_all, .ref h_has, .int f_size, .int f_next, .int f_where, .int f_token, .int f_number, .int f_sign, .int f_word, .int f_wrong, .int f_open, .int f_lines, .int f_acts, .ref h_line, .ref h_act, .ref h_pile, .ref h_comes, .ref h_leaves, .ref h_tried, .ref h_met])), (h_all, .inl (cI, 53700, .inl r_all))]
abbrev rmX11_turn : Room := { frames := 1, cells := 0, slots := 0, locals := 22 }
abbrev qX11_turn (dC : Nat → ClassId) (dI : Nat → Nat → Nat) (cI cZ cO cW : ClassId) (h h_all h_has h_line h_act h_pile h_comes h_leaves h_tried h_met : Nat) (f_size : Int32) (f_next : Int32) (f_where : Int32) (f_token : Int32) (f_number : Int32) (f_sign : Int32) (f_word : Int32) (f_wrong : Int32) (f_open : Int32) (f_lines : Int32) (f_acts : Int32) (r_all : Nat → Int32) (Q : Int32 → Prop) (A : Nat → Prop) : Array Value → State → Outcome → State → Prop := va_Qi (fun (r : Int32) (u : Unit) => Q r) (fun (u : Unit) (t : State) => va_P (dC, dI) vwCl (vX11_turn cI cZ h h_all h_has h_line h_act h_pile h_comes h_leaves h_tried h_met f_size f_next f_where f_token f_number f_sign f_word f_wrong f_open f_lines f_acts r_all) t.heap ∧ va_K (dC, dI) vwCl (tysA cI cZ cO cW) t ∧ va_D A (vX11_turn cI cZ h h_all h_has h_line h_act h_pile h_comes h_leaves h_tried h_met f_size f_next f_where f_token f_number f_sign f_word f_wrong f_open f_lines f_acts r_all)) A
def zsX11_turn : List Cond := Cond.code yX11_turn cX11_turn 2 (some .int) :: GW
set_option maxHeartbeats 4000000 in
set_option maxRecDepth 100000 in
theorem tX11_turn_e {p : Program} {l : Launch} {e : Env} {s : State} {m : MethodId} {args : Array Value} {below : List Frame} {meth : Method} {c : Code} {dC : Nat → ClassId} {dI : Nat → Nat → Nat} {cI cZ cO cW : ClassId} {A : Nat → Prop} {h h_all h_has h_line h_act h_pile h_comes h_leaves h_tried h_met : Nat} {f_size f_next f_where f_token f_number f_sign f_word f_wrong f_open f_lines f_acts : Int32} {Q : Int32 → Prop} (hC : Cx p s m args meth c cX11_turn (some .int) 2 GW RX11) (hK : va_K (dC, dI) vwCl (tysA cI cZ cO cW) s) (hA : ∀ q : Nat, s.heap.size ≤ q → A q) :
    ∀ (x1 : Int32) (r_all : Nat → Int32) (H : Heap) (locs : List Loc) (ls : Array Slot), wX11_turn Q x1 r_all → va_P (dC, dI) vwCl (vX11_turn cI cZ h h_all h_has h_line h_act h_pile h_comes h_leaves h_tried h_met f_size f_next f_where f_token f_number f_sign f_word f_wrong f_open f_lines f_acts r_all) H → va_D A (vX11_turn cI cZ h h_all h_has h_line h_act h_pile h_comes h_leaves h_tried h_met f_size f_next f_where f_token f_number f_sign f_word f_wrong f_open f_lines f_acts r_all) → va_S A s.heap H locs → lv_has ls 2 [(0, .ref h), (1, .int x1)] → W p l e rmX11_turn s m args below meth c H locs 0 0 (MQ below (qX11_turn dC dI cI cZ cO cW h h_all h_has h_line h_act h_pile h_comes h_leaves h_tried h_met f_size f_next f_where f_token f_number f_sign f_word f_wrong f_open f_lines f_acts r_all Q A) args s 0 0 A) (F0 m 0 ls []) := by
  obtain ⟨hx, hb, hr, hml, hown, hts, hlocks⟩ := id hC
  intro x1 r_all H locs ls hw hP hD hS hl
  refine lv_iload_n hx hb dX11_turn_0 rfl (lv_at hl 1 rfl) ?_
  refine lv_iconst (v := (0 : Int32)) hx hb dX11_turn_1 (by decide) ?_
  refine lv_aload_n hx hb dX11_turn_2 rfl (lv_at hl 0 rfl) ?_
  refine va_get (D := (dC, dI)) (ci := 10) (v := .ref h_all) (C := RX11) (T := TX11) (N := 20) hx hb hts gu_X11 hown hK hP 0 rfl rfl 0 (by decide) (hts _ gw_607) (fun _ h9 => h9) rfl dX11_turn_3 ?_
  refine lv_bipush (v := (8 : Int32)) hx hb dX11_turn_6 (by decide) ?_
  obtain ⟨h_1, hw⟩ := hw
  refine va_iald hx hb hK hP 1 0 rfl rfl h_1 dX11_turn_8 ?_
  refine lv_iconst (v := (1 : Int32)) hx hb dX11_turn_9 (by decide) ?_
  refine lv_isub hx hb dX11_turn_10 ?_
  have hPc := hP.sub (ws' := []) [] rfl
  have hDc := hD.sub (ws' := []) [] (by decide) rfl
  have hFc := va_free (wc := []) hD hS hA [] rfl
  refine va_calli (va_runS (As := [.int x1, .int (0 : Int32), .int ((r_all (8 : Int32).toNatClampNeg) - (1 : Int32))]) (rest := []) ⟨hx, hb, hml, hown, hts⟩ (kX11_isIn l dC dI cI cZ cO cW H.size x1 (0 : Int32) ((r_all (8 : Int32).toNatClampNeg) - (1 : Int32)) _ hw) (va_cwS 3 hts (gS gw_625 gw_626 gw_622 (gM gw_623)) rfl rfl rfl (by decide +kernel) ⟨Nat.le_of_ble_eq_true rfl, Nat.le_of_ble_eq_true rfl⟩) (ps_of hPc hK hDc) rfl rfl hl.1 rfl (lv_room (Nat.le_of_ble_eq_true rfl)) dX11_turn_11 ⟨Nat.zero_le _, Nat.zero_le _⟩) hS (fun q _ h => hFc q h) hFc (fun r_2 u t H locs ht hvm hw hB hz1 hk1 hS => ?_)
  obtain ⟨hP, hD⟩ := af_join (wr := [(h, .inr (10, [.ref h_all, .ref h_has, .int f_size, .int f_next, .int f_where, .int f_token, .int f_number, .int f_sign, .int f_word, .int f_wrong, .int f_open, .int f_lines, .int f_acts, .ref h_line, .ref h_act, .ref h_pile, .ref h_comes, .ref h_leaves, .ref h_tried, .ref h_met])), (h_all, .inl (cI, 53700, .inl r_all))]) (w1 := []) hB ht hP hD [] [0, 1] rfl rfl (by decide) (by decide) hk1 hFc
  have hP : va_P (dC, dI) vwCl [(h, .inr (10, [.ref h_all, .ref h_has, .int f_size, .int f_next, .int f_where, .int f_token, .int f_number, .int f_sign, .int f_word, .int f_wrong, .int f_open, .int f_lines, .int f_acts, .ref h_line, .ref h_act, .ref h_pile, .ref h_comes, .ref h_leaves, .ref h_tried, .ref h_met])), (h_all, .inl (cI, 53700, .inl r_all))] _ := hP
  have hD : va_D A [(h, .inr (10, [.ref h_all, .ref h_has, .int f_size, .int f_next, .int f_where, .int f_token, .int f_number, .int f_sign, .int f_word, .int f_wrong, .int f_open, .int f_lines, .int f_acts, .ref h_line, .ref h_act, .ref h_pile, .ref h_comes, .ref h_leaves, .ref h_tried, .ref h_met])), (h_all, .inl (cI, 53700, .inl r_all))] := hD
  refine lv_if_eq (tgt := 29) hx hb dX11_turn_14 (by decide) (fun c_3 => ?_) (fun c_3 => ?_)
  · have hw := hw.1 c_3
    refine lv_iconst (v := (-1 : Int32)) hx hb dX11_turn_29 (by decide) ?_
    have hP9 := hP.sub (ws' := (vX11_turn cI cZ h h_all h_has h_line h_act h_pile h_comes h_leaves h_tried h_met f_size f_next f_where f_token f_number f_sign f_word f_wrong f_open f_lines f_acts r_all)) [0, 1] rfl
    have hD9 := hD.sub (ws' := (vX11_turn cI cZ h h_all h_has h_line h_act h_pile h_comes h_leaves h_tried h_met f_size f_next f_where f_token f_number f_sign f_word f_wrong f_open f_lines f_acts r_all)) [0, 1] (by decide) rfl
    exact W.iret (v := (-1 : Int32)) hx hb hr (fun t ht hW => ⟨⟨(-1 : Int32), (), rfl, hw, by rw [ht]; exact hP9, va_K.moved hW.alike hK, hD9⟩, hS.F ht⟩) hS.2.2 dX11_turn_30
  · have hw := hw.2 c_3
    refine lv_aload_n hx hb dX11_turn_17 rfl (lv_at hl 0 rfl) ?_
    refine va_get (D := (dC, dI)) (ci := 10) (v := .ref h_all) (C := RX11) (T := TX11) (N := 20) hx hb hts gu_X11 hown hK hP 0 rfl rfl 0 (by decide) (hts _ gw_607) (fun _ h9 => h9) rfl dX11_turn_18 ?_
    refine lv_bipush (v := (12 : Int32)) hx hb dX11_turn_21 (by decide) ?_
    refine lv_iload_n hx hb dX11_turn_23 rfl (lv_at hl 1 rfl) ?_
    refine lv_iadd hx hb dX11_turn_24 ?_
    obtain ⟨h_4, hw⟩ := hw
    refine va_iald hx hb hK hP 1 0 rfl rfl h_4 dX11_turn_25 ?_
    refine lv_goto (tgt := 30) hx hb dX11_turn_26 (by decide) ?_
    have hP9 := hP.sub (ws' := (vX11_turn cI cZ h h_all h_has h_line h_act h_pile h_comes h_leaves h_tried h_met f_size f_next f_where f_token f_number f_sign f_word f_wrong f_open f_lines f_acts r_all)) [0, 1] rfl
    have hD9 := hD.sub (ws' := (vX11_turn cI cZ h h_all h_has h_line h_act h_pile h_comes h_leaves h_tried h_met f_size f_next f_where f_token f_number f_sign f_word f_wrong f_open f_lines f_acts r_all)) [0, 1] (by decide) rfl
    exact W.iret (v := (r_all ((12 : Int32) + x1).toNatClampNeg)) hx hb hr (fun t ht hW => ⟨⟨(r_all ((12 : Int32) + x1).toNatClampNeg), (), rfl, hw, by rw [ht]; exact hP9, va_K.moved hW.alike hK, hD9⟩, hS.F ht⟩) hS.2.2 dX11_turn_30
set_option maxHeartbeats 4000000 in
set_option maxRecDepth 100000 in
theorem kX11_turn (l : Launch) (dC : Nat → ClassId) (dI : Nat → Nat → Nat) (cI cZ cO cW : ClassId) (h h_all h_has h_line h_act h_pile h_comes h_leaves h_tried h_met : Nat)  (sz : Nat) (f_size : Int32) (f_next : Int32) (f_where : Int32) (f_token : Int32) (f_number : Int32) (f_sign : Int32) (f_word : Int32) (f_wrong : Int32) (f_open : Int32) (f_lines : Int32) (f_acts : Int32) (r_all : Nat → Int32) (x1 : Int32) (Q : Int32 → Prop) (hw : wX11_turn Q x1 r_all) : Met l yX11_turn zsX11_turn rmX11_turn (va_Pc [.ref h, .int x1] (fun U => U.heap.size = sz ∧ va_P (dC, dI) vwCl (vX11_turn cI cZ h h_all h_has h_line h_act h_pile h_comes h_leaves h_tried h_met f_size f_next f_where f_token f_number f_sign f_word f_wrong f_open f_lines f_acts r_all) U.heap ∧ va_K (dC, dI) vwCl (tysA cI cZ cO cW) U ∧ va_D (fun _ => True) (vX11_turn cI cZ h h_all h_has h_line h_act h_pile h_comes h_leaves h_tried h_met f_size f_next f_where f_token f_number f_sign f_word f_wrong f_open f_lines f_acts r_all))) (qX11_turn dC dI cI cZ cO cW h h_all h_has h_line h_act h_pile h_comes h_leaves h_tried h_met f_size f_next f_where f_token f_number f_sign f_word f_wrong f_open f_lines f_acts r_all Q (va_A (vX11_turn cI cZ h h_all h_has h_line h_act h_pile h_comes h_leaves h_tried h_met f_size f_next f_where f_token f_number f_sign f_word f_wrong f_open f_lines f_acts r_all) sz)) 0 0 (va_A (vX11_turn cI cZ h h_all h_has h_line h_act h_pile h_comes h_leaves h_tried h_met f_size f_next f_where f_token f_number f_sign f_word f_wrong f_open f_lines f_acts r_all) sz) := by
  refine Met.ofW (cc := cX11_turn) (maxL := 2) (ret := (some .int)) (by decide) rfl ?_
  intro p e s m args below meth c s₁ B hml hv
  obtain ⟨rfl, hsz, hP, hK, hD0⟩ := hv
  subst hsz
  have hC : Cx p s m ([.ref h, .int x1] : List Value).toArray meth c cX11_turn (some .int) 2 GW RX11 := ⟨B.exec, B.bytes, B.returns, hml, findClass_of_methodNamed B.named, fun w h => atoms_spec (ws := zsX11_turn) B.pre w (List.mem_cons_of_mem _ h), B.notSynchronized⟩
  have hD := hD0.self (sz := s.heap.size)
  generalize hAe : va_A (vX11_turn cI cZ h h_all h_has h_line h_act h_pile h_comes h_leaves h_tried h_met f_size f_next f_where f_token f_number f_sign f_word f_wrong f_open f_lines f_acts r_all) s.heap.size = A at hD ⊢
  have hA : ∀ q : Nat, s.heap.size ≤ q → A q := fun q h => by rw [← hAe]; exact Or.inr h
  have hl := lv_entry ([.ref h, .int x1]) (n := 2) (Nat.le_of_ble_eq_true rfl)
  rw [lg_entry_eq]
  generalize (lg_sl ([.ref h, .int x1]) ++ List.replicate (2 - (lg_sl ([.ref h, .int x1])).length) Slot.unset).toArray = ls at hl ⊢
  exact tX11_turn_e hC hK hA x1 r_all _ _ ls hw hP hD va_S.rf hl

/-! X11_image -/
def wX11_image (Q : Int32 → (Nat → Int32) → (Nat → Int32) → Prop) (x1 : Int32) (r_all : Nat → Int32) (r_has : Nat → Int32) : Prop :=
  (wX11_isIn (fun r_1 => ((¬ r_1 = 0 → (vp_in x1 3 ∧ (wX11_copies (fun r_all_4 => (Q (1 : Int32) r_all_4 (upd r_has x1.toNatClampNeg (vp_nar .boolean (1 : Int32))))) (0 : Int32) (x1 + (1 : Int32)) r_all))) ∧ (r_1 = 0 → (Q (0 : Int32) r_all r_has)))) x1 (0 : Int32) (2 : Int32))
abbrev vX11_image (cI cZ : ClassId) (h h_all h_has h_line h_act h_pile h_comes h_leaves h_tried h_met : Nat) (f_size : Int32) (f_next : Int32) (f_where : Int32) (f_token : Int32) (f_number : Int32) (f_sign : Int32) (f_word : Int32) (f_wrong : Int32) (f_open : Int32) (f_lines : Int32) (f_acts : Int32) (r_all : Nat → Int32) (r_has : Nat → Int32) : va_W := [(h, .inr (10, [.ref h_all, .ref h_has, .int f_size, .int f_next, .int f_where, .int f_token, .int f_number, .int f_sign, .int f_word, .int f_wrong, .int f_open, .int f_lines, .int f_acts, .ref h_line, .ref h_act, .ref h_pile, .ref h_comes, .ref h_leaves, .ref h_tried, .ref h_met])), (h_all, .inl (cI, 53700, .inl r_all)), (h_has, .inl (cZ, 3, .inl r_has))]
abbrev rmX11_image : Room := { frames := 1, cells := 0, slots := 0, locals := 23 }
abbrev qX11_image (dC : Nat → ClassId) (dI : Nat → Nat → Nat) (cI cZ cO cW : ClassId) (h h_all h_has h_line h_act h_pile h_comes h_leaves h_tried h_met : Nat) (f_size : Int32) (f_next : Int32) (f_where : Int32) (f_token : Int32) (f_number : Int32) (f_sign : Int32) (f_word : Int32) (f_wrong : Int32) (f_open : Int32) (f_lines : Int32) (f_acts : Int32) (Q : Int32 → (Nat → Int32) → (Nat → Int32) → Prop) (A : Nat → Prop) : Array Value → State → Outcome → State → Prop := va_Qi (fun (r : Int32) (u : (Nat → Int32) × (Nat → Int32)) => Q r u.1 u.2) (fun (u : (Nat → Int32) × (Nat → Int32)) (t : State) => va_P (dC, dI) vwCl (vX11_image cI cZ h h_all h_has h_line h_act h_pile h_comes h_leaves h_tried h_met f_size f_next f_where f_token f_number f_sign f_word f_wrong f_open f_lines f_acts u.1 u.2) t.heap ∧ va_K (dC, dI) vwCl (tysA cI cZ cO cW) t ∧ va_D A (vX11_image cI cZ h h_all h_has h_line h_act h_pile h_comes h_leaves h_tried h_met f_size f_next f_where f_token f_number f_sign f_word f_wrong f_open f_lines f_acts u.1 u.2)) A
def zsX11_image : List Cond := Cond.code yX11_image cX11_image 2 (some .boolean) :: GW
set_option maxHeartbeats 4000000 in
set_option maxRecDepth 100000 in
theorem tX11_image_e {p : Program} {l : Launch} {e : Env} {s : State} {m : MethodId} {args : Array Value} {below : List Frame} {meth : Method} {c : Code} {dC : Nat → ClassId} {dI : Nat → Nat → Nat} {cI cZ cO cW : ClassId} {A : Nat → Prop} {h h_all h_has h_line h_act h_pile h_comes h_leaves h_tried h_met : Nat} {f_size f_next f_where f_token f_number f_sign f_word f_wrong f_open f_lines f_acts : Int32} {Q : Int32 → (Nat → Int32) → (Nat → Int32) → Prop} (hC : Cx p s m args meth c cX11_image (some .boolean) 2 GW RX11) (hK : va_K (dC, dI) vwCl (tysA cI cZ cO cW) s) (hA : ∀ q : Nat, s.heap.size ≤ q → A q) :
    ∀ (x1 : Int32) (r_all : Nat → Int32) (r_has : Nat → Int32) (H : Heap) (locs : List Loc) (ls : Array Slot), wX11_image Q x1 r_all r_has → va_P (dC, dI) vwCl (vX11_image cI cZ h h_all h_has h_line h_act h_pile h_comes h_leaves h_tried h_met f_size f_next f_where f_token f_number f_sign f_word f_wrong f_open f_lines f_acts r_all r_has) H → va_D A (vX11_image cI cZ h h_all h_has h_line h_act h_pile h_comes h_leaves h_tried h_met f_size f_next f_where f_token f_number f_sign f_word f_wrong f_open f_lines f_acts r_all r_has) → va_S A s.heap H locs → lv_has ls 2 [(0, .ref h), (1, .int x1)] → W p l e rmX11_image s m args below meth c H locs 0 0 (MQ below (qX11_image dC dI cI cZ cO cW h h_all h_has h_line h_act h_pile h_comes h_leaves h_tried h_met f_size f_next f_where f_token f_number f_sign f_word f_wrong f_open f_lines f_acts Q A) args s 0 0 A) (F0 m 0 ls []) := by
  obtain ⟨hx, hb, hr, hml, hown, hts, hlocks⟩ := id hC
  intro x1 r_all r_has H locs ls hw hP hD hS hl
  refine lv_iload_n hx hb dX11_image_0 rfl (lv_at hl 1 rfl) ?_
  refine lv_iconst (v := (0 : Int32)) hx hb dX11_image_1 (by decide) ?_
  refine lv_iconst (v := (2 : Int32)) hx hb dX11_image_2 (by decide) ?_
  have hPc := hP.sub (ws' := []) [] rfl
  have hDc := hD.sub (ws' := []) [] (by decide) rfl
  have hFc := va_free (wc := []) hD hS hA [] rfl
  refine va_calli (va_runS (As := [.int x1, .int (0 : Int32), .int (2 : Int32)]) (rest := []) ⟨hx, hb, hml, hown, hts⟩ (kX11_isIn l dC dI cI cZ cO cW H.size x1 (0 : Int32) (2 : Int32) _ hw) (va_cwS 3 hts (gS gw_625 gw_626 gw_622 (gM gw_623)) rfl rfl rfl (by decide +kernel) ⟨Nat.le_of_ble_eq_true rfl, Nat.le_of_ble_eq_true rfl⟩) (ps_of hPc hK hDc) rfl rfl hl.1 rfl (lv_room (Nat.le_of_ble_eq_true rfl)) dX11_image_3 ⟨Nat.zero_le _, Nat.zero_le _⟩) hS (fun q _ h => hFc q h) hFc (fun r_1 u t H locs ht hvm hw hB hz1 hk1 hS => ?_)
  obtain ⟨hP, hD⟩ := af_join (wr := [(h, .inr (10, [.ref h_all, .ref h_has, .int f_size, .int f_next, .int f_where, .int f_token, .int f_number, .int f_sign, .int f_word, .int f_wrong, .int f_open, .int f_lines, .int f_acts, .ref h_line, .ref h_act, .ref h_pile, .ref h_comes, .ref h_leaves, .ref h_tried, .ref h_met])), (h_all, .inl (cI, 53700, .inl r_all)), (h_has, .inl (cZ, 3, .inl r_has))]) (w1 := []) hB ht hP hD [] [0, 1, 2] rfl rfl (by decide) (by decide) hk1 hFc
  have hP : va_P (dC, dI) vwCl [(h, .inr (10, [.ref h_all, .ref h_has, .int f_size, .int f_next, .int f_where, .int f_token, .int f_number, .int f_sign, .int f_word, .int f_wrong, .int f_open, .int f_lines, .int f_acts, .ref h_line, .ref h_act, .ref h_pile, .ref h_comes, .ref h_leaves, .ref h_tried, .ref h_met])), (h_all, .inl (cI, 53700, .inl r_all)), (h_has, .inl (cZ, 3, .inl r_has))] _ := hP
  have hD : va_D A [(h, .inr (10, [.ref h_all, .ref h_has, .int f_size, .int f_next, .int f_where, .int f_token, .int f_number, .int f_sign, .int f_word, .int f_wrong, .int f_open, .int f_lines, .int f_acts, .ref h_line, .ref h_act, .ref h_pile, .ref h_comes, .ref h_leaves, .ref h_tried, .ref h_met])), (h_all, .inl (cI, 53700, .inl r_all)), (h_has, .inl (cZ, 3, .inl r_has))] := hD
  refine lv_if_ne (tgt := 11) hx hb dX11_image_6 (by decide) (fun c_2 => ?_) (fun c_2 => ?_)
  · have hw := hw.1 c_2
    refine lv_aload_n hx hb dX11_image_11 rfl (lv_at hl 0 rfl) ?_
    refine va_get (D := (dC, dI)) (ci := 10) (v := .ref h_has) (C := RX11) (T := TX11) (N := 20) hx hb hts gu_X11 hown hK hP 0 rfl rfl 1 (by decide) (hts _ gw_611) (fun _ h9 => h9) rfl dX11_image_12 ?_
    refine lv_iload_n hx hb dX11_image_15 rfl (lv_at hl 1 rfl) ?_
    refine lv_iconst (v := (1 : Int32)) hx hb dX11_image_16 (by decide) ?_
    obtain ⟨h_3, hw⟩ := hw
    refine va_zast hx hb hK hP hD hS 2 1 rfl rfl h_3 dX11_image_17 (fun H locs hP hD hS => ?_)
    have hP : va_P (dC, dI) vwCl [(h, .inr (10, [.ref h_all, .ref h_has, .int f_size, .int f_next, .int f_where, .int f_token, .int f_number, .int f_sign, .int f_word, .int f_wrong, .int f_open, .int f_lines, .int f_acts, .ref h_line, .ref h_act, .ref h_pile, .ref h_comes, .ref h_leaves, .ref h_tried, .ref h_met])), (h_all, .inl (cI, 53700, .inl r_all)), (h_has, .inl (cZ, 3, .inl (upd r_has x1.toNatClampNeg (vp_nar .boolean (1 : Int32)))))] _ := hP
    have hD : va_D A [(h, .inr (10, [.ref h_all, .ref h_has, .int f_size, .int f_next, .int f_where, .int f_token, .int f_number, .int f_sign, .int f_word, .int f_wrong, .int f_open, .int f_lines, .int f_acts, .ref h_line, .ref h_act, .ref h_pile, .ref h_comes, .ref h_leaves, .ref h_tried, .ref h_met])), (h_all, .inl (cI, 53700, .inl r_all)), (h_has, .inl (cZ, 3, .inl (upd r_has x1.toNatClampNeg (vp_nar .boolean (1 : Int32)))))] := hD
    refine lv_aload_n hx hb dX11_image_18 rfl (lv_at hl 0 rfl) ?_
    refine lv_iconst (v := (0 : Int32)) hx hb dX11_image_19 (by decide) ?_
    refine lv_iload_n hx hb dX11_image_20 rfl (lv_at hl 1 rfl) ?_
    refine lv_iconst (v := (1 : Int32)) hx hb dX11_image_21 (by decide) ?_
    refine lv_iadd hx hb dX11_image_22 ?_
    have hPc := hP.sub (ws' := [(h, .inr (10, [.ref h_all, .ref h_has, .int f_size, .int f_next, .int f_where, .int f_token, .int f_number, .int f_sign, .int f_word, .int f_wrong, .int f_open, .int f_lines, .int f_acts, .ref h_line, .ref h_act, .ref h_pile, .ref h_comes, .ref h_leaves, .ref h_tried, .ref h_met])), (h_all, .inl (cI, 53700, .inl r_all))]) [0, 1] rfl
    have hDc := hD.sub (ws' := [(h, .inr (10, [.ref h_all, .ref h_has, .int f_size, .int f_next, .int f_where, .int f_token, .int f_number, .int f_sign, .int f_word, .int f_wrong, .int f_open, .int f_lines, .int f_acts, .ref h_line, .ref h_act, .ref h_pile, .ref h_comes, .ref h_leaves, .ref h_tried, .ref h_met])), (h_all, .inl (cI, 53700, .inl r_all))]) [0, 1] (by decide) rfl
    have hFc := va_free (wc := [(h, .inr (10, [.ref h_all, .ref h_has, .int f_size, .int f_next, .int f_where, .int f_token, .int f_number, .int f_sign, .int f_word, .int f_wrong, .int f_open, .int f_lines, .int f_acts, .ref h_line, .ref h_act, .ref h_pile, .ref h_comes, .ref h_leaves, .ref h_tried, .ref h_met])), (h_all, .inl (cI, 53700, .inl r_all))]) hD hS hA [0, 1] rfl
    refine va_callv (va_runV (As := [.int (0 : Int32), .int (x1 + (1 : Int32))]) (rest := []) ⟨hx, hb, hml, hown, hts⟩ (kX11_copies l dC dI cI cZ cO cW h h_all h_has h_line h_act h_pile h_comes h_leaves h_tried h_met H.size f_size f_next f_where f_token f_number f_sign f_word f_wrong f_open f_lines f_acts r_all (0 : Int32) (x1 + (1 : Int32)) _ hw) (cwV 2 hts (gV gw_827 gw_828 gw_829 gw_622 (gM gw_826)) rfl rfl rfl (by decide +kernel) ⟨Nat.le_of_ble_eq_true rfl, Nat.le_of_ble_eq_true rfl⟩) (pv_of hPc hK hDc (va_recv hK hPc (ci := 10) (q0 := 0) rfl rfl)) rfl rfl hl.1 rfl (lv_room (Nat.le_of_ble_eq_true rfl)) dX11_image_23 ⟨Nat.zero_le _, Nat.zero_le _⟩) hS (fun q _ h => hFc q h) hFc (fun u t H locs ht hvm hw hB hz1 hk1 hS => ?_)
    obtain ⟨r_all_4, rfl⟩ : ∃ z, z = u := ⟨_, rfl⟩
    obtain ⟨hP, hD⟩ := af_join (wr := [(h_has, .inl (cZ, 3, .inl (upd r_has x1.toNatClampNeg (vp_nar .boolean (1 : Int32)))))]) (w1 := [(h, .inr (10, [.ref h_all, .ref h_has, .int f_size, .int f_next, .int f_where, .int f_token, .int f_number, .int f_sign, .int f_word, .int f_wrong, .int f_open, .int f_lines, .int f_acts, .ref h_line, .ref h_act, .ref h_pile, .ref h_comes, .ref h_leaves, .ref h_tried, .ref h_met])), (h_all, .inl (cI, 53700, .inl r_all_4))]) hB ht hP hD [0, 1] [2] rfl rfl (by decide) (by decide) hk1 hFc
    have hP : va_P (dC, dI) vwCl [(h_has, .inl (cZ, 3, .inl (upd r_has x1.toNatClampNeg (vp_nar .boolean (1 : Int32))))), (h, .inr (10, [.ref h_all, .ref h_has, .int f_size, .int f_next, .int f_where, .int f_token, .int f_number, .int f_sign, .int f_word, .int f_wrong, .int f_open, .int f_lines, .int f_acts, .ref h_line, .ref h_act, .ref h_pile, .ref h_comes, .ref h_leaves, .ref h_tried, .ref h_met])), (h_all, .inl (cI, 53700, .inl r_all_4))] _ := hP
    have hD : va_D A [(h_has, .inl (cZ, 3, .inl (upd r_has x1.toNatClampNeg (vp_nar .boolean (1 : Int32))))), (h, .inr (10, [.ref h_all, .ref h_has, .int f_size, .int f_next, .int f_where, .int f_token, .int f_number, .int f_sign, .int f_word, .int f_wrong, .int f_open, .int f_lines, .int f_acts, .ref h_line, .ref h_act, .ref h_pile, .ref h_comes, .ref h_leaves, .ref h_tried, .ref h_met])), (h_all, .inl (cI, 53700, .inl r_all_4))] := hD
    refine lv_iconst (v := (1 : Int32)) hx hb dX11_image_26 (by decide) ?_
    have hP9 := hP.sub (ws' := (vX11_image cI cZ h h_all h_has h_line h_act h_pile h_comes h_leaves h_tried h_met f_size f_next f_where f_token f_number f_sign f_word f_wrong f_open f_lines f_acts r_all_4 (upd r_has x1.toNatClampNeg (vp_nar .boolean (1 : Int32))))) [1, 2, 0] rfl
    have hD9 := hD.sub (ws' := (vX11_image cI cZ h h_all h_has h_line h_act h_pile h_comes h_leaves h_tried h_met f_size f_next f_where f_token f_number f_sign f_word f_wrong f_open f_lines f_acts r_all_4 (upd r_has x1.toNatClampNeg (vp_nar .boolean (1 : Int32))))) [1, 2, 0] (by decide) rfl
    exact W.zret (v := (1 : Int32)) (ty := .boolean) hx hb hr rfl (fun t ht hW => ⟨⟨(1 : Int32), (r_all_4, (upd r_has x1.toNatClampNeg (vp_nar .boolean (1 : Int32)))), rfl, hw, by rw [ht]; exact hP9, va_K.moved hW.alike hK, hD9⟩, hS.F ht⟩) hS.2.2 dX11_image_27
  · have hw := hw.2 c_2
    refine lv_iconst (v := (0 : Int32)) hx hb dX11_image_9 (by decide) ?_
    have hP9 := hP.sub (ws' := (vX11_image cI cZ h h_all h_has h_line h_act h_pile h_comes h_leaves h_tried h_met f_size f_next f_where f_token f_number f_sign f_word f_wrong f_open f_lines f_acts r_all r_has)) [0, 1, 2] rfl
    have hD9 := hD.sub (ws' := (vX11_image cI cZ h h_all h_has h_line h_act h_pile h_comes h_leaves h_tried h_met f_size f_next f_where f_token f_number f_sign f_word f_wrong f_open f_lines f_acts r_all r_has)) [0, 1, 2] (by decide) rfl
    exact W.zret (v := (0 : Int32)) (ty := .boolean) hx hb hr rfl (fun t ht hW => ⟨⟨(0 : Int32), (r_all, r_has), rfl, hw, by rw [ht]; exact hP9, va_K.moved hW.alike hK, hD9⟩, hS.F ht⟩) hS.2.2 dX11_image_10
set_option maxHeartbeats 4000000 in
set_option maxRecDepth 100000 in
theorem kX11_image (l : Launch) (dC : Nat → ClassId) (dI : Nat → Nat → Nat) (cI cZ cO cW : ClassId) (h h_all h_has h_line h_act h_pile h_comes h_leaves h_tried h_met : Nat)  (sz : Nat) (f_size : Int32) (f_next : Int32) (f_where : Int32) (f_token : Int32) (f_number : Int32) (f_sign : Int32) (f_word : Int32) (f_wrong : Int32) (f_open : Int32) (f_lines : Int32) (f_acts : Int32) (r_all : Nat → Int32) (r_has : Nat → Int32) (x1 : Int32) (Q : Int32 → (Nat → Int32) → (Nat → Int32) → Prop) (hw : wX11_image Q x1 r_all r_has) : Met l yX11_image zsX11_image rmX11_image (va_Pc [.ref h, .int x1] (fun U => U.heap.size = sz ∧ va_P (dC, dI) vwCl (vX11_image cI cZ h h_all h_has h_line h_act h_pile h_comes h_leaves h_tried h_met f_size f_next f_where f_token f_number f_sign f_word f_wrong f_open f_lines f_acts r_all r_has) U.heap ∧ va_K (dC, dI) vwCl (tysA cI cZ cO cW) U ∧ va_D (fun _ => True) (vX11_image cI cZ h h_all h_has h_line h_act h_pile h_comes h_leaves h_tried h_met f_size f_next f_where f_token f_number f_sign f_word f_wrong f_open f_lines f_acts r_all r_has))) (qX11_image dC dI cI cZ cO cW h h_all h_has h_line h_act h_pile h_comes h_leaves h_tried h_met f_size f_next f_where f_token f_number f_sign f_word f_wrong f_open f_lines f_acts Q (va_A (vX11_image cI cZ h h_all h_has h_line h_act h_pile h_comes h_leaves h_tried h_met f_size f_next f_where f_token f_number f_sign f_word f_wrong f_open f_lines f_acts r_all r_has) sz)) 0 0 (va_A (vX11_image cI cZ h h_all h_has h_line h_act h_pile h_comes h_leaves h_tried h_met f_size f_next f_where f_token f_number f_sign f_word f_wrong f_open f_lines f_acts r_all r_has) sz) := by
  refine Met.ofW (cc := cX11_image) (maxL := 2) (ret := (some .boolean)) (by decide) rfl ?_
  intro p e s m args below meth c s₁ B hml hv
  obtain ⟨rfl, hsz, hP, hK, hD0⟩ := hv
  subst hsz
  have hC : Cx p s m ([.ref h, .int x1] : List Value).toArray meth c cX11_image (some .boolean) 2 GW RX11 := ⟨B.exec, B.bytes, B.returns, hml, findClass_of_methodNamed B.named, fun w h => atoms_spec (ws := zsX11_image) B.pre w (List.mem_cons_of_mem _ h), B.notSynchronized⟩
  have hD := hD0.self (sz := s.heap.size)
  generalize hAe : va_A (vX11_image cI cZ h h_all h_has h_line h_act h_pile h_comes h_leaves h_tried h_met f_size f_next f_where f_token f_number f_sign f_word f_wrong f_open f_lines f_acts r_all r_has) s.heap.size = A at hD ⊢
  have hA : ∀ q : Nat, s.heap.size ≤ q → A q := fun q h => by rw [← hAe]; exact Or.inr h
  have hl := lv_entry ([.ref h, .int x1]) (n := 2) (Nat.le_of_ble_eq_true rfl)
  rw [lg_entry_eq]
  generalize (lg_sl ([.ref h, .int x1]) ++ List.replicate (2 - (lg_sl ([.ref h, .int x1])).length) Slot.unset).toArray = ls at hl ⊢
  exact tX11_image_e hC hK hA x1 r_all r_has _ _ ls hw hP hD va_S.rf hl

/-! X11_again -/
def wX11_again (Q : Int32 → (Nat → Int32) → Prop) (x1 : Int32) (r_all : Nat → Int32) (r_has : Nat → Int32) : Prop :=
  (wX11_isIn (fun r_1 => ((r_1 = 0 → (Q (0 : Int32) r_all)) ∧ (¬ r_1 = 0 → (vp_in x1 3 ∧ ((¬ (r_has x1.toNatClampNeg) = 0 → (wX11_copies (fun r_all_5 => (Q (1 : Int32) r_all_5)) (x1 + (1 : Int32)) (0 : Int32) r_all)) ∧ ((r_has x1.toNatClampNeg) = 0 → (Q (0 : Int32) r_all))))))) x1 (0 : Int32) (2 : Int32))
abbrev vX11_again (cI cZ : ClassId) (h h_all h_has h_line h_act h_pile h_comes h_leaves h_tried h_met : Nat) (f_size : Int32) (f_next : Int32) (f_where : Int32) (f_token : Int32) (f_number : Int32) (f_sign : Int32) (f_word : Int32) (f_wrong : Int32) (f_open : Int32) (f_lines : Int32) (f_acts : Int32) (r_all : Nat → Int32) (r_has : Nat → Int32) : va_W := [(h, .inr (10, [.ref h_all, .ref h_has, .int f_size, .int f_next, .int f_where, .int f_token, .int f_number, .int f_sign, .int f_word, .int f_wrong, .int f_open, .int f_lines, .int f_acts, .ref h_line, .ref h_act, .ref h_pile, .ref h_comes, .ref h_leaves, .ref h_tried, .ref h_met])), (h_all, .inl (cI, 53700, .inl r_all)), (h_has, .inl (cZ, 3, .inl r_has))]
abbrev rmX11_again : Room := { frames := 1, cells := 0, slots := 0, locals := 23 }
abbrev qX11_again (dC : Nat → ClassId) (dI : Nat → Nat → Nat) (cI cZ cO cW : ClassId) (h h_all h_has h_line h_act h_pile h_comes h_leaves h_tried h_met : Nat) (f_size : Int32) (f_next : Int32) (f_where : Int32) (f_token : Int32) (f_number : Int32) (f_sign : Int32) (f_word : Int32) (f_wrong : Int32) (f_open : Int32) (f_lines : Int32) (f_acts : Int32) (r_has : Nat → Int32) (Q : Int32 → (Nat → Int32) → Prop) (A : Nat → Prop) : Array Value → State → Outcome → State → Prop := va_Qi (fun (r : Int32) (u : (Nat → Int32)) => Q r u) (fun (u : (Nat → Int32)) (t : State) => va_P (dC, dI) vwCl (vX11_again cI cZ h h_all h_has h_line h_act h_pile h_comes h_leaves h_tried h_met f_size f_next f_where f_token f_number f_sign f_word f_wrong f_open f_lines f_acts u r_has) t.heap ∧ va_K (dC, dI) vwCl (tysA cI cZ cO cW) t ∧ va_D A (vX11_again cI cZ h h_all h_has h_line h_act h_pile h_comes h_leaves h_tried h_met f_size f_next f_where f_token f_number f_sign f_word f_wrong f_open f_lines f_acts u r_has)) A
def zsX11_again : List Cond := Cond.code yX11_again cX11_again 2 (some .boolean) :: GW
set_option maxHeartbeats 4000000 in
set_option maxRecDepth 100000 in
theorem tX11_again_e {p : Program} {l : Launch} {e : Env} {s : State} {m : MethodId} {args : Array Value} {below : List Frame} {meth : Method} {c : Code} {dC : Nat → ClassId} {dI : Nat → Nat → Nat} {cI cZ cO cW : ClassId} {A : Nat → Prop} {h h_all h_has h_line h_act h_pile h_comes h_leaves h_tried h_met : Nat} {f_size f_next f_where f_token f_number f_sign f_word f_wrong f_open f_lines f_acts : Int32} {Q : Int32 → (Nat → Int32) → Prop} (hC : Cx p s m args meth c cX11_again (some .boolean) 2 GW RX11) (hK : va_K (dC, dI) vwCl (tysA cI cZ cO cW) s) (hA : ∀ q : Nat, s.heap.size ≤ q → A q) :
    ∀ (x1 : Int32) (r_all : Nat → Int32) (r_has : Nat → Int32) (H : Heap) (locs : List Loc) (ls : Array Slot), wX11_again Q x1 r_all r_has → va_P (dC, dI) vwCl (vX11_again cI cZ h h_all h_has h_line h_act h_pile h_comes h_leaves h_tried h_met f_size f_next f_where f_token f_number f_sign f_word f_wrong f_open f_lines f_acts r_all r_has) H → va_D A (vX11_again cI cZ h h_all h_has h_line h_act h_pile h_comes h_leaves h_tried h_met f_size f_next f_where f_token f_number f_sign f_word f_wrong f_open f_lines f_acts r_all r_has) → va_S A s.heap H locs → lv_has ls 2 [(0, .ref h), (1, .int x1)] → W p l e rmX11_again s m args below meth c H locs 0 0 (MQ below (qX11_again dC dI cI cZ cO cW h h_all h_has h_line h_act h_pile h_comes h_leaves h_tried h_met f_size f_next f_where f_token f_number f_sign f_word f_wrong f_open f_lines f_acts r_has Q A) args s 0 0 A) (F0 m 0 ls []) := by
  obtain ⟨hx, hb, hr, hml, hown, hts, hlocks⟩ := id hC
  intro x1 r_all r_has H locs ls hw hP hD hS hl
  refine lv_iload_n hx hb dX11_again_0 rfl (lv_at hl 1 rfl) ?_
  refine lv_iconst (v := (0 : Int32)) hx hb dX11_again_1 (by decide) ?_
  refine lv_iconst (v := (2 : Int32)) hx hb dX11_again_2 (by decide) ?_
  have hPc := hP.sub (ws' := []) [] rfl
  have hDc := hD.sub (ws' := []) [] (by decide) rfl
  have hFc := va_free (wc := []) hD hS hA [] rfl
  refine va_calli (va_runS (As := [.int x1, .int (0 : Int32), .int (2 : Int32)]) (rest := []) ⟨hx, hb, hml, hown, hts⟩ (kX11_isIn l dC dI cI cZ cO cW H.size x1 (0 : Int32) (2 : Int32) _ hw) (va_cwS 3 hts (gS gw_625 gw_626 gw_622 (gM gw_623)) rfl rfl rfl (by decide +kernel) ⟨Nat.le_of_ble_eq_true rfl, Nat.le_of_ble_eq_true rfl⟩) (ps_of hPc hK hDc) rfl rfl hl.1 rfl (lv_room (Nat.le_of_ble_eq_true rfl)) dX11_again_3 ⟨Nat.zero_le _, Nat.zero_le _⟩) hS (fun q _ h => hFc q h) hFc (fun r_1 u t H locs ht hvm hw hB hz1 hk1 hS => ?_)
  obtain ⟨hP, hD⟩ := af_join (wr := [(h, .inr (10, [.ref h_all, .ref h_has, .int f_size, .int f_next, .int f_where, .int f_token, .int f_number, .int f_sign, .int f_word, .int f_wrong, .int f_open, .int f_lines, .int f_acts, .ref h_line, .ref h_act, .ref h_pile, .ref h_comes, .ref h_leaves, .ref h_tried, .ref h_met])), (h_all, .inl (cI, 53700, .inl r_all)), (h_has, .inl (cZ, 3, .inl r_has))]) (w1 := []) hB ht hP hD [] [0, 1, 2] rfl rfl (by decide) (by decide) hk1 hFc
  have hP : va_P (dC, dI) vwCl [(h, .inr (10, [.ref h_all, .ref h_has, .int f_size, .int f_next, .int f_where, .int f_token, .int f_number, .int f_sign, .int f_word, .int f_wrong, .int f_open, .int f_lines, .int f_acts, .ref h_line, .ref h_act, .ref h_pile, .ref h_comes, .ref h_leaves, .ref h_tried, .ref h_met])), (h_all, .inl (cI, 53700, .inl r_all)), (h_has, .inl (cZ, 3, .inl r_has))] _ := hP
  have hD : va_D A [(h, .inr (10, [.ref h_all, .ref h_has, .int f_size, .int f_next, .int f_where, .int f_token, .int f_number, .int f_sign, .int f_word, .int f_wrong, .int f_open, .int f_lines, .int f_acts, .ref h_line, .ref h_act, .ref h_pile, .ref h_comes, .ref h_leaves, .ref h_tried, .ref h_met])), (h_all, .inl (cI, 53700, .inl r_all)), (h_has, .inl (cZ, 3, .inl r_has))] := hD
  refine lv_if_eq (tgt := 18) hx hb dX11_again_6 (by decide) (fun c_2 => ?_) (fun c_2 => ?_)
  · have hw := hw.1 c_2
    refine lv_iconst (v := (0 : Int32)) hx hb dX11_again_18 (by decide) ?_
    have hP9 := hP.sub (ws' := (vX11_again cI cZ h h_all h_has h_line h_act h_pile h_comes h_leaves h_tried h_met f_size f_next f_where f_token f_number f_sign f_word f_wrong f_open f_lines f_acts r_all r_has)) [0, 1, 2] rfl
    have hD9 := hD.sub (ws' := (vX11_again cI cZ h h_all h_has h_line h_act h_pile h_comes h_leaves h_tried h_met f_size f_next f_where f_token f_number f_sign f_word f_wrong f_open f_lines f_acts r_all r_has)) [0, 1, 2] (by decide) rfl
    exact W.zret (v := (0 : Int32)) (ty := .boolean) hx hb hr rfl (fun t ht hW => ⟨⟨(0 : Int32), r_all, rfl, hw, by rw [ht]; exact hP9, va_K.moved hW.alike hK, hD9⟩, hS.F ht⟩) hS.2.2 dX11_again_19
  · have hw := hw.2 c_2
    refine lv_aload_n hx hb dX11_again_9 rfl (lv_at hl 0 rfl) ?_
    refine va_get (D := (dC, dI)) (ci := 10) (v := .ref h_has) (C := RX11) (T := TX11) (N := 20) hx hb hts gu_X11 hown hK hP 0 rfl rfl 1 (by decide) (hts _ gw_611) (fun _ h9 => h9) rfl dX11_again_10 ?_
    refine lv_iload_n hx hb dX11_again_13 rfl (lv_at hl 1 rfl) ?_
    obtain ⟨h_3, hw⟩ := hw
    refine va_zald hx hb hK hP 2 1 rfl rfl h_3 dX11_again_14 ?_
    refine lv_if_ne (tgt := 20) hx hb dX11_again_15 (by decide) (fun c_4 => ?_) (fun c_4 => ?_)
    · have hw := hw.1 c_4
      refine lv_aload_n hx hb dX11_again_20 rfl (lv_at hl 0 rfl) ?_
      refine lv_iload_n hx hb dX11_again_21 rfl (lv_at hl 1 rfl) ?_
      refine lv_iconst (v := (1 : Int32)) hx hb dX11_again_22 (by decide) ?_
      refine lv_iadd hx hb dX11_again_23 ?_
      refine lv_iconst (v := (0 : Int32)) hx hb dX11_again_24 (by decide) ?_
      have hPc := hP.sub (ws' := [(h, .inr (10, [.ref h_all, .ref h_has, .int f_size, .int f_next, .int f_where, .int f_token, .int f_number, .int f_sign, .int f_word, .int f_wrong, .int f_open, .int f_lines, .int f_acts, .ref h_line, .ref h_act, .ref h_pile, .ref h_comes, .ref h_leaves, .ref h_tried, .ref h_met])), (h_all, .inl (cI, 53700, .inl r_all))]) [0, 1] rfl
      have hDc := hD.sub (ws' := [(h, .inr (10, [.ref h_all, .ref h_has, .int f_size, .int f_next, .int f_where, .int f_token, .int f_number, .int f_sign, .int f_word, .int f_wrong, .int f_open, .int f_lines, .int f_acts, .ref h_line, .ref h_act, .ref h_pile, .ref h_comes, .ref h_leaves, .ref h_tried, .ref h_met])), (h_all, .inl (cI, 53700, .inl r_all))]) [0, 1] (by decide) rfl
      have hFc := va_free (wc := [(h, .inr (10, [.ref h_all, .ref h_has, .int f_size, .int f_next, .int f_where, .int f_token, .int f_number, .int f_sign, .int f_word, .int f_wrong, .int f_open, .int f_lines, .int f_acts, .ref h_line, .ref h_act, .ref h_pile, .ref h_comes, .ref h_leaves, .ref h_tried, .ref h_met])), (h_all, .inl (cI, 53700, .inl r_all))]) hD hS hA [0, 1] rfl
      refine va_callv (va_runV (As := [.int (x1 + (1 : Int32)), .int (0 : Int32)]) (rest := []) ⟨hx, hb, hml, hown, hts⟩ (kX11_copies l dC dI cI cZ cO cW h h_all h_has h_line h_act h_pile h_comes h_leaves h_tried h_met H.size f_size f_next f_where f_token f_number f_sign f_word f_wrong f_open f_lines f_acts r_all (x1 + (1 : Int32)) (0 : Int32) _ hw) (cwV 2 hts (gV gw_827 gw_828 gw_829 gw_622 (gM gw_826)) rfl rfl rfl (by decide +kernel) ⟨Nat.le_of_ble_eq_true rfl, Nat.le_of_ble_eq_true rfl⟩) (pv_of hPc hK hDc (va_recv hK hPc (ci := 10) (q0 := 0) rfl rfl)) rfl rfl hl.1 rfl (lv_room (Nat.le_of_ble_eq_true rfl)) dX11_again_25 ⟨Nat.zero_le _, Nat.zero_le _⟩) hS (fun q _ h => hFc q h) hFc (fun u t H locs ht hvm hw hB hz1 hk1 hS => ?_)
      obtain ⟨r_all_5, rfl⟩ : ∃ z, z = u := ⟨_, rfl⟩
      obtain ⟨hP, hD⟩ := af_join (wr := [(h_has, .inl (cZ, 3, .inl r_has))]) (w1 := [(h, .inr (10, [.ref h_all, .ref h_has, .int f_size, .int f_next, .int f_where, .int f_token, .int f_number, .int f_sign, .int f_word, .int f_wrong, .int f_open, .int f_lines, .int f_acts, .ref h_line, .ref h_act, .ref h_pile, .ref h_comes, .ref h_leaves, .ref h_tried, .ref h_met])), (h_all, .inl (cI, 53700, .inl r_all_5))]) hB ht hP hD [0, 1] [2] rfl rfl (by decide) (by decide) hk1 hFc
      have hP : va_P (dC, dI) vwCl [(h_has, .inl (cZ, 3, .inl r_has)), (h, .inr (10, [.ref h_all, .ref h_has, .int f_size, .int f_next, .int f_where, .int f_token, .int f_number, .int f_sign, .int f_word, .int f_wrong, .int f_open, .int f_lines, .int f_acts, .ref h_line, .ref h_act, .ref h_pile, .ref h_comes, .ref h_leaves, .ref h_tried, .ref h_met])), (h_all, .inl (cI, 53700, .inl r_all_5))] _ := hP
      have hD : va_D A [(h_has, .inl (cZ, 3, .inl r_has)), (h, .inr (10, [.ref h_all, .ref h_has, .int f_size, .int f_next, .int f_where, .int f_token, .int f_number, .int f_sign, .int f_word, .int f_wrong, .int f_open, .int f_lines, .int f_acts, .ref h_line, .ref h_act, .ref h_pile, .ref h_comes, .ref h_leaves, .ref h_tried, .ref h_met])), (h_all, .inl (cI, 53700, .inl r_all_5))] := hD
      refine lv_iconst (v := (1 : Int32)) hx hb dX11_again_28 (by decide) ?_
      have hP9 := hP.sub (ws' := (vX11_again cI cZ h h_all h_has h_line h_act h_pile h_comes h_leaves h_tried h_met f_size f_next f_where f_token f_number f_sign f_word f_wrong f_open f_lines f_acts r_all_5 r_has)) [1, 2, 0] rfl
      have hD9 := hD.sub (ws' := (vX11_again cI cZ h h_all h_has h_line h_act h_pile h_comes h_leaves h_tried h_met f_size f_next f_where f_token f_number f_sign f_word f_wrong f_open f_lines f_acts r_all_5 r_has)) [1, 2, 0] (by decide) rfl
      exact W.zret (v := (1 : Int32)) (ty := .boolean) hx hb hr rfl (fun t ht hW => ⟨⟨(1 : Int32), r_all_5, rfl, hw, by rw [ht]; exact hP9, va_K.moved hW.alike hK, hD9⟩, hS.F ht⟩) hS.2.2 dX11_again_29
    · have hw := hw.2 c_4
      refine lv_iconst (v := (0 : Int32)) hx hb dX11_again_18 (by decide) ?_
      have hP9 := hP.sub (ws' := (vX11_again cI cZ h h_all h_has h_line h_act h_pile h_comes h_leaves h_tried h_met f_size f_next f_where f_token f_number f_sign f_word f_wrong f_open f_lines f_acts r_all r_has)) [0, 1, 2] rfl
      have hD9 := hD.sub (ws' := (vX11_again cI cZ h h_all h_has h_line h_act h_pile h_comes h_leaves h_tried h_met f_size f_next f_where f_token f_number f_sign f_word f_wrong f_open f_lines f_acts r_all r_has)) [0, 1, 2] (by decide) rfl
      exact W.zret (v := (0 : Int32)) (ty := .boolean) hx hb hr rfl (fun t ht hW => ⟨⟨(0 : Int32), r_all, rfl, hw, by rw [ht]; exact hP9, va_K.moved hW.alike hK, hD9⟩, hS.F ht⟩) hS.2.2 dX11_again_19
set_option maxHeartbeats 4000000 in
set_option maxRecDepth 100000 in
theorem kX11_again (l : Launch) (dC : Nat → ClassId) (dI : Nat → Nat → Nat) (cI cZ cO cW : ClassId) (h h_all h_has h_line h_act h_pile h_comes h_leaves h_tried h_met : Nat)  (sz : Nat) (f_size : Int32) (f_next : Int32) (f_where : Int32) (f_token : Int32) (f_number : Int32) (f_sign : Int32) (f_word : Int32) (f_wrong : Int32) (f_open : Int32) (f_lines : Int32) (f_acts : Int32) (r_all : Nat → Int32) (r_has : Nat → Int32) (x1 : Int32) (Q : Int32 → (Nat → Int32) → Prop) (hw : wX11_again Q x1 r_all r_has) : Met l yX11_again zsX11_again rmX11_again (va_Pc [.ref h, .int x1] (fun U => U.heap.size = sz ∧ va_P (dC, dI) vwCl (vX11_again cI cZ h h_all h_has h_line h_act h_pile h_comes h_leaves h_tried h_met f_size f_next f_where f_token f_number f_sign f_word f_wrong f_open f_lines f_acts r_all r_has) U.heap ∧ va_K (dC, dI) vwCl (tysA cI cZ cO cW) U ∧ va_D (fun _ => True) (vX11_again cI cZ h h_all h_has h_line h_act h_pile h_comes h_leaves h_tried h_met f_size f_next f_where f_token f_number f_sign f_word f_wrong f_open f_lines f_acts r_all r_has))) (qX11_again dC dI cI cZ cO cW h h_all h_has h_line h_act h_pile h_comes h_leaves h_tried h_met f_size f_next f_where f_token f_number f_sign f_word f_wrong f_open f_lines f_acts r_has Q (va_A (vX11_again cI cZ h h_all h_has h_line h_act h_pile h_comes h_leaves h_tried h_met f_size f_next f_where f_token f_number f_sign f_word f_wrong f_open f_lines f_acts r_all r_has) sz)) 0 0 (va_A (vX11_again cI cZ h h_all h_has h_line h_act h_pile h_comes h_leaves h_tried h_met f_size f_next f_where f_token f_number f_sign f_word f_wrong f_open f_lines f_acts r_all r_has) sz) := by
  refine Met.ofW (cc := cX11_again) (maxL := 2) (ret := (some .boolean)) (by decide) rfl ?_
  intro p e s m args below meth c s₁ B hml hv
  obtain ⟨rfl, hsz, hP, hK, hD0⟩ := hv
  subst hsz
  have hC : Cx p s m ([.ref h, .int x1] : List Value).toArray meth c cX11_again (some .boolean) 2 GW RX11 := ⟨B.exec, B.bytes, B.returns, hml, findClass_of_methodNamed B.named, fun w h => atoms_spec (ws := zsX11_again) B.pre w (List.mem_cons_of_mem _ h), B.notSynchronized⟩
  have hD := hD0.self (sz := s.heap.size)
  generalize hAe : va_A (vX11_again cI cZ h h_all h_has h_line h_act h_pile h_comes h_leaves h_tried h_met f_size f_next f_where f_token f_number f_sign f_word f_wrong f_open f_lines f_acts r_all r_has) s.heap.size = A at hD ⊢
  have hA : ∀ q : Nat, s.heap.size ≤ q → A q := fun q h => by rw [← hAe]; exact Or.inr h
  have hl := lv_entry ([.ref h, .int x1]) (n := 2) (Nat.le_of_ble_eq_true rfl)
  rw [lg_entry_eq]
  generalize (lg_sl ([.ref h, .int x1]) ++ List.replicate (2 - (lg_sl ([.ref h, .int x1])).length) Slot.unset).toArray = ls at hl ⊢
  exact tX11_again_e hC hK hA x1 r_all r_has _ _ ls hw hP hD va_S.rf hl
