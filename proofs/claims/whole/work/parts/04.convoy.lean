theorem dX0_swap_0 : decode cX0_swap 0 = .ok (.aload_n 0, 1) := by decide +kernel
theorem dX0_swap_1 : decode cX0_swap 1 = .ok (.getfield 24, 3) := by decide +kernel
theorem dX0_swap_4 : decode cX0_swap 4 = .ok (.iload_n 1, 1) := by decide +kernel
theorem dX0_swap_5 : decode cX0_swap 5 = .ok (.iaload, 1) := by decide +kernel
theorem dX0_swap_6 : decode cX0_swap 6 = .ok (.istore_n 3, 1) := by decide +kernel
theorem dX0_swap_7 : decode cX0_swap 7 = .ok (.aload_n 0, 1) := by decide +kernel
theorem dX0_swap_8 : decode cX0_swap 8 = .ok (.getfield 24, 3) := by decide +kernel
theorem dX0_swap_11 : decode cX0_swap 11 = .ok (.iload_n 1, 1) := by decide +kernel
theorem dX0_swap_12 : decode cX0_swap 12 = .ok (.aload_n 0, 1) := by decide +kernel
theorem dX0_swap_13 : decode cX0_swap 13 = .ok (.getfield 24, 3) := by decide +kernel
theorem dX0_swap_16 : decode cX0_swap 16 = .ok (.iload_n 2, 1) := by decide +kernel
theorem dX0_swap_17 : decode cX0_swap 17 = .ok (.iaload, 1) := by decide +kernel
theorem dX0_swap_18 : decode cX0_swap 18 = .ok (.iastore, 1) := by decide +kernel
theorem dX0_swap_19 : decode cX0_swap 19 = .ok (.aload_n 0, 1) := by decide +kernel
theorem dX0_swap_20 : decode cX0_swap 20 = .ok (.getfield 24, 3) := by decide +kernel
theorem dX0_swap_23 : decode cX0_swap 23 = .ok (.iload_n 2, 1) := by decide +kernel
theorem dX0_swap_24 : decode cX0_swap 24 = .ok (.iload_n 3, 1) := by decide +kernel
theorem dX0_swap_25 : decode cX0_swap 25 = .ok (.iastore, 1) := by decide +kernel
theorem dX0_swap_26 : decode cX0_swap 26 = .ok (.return_, 1) := by decide +kernel

theorem dX0_join_0 : decode cX0_join 0 = .ok (.aload_n 0, 1) := by decide +kernel
theorem dX0_join_1 : decode cX0_join 1 = .ok (.getfield 27, 3) := by decide +kernel
theorem dX0_join_4 : decode cX0_join 4 = .ok (.bipush 6, 2) := by decide +kernel
theorem dX0_join_6 : decode cX0_join 6 = .ok (.if_icmp .lt 5, 3) := by decide +kernel
theorem dX0_join_9 : decode cX0_join 9 = .ok (.iconst (-1), 1) := by decide +kernel
theorem dX0_join_10 : decode cX0_join 10 = .ok (.ireturn, 1) := by decide +kernel
theorem dX0_join_11 : decode cX0_join 11 = .ok (.aload_n 0, 1) := by decide +kernel
theorem dX0_join_12 : decode cX0_join 12 = .ok (.getfield 9, 3) := by decide +kernel
theorem dX0_join_15 : decode cX0_join 15 = .ok (.aload_n 0, 1) := by decide +kernel
theorem dX0_join_16 : decode cX0_join 16 = .ok (.getfield 27, 3) := by decide +kernel
theorem dX0_join_19 : decode cX0_join 19 = .ok (.iload_n 1, 1) := by decide +kernel
theorem dX0_join_20 : decode cX0_join 20 = .ok (.iastore, 1) := by decide +kernel
theorem dX0_join_21 : decode cX0_join 21 = .ok (.aload_n 0, 1) := by decide +kernel
theorem dX0_join_22 : decode cX0_join 22 = .ok (.getfield 15, 3) := by decide +kernel
theorem dX0_join_25 : decode cX0_join 25 = .ok (.aload_n 0, 1) := by decide +kernel
theorem dX0_join_26 : decode cX0_join 26 = .ok (.getfield 27, 3) := by decide +kernel
theorem dX0_join_29 : decode cX0_join 29 = .ok (.iload_n 2, 1) := by decide +kernel
theorem dX0_join_30 : decode cX0_join 30 = .ok (.iastore, 1) := by decide +kernel
theorem dX0_join_31 : decode cX0_join 31 = .ok (.aload_n 0, 1) := by decide +kernel
theorem dX0_join_32 : decode cX0_join 32 = .ok (.getfield 18, 3) := by decide +kernel
theorem dX0_join_35 : decode cX0_join 35 = .ok (.aload_n 0, 1) := by decide +kernel
theorem dX0_join_36 : decode cX0_join 36 = .ok (.getfield 27, 3) := by decide +kernel
theorem dX0_join_39 : decode cX0_join 39 = .ok (.iload_n 3, 1) := by decide +kernel
theorem dX0_join_40 : decode cX0_join 40 = .ok (.iastore, 1) := by decide +kernel
theorem dX0_join_41 : decode cX0_join 41 = .ok (.aload_n 0, 1) := by decide +kernel
theorem dX0_join_42 : decode cX0_join 42 = .ok (.dup, 1) := by decide +kernel
theorem dX0_join_43 : decode cX0_join 43 = .ok (.getfield 27, 3) := by decide +kernel
theorem dX0_join_46 : decode cX0_join 46 = .ok (.iconst 1, 1) := by decide +kernel
theorem dX0_join_47 : decode cX0_join 47 = .ok (.iadd, 1) := by decide +kernel
theorem dX0_join_48 : decode cX0_join 48 = .ok (.putfield 27, 3) := by decide +kernel
theorem dX0_join_51 : decode cX0_join 51 = .ok (.aload_n 0, 1) := by decide +kernel
theorem dX0_join_52 : decode cX0_join 52 = .ok (.getfield 27, 3) := by decide +kernel
theorem dX0_join_55 : decode cX0_join 55 = .ok (.iconst 1, 1) := by decide +kernel
theorem dX0_join_56 : decode cX0_join 56 = .ok (.isub, 1) := by decide +kernel
theorem dX0_join_57 : decode cX0_join 57 = .ok (.ireturn, 1) := by decide +kernel

theorem dX0_keepTried_0 : decode cX0_keepTried 0 = .ok (.aload_n 0, 1) := by decide +kernel
theorem dX0_keepTried_1 : decode cX0_keepTried 1 = .ok (.getfield 24, 3) := by decide +kernel
theorem dX0_keepTried_4 : decode cX0_keepTried 4 = .ok (.iconst 0, 1) := by decide +kernel
theorem dX0_keepTried_5 : decode cX0_keepTried 5 = .ok (.aload_n 0, 1) := by decide +kernel
theorem dX0_keepTried_6 : decode cX0_keepTried 6 = .ok (.getfield 21, 3) := by decide +kernel
theorem dX0_keepTried_9 : decode cX0_keepTried 9 = .ok (.iconst 0, 1) := by decide +kernel
theorem dX0_keepTried_10 : decode cX0_keepTried 10 = .ok (.bipush 6, 2) := by decide +kernel
theorem dX0_keepTried_12 : decode cX0_keepTried 12 = .ok (.invokestatic 34, 3) := by decide +kernel
theorem dX0_keepTried_15 : decode cX0_keepTried 15 = .ok (.aload_n 0, 1) := by decide +kernel
theorem dX0_keepTried_16 : decode cX0_keepTried 16 = .ok (.aload_n 0, 1) := by decide +kernel
theorem dX0_keepTried_17 : decode cX0_keepTried 17 = .ok (.getfield 27, 3) := by decide +kernel
theorem dX0_keepTried_20 : decode cX0_keepTried 20 = .ok (.putfield 31, 3) := by decide +kernel
theorem dX0_keepTried_23 : decode cX0_keepTried 23 = .ok (.return_, 1) := by decide +kernel

theorem dX0_waiting_0 : decode cX0_waiting 0 = .ok (.iconst 0, 1) := by decide +kernel
theorem dX0_waiting_1 : decode cX0_waiting 1 = .ok (.istore_n 2, 1) := by decide +kernel
theorem dX0_waiting_2 : decode cX0_waiting 2 = .ok (.iconst 0, 1) := by decide +kernel
theorem dX0_waiting_3 : decode cX0_waiting 3 = .ok (.istore_n 3, 1) := by decide +kernel
theorem dX0_waiting_4 : decode cX0_waiting 4 = .ok (.iconst 0, 1) := by decide +kernel
theorem dX0_waiting_5 : decode cX0_waiting 5 = .ok (.istore 4, 2) := by decide +kernel
theorem dX0_waiting_7 : decode cX0_waiting 7 = .ok (.iconst 0, 1) := by decide +kernel
theorem dX0_waiting_8 : decode cX0_waiting 8 = .ok (.istore 5, 2) := by decide +kernel
theorem dX0_waiting_10 : decode cX0_waiting 10 = .ok (.iload 5, 2) := by decide +kernel
theorem dX0_waiting_12 : decode cX0_waiting 12 = .ok (.aload_n 0, 1) := by decide +kernel
theorem dX0_waiting_13 : decode cX0_waiting 13 = .ok (.getfield 27, 3) := by decide +kernel
theorem dX0_waiting_16 : decode cX0_waiting 16 = .ok (.if_icmp .ge 111, 3) := by decide +kernel
theorem dX0_waiting_19 : decode cX0_waiting 19 = .ok (.aload_n 0, 1) := by decide +kernel
theorem dX0_waiting_20 : decode cX0_waiting 20 = .ok (.getfield 24, 3) := by decide +kernel
theorem dX0_waiting_23 : decode cX0_waiting 23 = .ok (.iload 5, 2) := by decide +kernel
theorem dX0_waiting_25 : decode cX0_waiting 25 = .ok (.iaload, 1) := by decide +kernel
theorem dX0_waiting_26 : decode cX0_waiting 26 = .ok (.istore 6, 2) := by decide +kernel
theorem dX0_waiting_28 : decode cX0_waiting 28 = .ok (.iload_n 1, 1) := by decide +kernel
theorem dX0_waiting_29 : decode cX0_waiting 29 = .ok (.iconst 2, 1) := by decide +kernel
theorem dX0_waiting_30 : decode cX0_waiting 30 = .ok (.if_icmp .ne 13, 3) := by decide +kernel
theorem dX0_waiting_33 : decode cX0_waiting 33 = .ok (.iload 4, 2) := by decide +kernel
theorem dX0_waiting_35 : decode cX0_waiting 35 = .ok (.iload_n 3, 1) := by decide +kernel
theorem dX0_waiting_36 : decode cX0_waiting 36 = .ok (.if_icmp .ge 7, 3) := by decide +kernel
theorem dX0_waiting_39 : decode cX0_waiting 39 = .ok (.iconst 1, 1) := by decide +kernel
theorem dX0_waiting_40 : decode cX0_waiting 40 = .ok (.goto 4, 3) := by decide +kernel
theorem dX0_waiting_43 : decode cX0_waiting 43 = .ok (.iconst 0, 1) := by decide +kernel
theorem dX0_waiting_44 : decode cX0_waiting 44 = .ok (.istore 7, 2) := by decide +kernel
theorem dX0_waiting_46 : decode cX0_waiting 46 = .ok (.aload_n 0, 1) := by decide +kernel
theorem dX0_waiting_47 : decode cX0_waiting 47 = .ok (.getfield 9, 3) := by decide +kernel
theorem dX0_waiting_50 : decode cX0_waiting 50 = .ok (.iload 6, 2) := by decide +kernel
theorem dX0_waiting_52 : decode cX0_waiting 52 = .ok (.iaload, 1) := by decide +kernel
theorem dX0_waiting_53 : decode cX0_waiting 53 = .ok (.iload 7, 2) := by decide +kernel
theorem dX0_waiting_55 : decode cX0_waiting 55 = .ok (.ifCond .eq 8, 3) := by decide +kernel
theorem dX0_waiting_58 : decode cX0_waiting 58 = .ok (.iload 4, 2) := by decide +kernel
theorem dX0_waiting_60 : decode cX0_waiting 60 = .ok (.goto 4, 3) := by decide +kernel
theorem dX0_waiting_63 : decode cX0_waiting 63 = .ok (.iload_n 3, 1) := by decide +kernel
theorem dX0_waiting_64 : decode cX0_waiting 64 = .ok (.invokestatic 51, 3) := by decide +kernel
theorem dX0_waiting_67 : decode cX0_waiting 67 = .ok (.istore 8, 2) := by decide +kernel
theorem dX0_waiting_69 : decode cX0_waiting 69 = .ok (.iload_n 2, 1) := by decide +kernel
theorem dX0_waiting_70 : decode cX0_waiting 70 = .ok (.aload_n 0, 1) := by decide +kernel
theorem dX0_waiting_71 : decode cX0_waiting 71 = .ok (.getfield 18, 3) := by decide +kernel
theorem dX0_waiting_74 : decode cX0_waiting 74 = .ok (.iload 6, 2) := by decide +kernel
theorem dX0_waiting_76 : decode cX0_waiting 76 = .ok (.iaload, 1) := by decide +kernel
theorem dX0_waiting_77 : decode cX0_waiting 77 = .ok (.iload 8, 2) := by decide +kernel
theorem dX0_waiting_79 : decode cX0_waiting 79 = .ok (.aload_n 0, 1) := by decide +kernel
theorem dX0_waiting_80 : decode cX0_waiting 80 = .ok (.getfield 9, 3) := by decide +kernel
theorem dX0_waiting_83 : decode cX0_waiting 83 = .ok (.iload 6, 2) := by decide +kernel
theorem dX0_waiting_85 : decode cX0_waiting 85 = .ok (.iaload, 1) := by decide +kernel
theorem dX0_waiting_86 : decode cX0_waiting 86 = .ok (.isub, 1) := by decide +kernel
theorem dX0_waiting_87 : decode cX0_waiting 87 = .ok (.imul, 1) := by decide +kernel
theorem dX0_waiting_88 : decode cX0_waiting 88 = .ok (.iadd, 1) := by decide +kernel
theorem dX0_waiting_89 : decode cX0_waiting 89 = .ok (.istore_n 2, 1) := by decide +kernel
theorem dX0_waiting_90 : decode cX0_waiting 90 = .ok (.iload 7, 2) := by decide +kernel
theorem dX0_waiting_92 : decode cX0_waiting 92 = .ok (.ifCond .eq 18, 3) := by decide +kernel
theorem dX0_waiting_95 : decode cX0_waiting 95 = .ok (.iload 8, 2) := by decide +kernel
theorem dX0_waiting_97 : decode cX0_waiting 97 = .ok (.aload_n 0, 1) := by decide +kernel
theorem dX0_waiting_98 : decode cX0_waiting 98 = .ok (.getfield 15, 3) := by decide +kernel
theorem dX0_waiting_101 : decode cX0_waiting 101 = .ok (.iload 6, 2) := by decide +kernel
theorem dX0_waiting_103 : decode cX0_waiting 103 = .ok (.iaload, 1) := by decide +kernel
theorem dX0_waiting_104 : decode cX0_waiting 104 = .ok (.iadd, 1) := by decide +kernel
theorem dX0_waiting_105 : decode cX0_waiting 105 = .ok (.istore 4, 2) := by decide +kernel
theorem dX0_waiting_107 : decode cX0_waiting 107 = .ok (.goto 14, 3) := by decide +kernel
theorem dX0_waiting_110 : decode cX0_waiting 110 = .ok (.iload 8, 2) := by decide +kernel
theorem dX0_waiting_112 : decode cX0_waiting 112 = .ok (.aload_n 0, 1) := by decide +kernel
theorem dX0_waiting_113 : decode cX0_waiting 113 = .ok (.getfield 15, 3) := by decide +kernel
theorem dX0_waiting_116 : decode cX0_waiting 116 = .ok (.iload 6, 2) := by decide +kernel
theorem dX0_waiting_118 : decode cX0_waiting 118 = .ok (.iaload, 1) := by decide +kernel
theorem dX0_waiting_119 : decode cX0_waiting 119 = .ok (.iadd, 1) := by decide +kernel
theorem dX0_waiting_120 : decode cX0_waiting 120 = .ok (.istore_n 3, 1) := by decide +kernel
theorem dX0_waiting_121 : decode cX0_waiting 121 = .ok (.iinc 5 1, 3) := by decide +kernel
theorem dX0_waiting_124 : decode cX0_waiting 124 = .ok (.goto (-114), 3) := by decide +kernel
theorem dX0_waiting_127 : decode cX0_waiting 127 = .ok (.iload_n 2, 1) := by decide +kernel
theorem dX0_waiting_128 : decode cX0_waiting 128 = .ok (.ireturn, 1) := by decide +kernel

theorem dX0_tryDigits_0 : decode cX0_tryDigits 0 = .ok (.iconst 0, 1) := by decide +kernel
theorem dX0_tryDigits_1 : decode cX0_tryDigits 1 = .ok (.istore_n 2, 1) := by decide +kernel
theorem dX0_tryDigits_2 : decode cX0_tryDigits 2 = .ok (.iconst 0, 1) := by decide +kernel
theorem dX0_tryDigits_3 : decode cX0_tryDigits 3 = .ok (.istore_n 3, 1) := by decide +kernel
theorem dX0_tryDigits_4 : decode cX0_tryDigits 4 = .ok (.iload_n 3, 1) := by decide +kernel
theorem dX0_tryDigits_5 : decode cX0_tryDigits 5 = .ok (.aload_n 0, 1) := by decide +kernel
theorem dX0_tryDigits_6 : decode cX0_tryDigits 6 = .ok (.getfield 27, 3) := by decide +kernel
theorem dX0_tryDigits_9 : decode cX0_tryDigits 9 = .ok (.if_icmp .ge 55, 3) := by decide +kernel
theorem dX0_tryDigits_12 : decode cX0_tryDigits 12 = .ok (.iload_n 1, 1) := by decide +kernel
theorem dX0_tryDigits_13 : decode cX0_tryDigits 13 = .ok (.iconst 3, 1) := by decide +kernel
theorem dX0_tryDigits_14 : decode cX0_tryDigits 14 = .ok (.iload_n 3, 1) := by decide +kernel
theorem dX0_tryDigits_15 : decode cX0_tryDigits 15 = .ok (.imul, 1) := by decide +kernel
theorem dX0_tryDigits_16 : decode cX0_tryDigits 16 = .ok (.iushr, 1) := by decide +kernel
theorem dX0_tryDigits_17 : decode cX0_tryDigits 17 = .ok (.bipush 7, 2) := by decide +kernel
theorem dX0_tryDigits_19 : decode cX0_tryDigits 19 = .ok (.iand, 1) := by decide +kernel
theorem dX0_tryDigits_20 : decode cX0_tryDigits 20 = .ok (.istore 4, 2) := by decide +kernel
theorem dX0_tryDigits_22 : decode cX0_tryDigits 22 = .ok (.iload 4, 2) := by decide +kernel
theorem dX0_tryDigits_24 : decode cX0_tryDigits 24 = .ok (.aload_n 0, 1) := by decide +kernel
theorem dX0_tryDigits_25 : decode cX0_tryDigits 25 = .ok (.getfield 27, 3) := by decide +kernel
theorem dX0_tryDigits_28 : decode cX0_tryDigits 28 = .ok (.if_icmp .ge 13, 3) := by decide +kernel
theorem dX0_tryDigits_31 : decode cX0_tryDigits 31 = .ok (.iload_n 2, 1) := by decide +kernel
theorem dX0_tryDigits_32 : decode cX0_tryDigits 32 = .ok (.iload 4, 2) := by decide +kernel
theorem dX0_tryDigits_34 : decode cX0_tryDigits 34 = .ok (.ishr, 1) := by decide +kernel
theorem dX0_tryDigits_35 : decode cX0_tryDigits 35 = .ok (.iconst 1, 1) := by decide +kernel
theorem dX0_tryDigits_36 : decode cX0_tryDigits 36 = .ok (.iand, 1) := by decide +kernel
theorem dX0_tryDigits_37 : decode cX0_tryDigits 37 = .ok (.iconst 1, 1) := by decide +kernel
theorem dX0_tryDigits_38 : decode cX0_tryDigits 38 = .ok (.if_icmp .ne 5, 3) := by decide +kernel
theorem dX0_tryDigits_41 : decode cX0_tryDigits 41 = .ok (.iconst 0, 1) := by decide +kernel
theorem dX0_tryDigits_42 : decode cX0_tryDigits 42 = .ok (.ireturn, 1) := by decide +kernel
theorem dX0_tryDigits_43 : decode cX0_tryDigits 43 = .ok (.iload_n 2, 1) := by decide +kernel
theorem dX0_tryDigits_44 : decode cX0_tryDigits 44 = .ok (.iconst 1, 1) := by decide +kernel
theorem dX0_tryDigits_45 : decode cX0_tryDigits 45 = .ok (.iload 4, 2) := by decide +kernel
theorem dX0_tryDigits_47 : decode cX0_tryDigits 47 = .ok (.ishl, 1) := by decide +kernel
theorem dX0_tryDigits_48 : decode cX0_tryDigits 48 = .ok (.ior, 1) := by decide +kernel
theorem dX0_tryDigits_49 : decode cX0_tryDigits 49 = .ok (.istore_n 2, 1) := by decide +kernel
theorem dX0_tryDigits_50 : decode cX0_tryDigits 50 = .ok (.aload_n 0, 1) := by decide +kernel
theorem dX0_tryDigits_51 : decode cX0_tryDigits 51 = .ok (.getfield 24, 3) := by decide +kernel
theorem dX0_tryDigits_54 : decode cX0_tryDigits 54 = .ok (.iload_n 3, 1) := by decide +kernel
theorem dX0_tryDigits_55 : decode cX0_tryDigits 55 = .ok (.iload 4, 2) := by decide +kernel
theorem dX0_tryDigits_57 : decode cX0_tryDigits 57 = .ok (.iastore, 1) := by decide +kernel
theorem dX0_tryDigits_58 : decode cX0_tryDigits 58 = .ok (.iinc 3 1, 3) := by decide +kernel
theorem dX0_tryDigits_61 : decode cX0_tryDigits 61 = .ok (.goto (-57), 3) := by decide +kernel
theorem dX0_tryDigits_64 : decode cX0_tryDigits 64 = .ok (.iconst 1, 1) := by decide +kernel
theorem dX0_tryDigits_65 : decode cX0_tryDigits 65 = .ok (.ireturn, 1) := by decide +kernel

theorem dX0_tryNext_0 : decode cX0_tryNext 0 = .ok (.aload_n 0, 1) := by decide +kernel
theorem dX0_tryNext_1 : decode cX0_tryNext 1 = .ok (.getfield 27, 3) := by decide +kernel
theorem dX0_tryNext_4 : decode cX0_tryNext 4 = .ok (.iconst 2, 1) := by decide +kernel
theorem dX0_tryNext_5 : decode cX0_tryNext 5 = .ok (.isub, 1) := by decide +kernel
theorem dX0_tryNext_6 : decode cX0_tryNext 6 = .ok (.istore_n 1, 1) := by decide +kernel
theorem dX0_tryNext_7 : decode cX0_tryNext 7 = .ok (.iload_n 1, 1) := by decide +kernel
theorem dX0_tryNext_8 : decode cX0_tryNext 8 = .ok (.ifCond .lt 26, 3) := by decide +kernel
theorem dX0_tryNext_11 : decode cX0_tryNext 11 = .ok (.aload_n 0, 1) := by decide +kernel
theorem dX0_tryNext_12 : decode cX0_tryNext 12 = .ok (.getfield 24, 3) := by decide +kernel
theorem dX0_tryNext_15 : decode cX0_tryNext 15 = .ok (.iload_n 1, 1) := by decide +kernel
theorem dX0_tryNext_16 : decode cX0_tryNext 16 = .ok (.iaload, 1) := by decide +kernel
theorem dX0_tryNext_17 : decode cX0_tryNext 17 = .ok (.aload_n 0, 1) := by decide +kernel
theorem dX0_tryNext_18 : decode cX0_tryNext 18 = .ok (.getfield 24, 3) := by decide +kernel
theorem dX0_tryNext_21 : decode cX0_tryNext 21 = .ok (.iload_n 1, 1) := by decide +kernel
theorem dX0_tryNext_22 : decode cX0_tryNext 22 = .ok (.iconst 1, 1) := by decide +kernel
theorem dX0_tryNext_23 : decode cX0_tryNext 23 = .ok (.iadd, 1) := by decide +kernel
theorem dX0_tryNext_24 : decode cX0_tryNext 24 = .ok (.iaload, 1) := by decide +kernel
theorem dX0_tryNext_25 : decode cX0_tryNext 25 = .ok (.if_icmp .le 9, 3) := by decide +kernel
theorem dX0_tryNext_28 : decode cX0_tryNext 28 = .ok (.iinc 1 (-1), 3) := by decide +kernel
theorem dX0_tryNext_31 : decode cX0_tryNext 31 = .ok (.goto (-24), 3) := by decide +kernel
theorem dX0_tryNext_34 : decode cX0_tryNext 34 = .ok (.iload_n 1, 1) := by decide +kernel
theorem dX0_tryNext_35 : decode cX0_tryNext 35 = .ok (.ifCond .ge 5, 3) := by decide +kernel
theorem dX0_tryNext_38 : decode cX0_tryNext 38 = .ok (.iconst 0, 1) := by decide +kernel
theorem dX0_tryNext_39 : decode cX0_tryNext 39 = .ok (.ireturn, 1) := by decide +kernel
theorem dX0_tryNext_40 : decode cX0_tryNext 40 = .ok (.aload_n 0, 1) := by decide +kernel
theorem dX0_tryNext_41 : decode cX0_tryNext 41 = .ok (.getfield 27, 3) := by decide +kernel
theorem dX0_tryNext_44 : decode cX0_tryNext 44 = .ok (.iconst 1, 1) := by decide +kernel
theorem dX0_tryNext_45 : decode cX0_tryNext 45 = .ok (.isub, 1) := by decide +kernel
theorem dX0_tryNext_46 : decode cX0_tryNext 46 = .ok (.istore_n 2, 1) := by decide +kernel
theorem dX0_tryNext_47 : decode cX0_tryNext 47 = .ok (.iload_n 2, 1) := by decide +kernel
theorem dX0_tryNext_48 : decode cX0_tryNext 48 = .ok (.iload_n 1, 1) := by decide +kernel
theorem dX0_tryNext_49 : decode cX0_tryNext 49 = .ok (.if_icmp .le 24, 3) := by decide +kernel
theorem dX0_tryNext_52 : decode cX0_tryNext 52 = .ok (.aload_n 0, 1) := by decide +kernel
theorem dX0_tryNext_53 : decode cX0_tryNext 53 = .ok (.getfield 24, 3) := by decide +kernel
theorem dX0_tryNext_56 : decode cX0_tryNext 56 = .ok (.iload_n 2, 1) := by decide +kernel
theorem dX0_tryNext_57 : decode cX0_tryNext 57 = .ok (.iaload, 1) := by decide +kernel
theorem dX0_tryNext_58 : decode cX0_tryNext 58 = .ok (.aload_n 0, 1) := by decide +kernel
theorem dX0_tryNext_59 : decode cX0_tryNext 59 = .ok (.getfield 24, 3) := by decide +kernel
theorem dX0_tryNext_62 : decode cX0_tryNext 62 = .ok (.iload_n 1, 1) := by decide +kernel
theorem dX0_tryNext_63 : decode cX0_tryNext 63 = .ok (.iaload, 1) := by decide +kernel
theorem dX0_tryNext_64 : decode cX0_tryNext 64 = .ok (.if_icmp .ge 9, 3) := by decide +kernel
theorem dX0_tryNext_67 : decode cX0_tryNext 67 = .ok (.iinc 2 (-1), 3) := by decide +kernel
theorem dX0_tryNext_70 : decode cX0_tryNext 70 = .ok (.goto (-23), 3) := by decide +kernel
theorem dX0_tryNext_73 : decode cX0_tryNext 73 = .ok (.aload_n 0, 1) := by decide +kernel
theorem dX0_tryNext_74 : decode cX0_tryNext 74 = .ok (.iload_n 1, 1) := by decide +kernel
theorem dX0_tryNext_75 : decode cX0_tryNext 75 = .ok (.iload_n 2, 1) := by decide +kernel
theorem dX0_tryNext_76 : decode cX0_tryNext 76 = .ok (.invokevirtual 57, 3) := by decide +kernel
theorem dX0_tryNext_79 : decode cX0_tryNext 79 = .ok (.iload_n 1, 1) := by decide +kernel
theorem dX0_tryNext_80 : decode cX0_tryNext 80 = .ok (.iconst 1, 1) := by decide +kernel
theorem dX0_tryNext_81 : decode cX0_tryNext 81 = .ok (.iadd, 1) := by decide +kernel
theorem dX0_tryNext_82 : decode cX0_tryNext 82 = .ok (.istore_n 3, 1) := by decide +kernel
theorem dX0_tryNext_83 : decode cX0_tryNext 83 = .ok (.aload_n 0, 1) := by decide +kernel
theorem dX0_tryNext_84 : decode cX0_tryNext 84 = .ok (.getfield 27, 3) := by decide +kernel
theorem dX0_tryNext_87 : decode cX0_tryNext 87 = .ok (.iconst 1, 1) := by decide +kernel
theorem dX0_tryNext_88 : decode cX0_tryNext 88 = .ok (.isub, 1) := by decide +kernel
theorem dX0_tryNext_89 : decode cX0_tryNext 89 = .ok (.istore 4, 2) := by decide +kernel
theorem dX0_tryNext_91 : decode cX0_tryNext 91 = .ok (.iload_n 3, 1) := by decide +kernel
theorem dX0_tryNext_92 : decode cX0_tryNext 92 = .ok (.iload 4, 2) := by decide +kernel
theorem dX0_tryNext_94 : decode cX0_tryNext 94 = .ok (.if_icmp .ge 19, 3) := by decide +kernel
theorem dX0_tryNext_97 : decode cX0_tryNext 97 = .ok (.aload_n 0, 1) := by decide +kernel
theorem dX0_tryNext_98 : decode cX0_tryNext 98 = .ok (.iload_n 3, 1) := by decide +kernel
theorem dX0_tryNext_99 : decode cX0_tryNext 99 = .ok (.iload 4, 2) := by decide +kernel
theorem dX0_tryNext_101 : decode cX0_tryNext 101 = .ok (.invokevirtual 57, 3) := by decide +kernel
theorem dX0_tryNext_104 : decode cX0_tryNext 104 = .ok (.iinc 3 1, 3) := by decide +kernel
theorem dX0_tryNext_107 : decode cX0_tryNext 107 = .ok (.iinc 4 (-1), 3) := by decide +kernel
theorem dX0_tryNext_110 : decode cX0_tryNext 110 = .ok (.goto (-19), 3) := by decide +kernel
theorem dX0_tryNext_113 : decode cX0_tryNext 113 = .ok (.iconst 1, 1) := by decide +kernel
theorem dX0_tryNext_114 : decode cX0_tryNext 114 = .ok (.ireturn, 1) := by decide +kernel

theorem dX0_settle_0 : decode cX0_settle 0 = .ok (.iconst 0, 1) := by decide +kernel
theorem dX0_settle_1 : decode cX0_settle 1 = .ok (.istore_n 2, 1) := by decide +kernel
theorem dX0_settle_2 : decode cX0_settle 2 = .ok (.iload_n 2, 1) := by decide +kernel
theorem dX0_settle_3 : decode cX0_settle 3 = .ok (.aload_n 0, 1) := by decide +kernel
theorem dX0_settle_4 : decode cX0_settle 4 = .ok (.getfield 27, 3) := by decide +kernel
theorem dX0_settle_7 : decode cX0_settle 7 = .ok (.if_icmp .ge 16, 3) := by decide +kernel
theorem dX0_settle_10 : decode cX0_settle 10 = .ok (.aload_n 0, 1) := by decide +kernel
theorem dX0_settle_11 : decode cX0_settle 11 = .ok (.getfield 24, 3) := by decide +kernel
theorem dX0_settle_14 : decode cX0_settle 14 = .ok (.iload_n 2, 1) := by decide +kernel
theorem dX0_settle_15 : decode cX0_settle 15 = .ok (.iload_n 2, 1) := by decide +kernel
theorem dX0_settle_16 : decode cX0_settle 16 = .ok (.iastore, 1) := by decide +kernel
theorem dX0_settle_17 : decode cX0_settle 17 = .ok (.iinc 2 1, 3) := by decide +kernel
theorem dX0_settle_20 : decode cX0_settle 20 = .ok (.goto (-18), 3) := by decide +kernel
theorem dX0_settle_23 : decode cX0_settle 23 = .ok (.aload_n 0, 1) := by decide +kernel
theorem dX0_settle_24 : decode cX0_settle 24 = .ok (.iload_n 1, 1) := by decide +kernel
theorem dX0_settle_25 : decode cX0_settle 25 = .ok (.invokevirtual 40, 3) := by decide +kernel
theorem dX0_settle_28 : decode cX0_settle 28 = .ok (.istore_n 2, 1) := by decide +kernel
theorem dX0_settle_29 : decode cX0_settle 29 = .ok (.aload_n 0, 1) := by decide +kernel
theorem dX0_settle_30 : decode cX0_settle 30 = .ok (.invokevirtual 44, 3) := by decide +kernel
theorem dX0_settle_33 : decode cX0_settle 33 = .ok (.iconst 1, 1) := by decide +kernel
theorem dX0_settle_34 : decode cX0_settle 34 = .ok (.istore_n 3, 1) := by decide +kernel
theorem dX0_settle_35 : decode cX0_settle 35 = .ok (.iload_n 3, 1) := by decide +kernel
theorem dX0_settle_36 : decode cX0_settle 36 = .ok (.sipush 720, 3) := by decide +kernel
theorem dX0_settle_39 : decode cX0_settle 39 = .ok (.if_icmp .ge 40, 3) := by decide +kernel
theorem dX0_settle_42 : decode cX0_settle 42 = .ok (.iload_n 2, 1) := by decide +kernel
theorem dX0_settle_43 : decode cX0_settle 43 = .ok (.ifCond .le 36, 3) := by decide +kernel
theorem dX0_settle_46 : decode cX0_settle 46 = .ok (.aload_n 0, 1) := by decide +kernel
theorem dX0_settle_47 : decode cX0_settle 47 = .ok (.invokevirtual 47, 3) := by decide +kernel
theorem dX0_settle_50 : decode cX0_settle 50 = .ok (.ifCond .eq 29, 3) := by decide +kernel
theorem dX0_settle_53 : decode cX0_settle 53 = .ok (.aload_n 0, 1) := by decide +kernel
theorem dX0_settle_54 : decode cX0_settle 54 = .ok (.iload_n 1, 1) := by decide +kernel
theorem dX0_settle_55 : decode cX0_settle 55 = .ok (.invokevirtual 40, 3) := by decide +kernel
theorem dX0_settle_58 : decode cX0_settle 58 = .ok (.istore 4, 2) := by decide +kernel
theorem dX0_settle_60 : decode cX0_settle 60 = .ok (.iload 4, 2) := by decide +kernel
theorem dX0_settle_62 : decode cX0_settle 62 = .ok (.iload_n 2, 1) := by decide +kernel
theorem dX0_settle_63 : decode cX0_settle 63 = .ok (.if_icmp .ge 10, 3) := by decide +kernel
theorem dX0_settle_66 : decode cX0_settle 66 = .ok (.iload 4, 2) := by decide +kernel
theorem dX0_settle_68 : decode cX0_settle 68 = .ok (.istore_n 2, 1) := by decide +kernel
theorem dX0_settle_69 : decode cX0_settle 69 = .ok (.aload_n 0, 1) := by decide +kernel
theorem dX0_settle_70 : decode cX0_settle 70 = .ok (.invokevirtual 44, 3) := by decide +kernel
theorem dX0_settle_73 : decode cX0_settle 73 = .ok (.iinc 3 1, 3) := by decide +kernel
theorem dX0_settle_76 : decode cX0_settle 76 = .ok (.goto (-41), 3) := by decide +kernel
theorem dX0_settle_79 : decode cX0_settle 79 = .ok (.iload_n 2, 1) := by decide +kernel
theorem dX0_settle_80 : decode cX0_settle 80 = .ok (.ireturn, 1) := by decide +kernel

theorem dX0_copy_0 : decode cX0_copy 0 = .ok (.aload_n 0, 1) := by decide +kernel
theorem dX0_copy_1 : decode cX0_copy 1 = .ok (.aload_n 1, 1) := by decide +kernel
theorem dX0_copy_2 : decode cX0_copy 2 = .ok (.getfield 27, 3) := by decide +kernel
theorem dX0_copy_5 : decode cX0_copy 5 = .ok (.putfield 27, 3) := by decide +kernel
theorem dX0_copy_8 : decode cX0_copy 8 = .ok (.aload_n 0, 1) := by decide +kernel
theorem dX0_copy_9 : decode cX0_copy 9 = .ok (.aload_n 1, 1) := by decide +kernel
theorem dX0_copy_10 : decode cX0_copy 10 = .ok (.getfield 31, 3) := by decide +kernel
theorem dX0_copy_13 : decode cX0_copy 13 = .ok (.putfield 31, 3) := by decide +kernel
theorem dX0_copy_16 : decode cX0_copy 16 = .ok (.aload_n 1, 1) := by decide +kernel
theorem dX0_copy_17 : decode cX0_copy 17 = .ok (.getfield 9, 3) := by decide +kernel
theorem dX0_copy_20 : decode cX0_copy 20 = .ok (.iconst 0, 1) := by decide +kernel
theorem dX0_copy_21 : decode cX0_copy 21 = .ok (.aload_n 0, 1) := by decide +kernel
theorem dX0_copy_22 : decode cX0_copy 22 = .ok (.getfield 9, 3) := by decide +kernel
theorem dX0_copy_25 : decode cX0_copy 25 = .ok (.iconst 0, 1) := by decide +kernel
theorem dX0_copy_26 : decode cX0_copy 26 = .ok (.bipush 6, 2) := by decide +kernel
theorem dX0_copy_28 : decode cX0_copy 28 = .ok (.invokestatic 34, 3) := by decide +kernel
theorem dX0_copy_31 : decode cX0_copy 31 = .ok (.aload_n 1, 1) := by decide +kernel
theorem dX0_copy_32 : decode cX0_copy 32 = .ok (.getfield 15, 3) := by decide +kernel
theorem dX0_copy_35 : decode cX0_copy 35 = .ok (.iconst 0, 1) := by decide +kernel
theorem dX0_copy_36 : decode cX0_copy 36 = .ok (.aload_n 0, 1) := by decide +kernel
theorem dX0_copy_37 : decode cX0_copy 37 = .ok (.getfield 15, 3) := by decide +kernel
theorem dX0_copy_40 : decode cX0_copy 40 = .ok (.iconst 0, 1) := by decide +kernel
theorem dX0_copy_41 : decode cX0_copy 41 = .ok (.bipush 6, 2) := by decide +kernel
theorem dX0_copy_43 : decode cX0_copy 43 = .ok (.invokestatic 34, 3) := by decide +kernel
theorem dX0_copy_46 : decode cX0_copy 46 = .ok (.aload_n 1, 1) := by decide +kernel
theorem dX0_copy_47 : decode cX0_copy 47 = .ok (.getfield 18, 3) := by decide +kernel
theorem dX0_copy_50 : decode cX0_copy 50 = .ok (.iconst 0, 1) := by decide +kernel
theorem dX0_copy_51 : decode cX0_copy 51 = .ok (.aload_n 0, 1) := by decide +kernel
theorem dX0_copy_52 : decode cX0_copy 52 = .ok (.getfield 18, 3) := by decide +kernel
theorem dX0_copy_55 : decode cX0_copy 55 = .ok (.iconst 0, 1) := by decide +kernel
theorem dX0_copy_56 : decode cX0_copy 56 = .ok (.bipush 6, 2) := by decide +kernel
theorem dX0_copy_58 : decode cX0_copy 58 = .ok (.invokestatic 34, 3) := by decide +kernel
theorem dX0_copy_61 : decode cX0_copy 61 = .ok (.aload_n 1, 1) := by decide +kernel
theorem dX0_copy_62 : decode cX0_copy 62 = .ok (.getfield 21, 3) := by decide +kernel
theorem dX0_copy_65 : decode cX0_copy 65 = .ok (.iconst 0, 1) := by decide +kernel
theorem dX0_copy_66 : decode cX0_copy 66 = .ok (.aload_n 0, 1) := by decide +kernel
theorem dX0_copy_67 : decode cX0_copy 67 = .ok (.getfield 21, 3) := by decide +kernel
theorem dX0_copy_70 : decode cX0_copy 70 = .ok (.iconst 0, 1) := by decide +kernel
theorem dX0_copy_71 : decode cX0_copy 71 = .ok (.bipush 6, 2) := by decide +kernel
theorem dX0_copy_73 : decode cX0_copy 73 = .ok (.invokestatic 34, 3) := by decide +kernel
theorem dX0_copy_76 : decode cX0_copy 76 = .ok (.return_, 1) := by decide +kernel

/-! X0_swap -/
def wX0_swap (Q : (Nat → Int32) → Prop) (x1 : Int32) (x2 : Int32) (r_tried : Nat → Int32) : Prop :=
  (vp_in x1 6 ∧ (vp_in x2 6 ∧ (vp_in x1 6 ∧ (vp_in x2 6 ∧ (Q (upd (upd r_tried x1.toNatClampNeg (r_tried x2.toNatClampNeg)) x2.toNatClampNeg (r_tried x1.toNatClampNeg)))))))
abbrev vX0_swap (cI cZ : ClassId) (h h_from h_takes h_worth h_settled h_tried : Nat) (f_size : Int32) (f_settledSize : Int32) (r_tried : Nat → Int32) : va_W := [(h, .inr (0, [.ref h_from, .ref h_takes, .ref h_worth, .ref h_settled, .ref h_tried, .int f_size, .int f_settledSize])), (h_tried, .inl (cI, 6, .inl r_tried))]
abbrev rmX0_swap : Room := { frames := 0, cells := 0, slots := 0, locals := 0 }
abbrev qX0_swap (dC : Nat → ClassId) (dI : Nat → Nat → Nat) (cI cZ cO cW : ClassId) (h h_from h_takes h_worth h_settled h_tried : Nat) (f_size : Int32) (f_settledSize : Int32) (Q : (Nat → Int32) → Prop) (A : Nat → Prop) : Array Value → State → Outcome → State → Prop := va_Qv (fun (u : (Nat → Int32)) => Q u) (fun (u : (Nat → Int32)) (t : State) => va_P (dC, dI) vwCl (vX0_swap cI cZ h h_from h_takes h_worth h_settled h_tried f_size f_settledSize u) t.heap ∧ va_K (dC, dI) vwCl (tysA cI cZ cO cW) t ∧ va_D A (vX0_swap cI cZ h h_from h_takes h_worth h_settled h_tried f_size f_settledSize u)) A
def zsX0_swap : List Cond := Cond.code yX0_swap cX0_swap 4 none :: GW
set_option maxHeartbeats 4000000 in
set_option maxRecDepth 100000 in
theorem tX0_swap_e {p : Program} {l : Launch} {e : Env} {s : State} {m : MethodId} {args : Array Value} {below : List Frame} {meth : Method} {c : Code} {dC : Nat → ClassId} {dI : Nat → Nat → Nat} {cI cZ cO cW : ClassId} {A : Nat → Prop} {h h_from h_takes h_worth h_settled h_tried : Nat} {f_size f_settledSize : Int32} {Q : (Nat → Int32) → Prop} (hC : Cx p s m args meth c cX0_swap none 4 GW RX0) (hK : va_K (dC, dI) vwCl (tysA cI cZ cO cW) s) (hA : ∀ q : Nat, s.heap.size ≤ q → A q) :
    ∀ (x1 : Int32) (x2 : Int32) (r_tried : Nat → Int32) (H : Heap) (locs : List Loc) (ls : Array Slot), wX0_swap Q x1 x2 r_tried → va_P (dC, dI) vwCl (vX0_swap cI cZ h h_from h_takes h_worth h_settled h_tried f_size f_settledSize r_tried) H → va_D A (vX0_swap cI cZ h h_from h_takes h_worth h_settled h_tried f_size f_settledSize r_tried) → va_S A s.heap H locs → lv_has ls 4 [(0, .ref h), (1, .int x1), (2, .int x2)] → W p l e rmX0_swap s m args below meth c H locs 0 0 (MQ below (qX0_swap dC dI cI cZ cO cW h h_from h_takes h_worth h_settled h_tried f_size f_settledSize Q A) args s 0 0 A) (F0 m 0 ls []) := by
  obtain ⟨hx, hb, hr, hml, hown, hts, hlocks⟩ := id hC
  intro x1 x2 r_tried H locs ls hw hP hD hS hl
  refine lv_aload_n hx hb dX0_swap_0 rfl (lv_at hl 0 rfl) ?_
  refine va_get (D := (dC, dI)) (ci := 0) (v := .ref h_tried) (C := RX0) (T := TX0) (N := 7) hx hb hts gu_X0 hown hK hP 0 rfl rfl 4 (by decide) (hts _ gw_9) (fun _ h9 => h9) rfl dX0_swap_1 ?_
  refine lv_iload_n hx hb dX0_swap_4 rfl (lv_at hl 1 rfl) ?_
  obtain ⟨h_1, hw⟩ := hw
  refine va_iald hx hb hK hP 1 0 rfl rfl h_1 dX0_swap_5 ?_
  refine lv_istore_n (lv' := [(3, .int (r_tried x1.toNatClampNeg)), (0, .ref h), (1, .int x1), (2, .int x2)]) hx hb dX0_swap_6 rfl hl (by decide) rfl (fun ls hl => ?_)
  refine lv_aload_n hx hb dX0_swap_7 rfl (lv_at hl 1 rfl) ?_
  refine va_get (D := (dC, dI)) (ci := 0) (v := .ref h_tried) (C := RX0) (T := TX0) (N := 7) hx hb hts gu_X0 hown hK hP 0 rfl rfl 4 (by decide) (hts _ gw_9) (fun _ h9 => h9) rfl dX0_swap_8 ?_
  refine lv_iload_n hx hb dX0_swap_11 rfl (lv_at hl 2 rfl) ?_
  refine lv_aload_n hx hb dX0_swap_12 rfl (lv_at hl 1 rfl) ?_
  refine va_get (D := (dC, dI)) (ci := 0) (v := .ref h_tried) (C := RX0) (T := TX0) (N := 7) hx hb hts gu_X0 hown hK hP 0 rfl rfl 4 (by decide) (hts _ gw_9) (fun _ h9 => h9) rfl dX0_swap_13 ?_
  refine lv_iload_n hx hb dX0_swap_16 rfl (lv_at hl 3 rfl) ?_
  obtain ⟨h_2, hw⟩ := hw
  refine va_iald hx hb hK hP 1 0 rfl rfl h_2 dX0_swap_17 ?_
  obtain ⟨h_3, hw⟩ := hw
  refine va_iast hx hb hK hP hD hS 1 0 rfl rfl h_3 dX0_swap_18 (fun H locs hP hD hS => ?_)
  have hP : va_P (dC, dI) vwCl [(h, .inr (0, [.ref h_from, .ref h_takes, .ref h_worth, .ref h_settled, .ref h_tried, .int f_size, .int f_settledSize])), (h_tried, .inl (cI, 6, .inl (upd r_tried x1.toNatClampNeg (r_tried x2.toNatClampNeg))))] _ := hP
  have hD : va_D A [(h, .inr (0, [.ref h_from, .ref h_takes, .ref h_worth, .ref h_settled, .ref h_tried, .int f_size, .int f_settledSize])), (h_tried, .inl (cI, 6, .inl (upd r_tried x1.toNatClampNeg (r_tried x2.toNatClampNeg))))] := hD
  refine lv_aload_n hx hb dX0_swap_19 rfl (lv_at hl 1 rfl) ?_
  refine va_get (D := (dC, dI)) (ci := 0) (v := .ref h_tried) (C := RX0) (T := TX0) (N := 7) hx hb hts gu_X0 hown hK hP 0 rfl rfl 4 (by decide) (hts _ gw_9) (fun _ h9 => h9) rfl dX0_swap_20 ?_
  refine lv_iload_n hx hb dX0_swap_23 rfl (lv_at hl 3 rfl) ?_
  refine lv_iload_n hx hb dX0_swap_24 rfl (lv_at hl 0 rfl) ?_
  obtain ⟨h_4, hw⟩ := hw
  refine va_iast hx hb hK hP hD hS 1 0 rfl rfl h_4 dX0_swap_25 (fun H locs hP hD hS => ?_)
  have hP : va_P (dC, dI) vwCl [(h, .inr (0, [.ref h_from, .ref h_takes, .ref h_worth, .ref h_settled, .ref h_tried, .int f_size, .int f_settledSize])), (h_tried, .inl (cI, 6, .inl (upd (upd r_tried x1.toNatClampNeg (r_tried x2.toNatClampNeg)) x2.toNatClampNeg (r_tried x1.toNatClampNeg))))] _ := hP
  have hD : va_D A [(h, .inr (0, [.ref h_from, .ref h_takes, .ref h_worth, .ref h_settled, .ref h_tried, .int f_size, .int f_settledSize])), (h_tried, .inl (cI, 6, .inl (upd (upd r_tried x1.toNatClampNeg (r_tried x2.toNatClampNeg)) x2.toNatClampNeg (r_tried x1.toNatClampNeg))))] := hD
  have hP9 := hP.sub (ws' := (vX0_swap cI cZ h h_from h_takes h_worth h_settled h_tried f_size f_settledSize (upd (upd r_tried x1.toNatClampNeg (r_tried x2.toNatClampNeg)) x2.toNatClampNeg (r_tried x1.toNatClampNeg)))) [0, 1] rfl
  have hD9 := hD.sub (ws' := (vX0_swap cI cZ h h_from h_takes h_worth h_settled h_tried f_size f_settledSize (upd (upd r_tried x1.toNatClampNeg (r_tried x2.toNatClampNeg)) x2.toNatClampNeg (r_tried x1.toNatClampNeg)))) [0, 1] (by decide) rfl
  exact W.vret hx hb hr (fun t ht hW => ⟨⟨(upd (upd r_tried x1.toNatClampNeg (r_tried x2.toNatClampNeg)) x2.toNatClampNeg (r_tried x1.toNatClampNeg)), rfl, hw, by rw [ht]; exact hP9, va_K.moved hW.alike hK, hD9⟩, hS.F ht⟩) hS.2.2 dX0_swap_26
set_option maxHeartbeats 4000000 in
set_option maxRecDepth 100000 in
theorem kX0_swap (l : Launch) (dC : Nat → ClassId) (dI : Nat → Nat → Nat) (cI cZ cO cW : ClassId) (h h_from h_takes h_worth h_settled h_tried : Nat)  (sz : Nat) (f_size : Int32) (f_settledSize : Int32) (r_tried : Nat → Int32) (x1 : Int32) (x2 : Int32) (Q : (Nat → Int32) → Prop) (hw : wX0_swap Q x1 x2 r_tried) : Met l yX0_swap zsX0_swap rmX0_swap (va_Pc [.ref h, .int x1, .int x2] (fun U => U.heap.size = sz ∧ va_P (dC, dI) vwCl (vX0_swap cI cZ h h_from h_takes h_worth h_settled h_tried f_size f_settledSize r_tried) U.heap ∧ va_K (dC, dI) vwCl (tysA cI cZ cO cW) U ∧ va_D (fun _ => True) (vX0_swap cI cZ h h_from h_takes h_worth h_settled h_tried f_size f_settledSize r_tried))) (qX0_swap dC dI cI cZ cO cW h h_from h_takes h_worth h_settled h_tried f_size f_settledSize Q (va_A (vX0_swap cI cZ h h_from h_takes h_worth h_settled h_tried f_size f_settledSize r_tried) sz)) 0 0 (va_A (vX0_swap cI cZ h h_from h_takes h_worth h_settled h_tried f_size f_settledSize r_tried) sz) := by
  refine Met.ofW (cc := cX0_swap) (maxL := 4) (ret := none) (by decide) rfl ?_
  intro p e s m args below meth c s₁ B hml hv
  obtain ⟨rfl, hsz, hP, hK, hD0⟩ := hv
  subst hsz
  have hC : Cx p s m ([.ref h, .int x1, .int x2] : List Value).toArray meth c cX0_swap none 4 GW RX0 := ⟨B.exec, B.bytes, B.returns, hml, findClass_of_methodNamed B.named, fun w h => atoms_spec (ws := zsX0_swap) B.pre w (List.mem_cons_of_mem _ h), B.notSynchronized⟩
  have hD := hD0.self (sz := s.heap.size)
  generalize hAe : va_A (vX0_swap cI cZ h h_from h_takes h_worth h_settled h_tried f_size f_settledSize r_tried) s.heap.size = A at hD ⊢
  have hA : ∀ q : Nat, s.heap.size ≤ q → A q := fun q h => by rw [← hAe]; exact Or.inr h
  have hl := lv_entry ([.ref h, .int x1, .int x2]) (n := 4) (Nat.le_of_ble_eq_true rfl)
  rw [lg_entry_eq]
  generalize (lg_sl ([.ref h, .int x1, .int x2]) ++ List.replicate (4 - (lg_sl ([.ref h, .int x1, .int x2])).length) Slot.unset).toArray = ls at hl ⊢
  exact tX0_swap_e hC hK hA x1 x2 r_tried _ _ ls hw hP hD va_S.rf hl

/-! X0_join -/
def wX0_join (Q : Int32 → Int32 → (Nat → Int32) → (Nat → Int32) → (Nat → Int32) → Prop) (x1 : Int32) (x2 : Int32) (x3 : Int32) (f_size : Int32) (r_from : Nat → Int32) (r_takes : Nat → Int32) (r_worth : Nat → Int32) : Prop :=
  ((f_size < (6 : Int32) → (vp_in f_size 6 ∧ (vp_in f_size 6 ∧ (vp_in f_size 6 ∧ (Q ((f_size + (1 : Int32)) - (1 : Int32)) (f_size + (1 : Int32)) (upd r_from f_size.toNatClampNeg x1) (upd r_takes f_size.toNatClampNeg x2) (upd r_worth f_size.toNatClampNeg x3)))))) ∧ (¬ f_size < (6 : Int32) → (Q (-1 : Int32) f_size r_from r_takes r_worth)))
abbrev vX0_join (cI cZ : ClassId) (h h_from h_takes h_worth h_settled h_tried : Nat) (f_settledSize : Int32) (f_size : Int32) (r_from : Nat → Int32) (r_takes : Nat → Int32) (r_worth : Nat → Int32) : va_W := [(h, .inr (0, [.ref h_from, .ref h_takes, .ref h_worth, .ref h_settled, .ref h_tried, .int f_size, .int f_settledSize])), (h_from, .inl (cI, 6, .inl r_from)), (h_takes, .inl (cI, 6, .inl r_takes)), (h_worth, .inl (cI, 6, .inl r_worth))]
abbrev rmX0_join : Room := { frames := 0, cells := 0, slots := 0, locals := 0 }
abbrev qX0_join (dC : Nat → ClassId) (dI : Nat → Nat → Nat) (cI cZ cO cW : ClassId) (h h_from h_takes h_worth h_settled h_tried : Nat) (f_settledSize : Int32) (Q : Int32 → Int32 → (Nat → Int32) → (Nat → Int32) → (Nat → Int32) → Prop) (A : Nat → Prop) : Array Value → State → Outcome → State → Prop := va_Qi (fun (r : Int32) (u : Int32 × (Nat → Int32) × (Nat → Int32) × (Nat → Int32)) => Q r u.1 u.2.1 u.2.2.1 u.2.2.2) (fun (u : Int32 × (Nat → Int32) × (Nat → Int32) × (Nat → Int32)) (t : State) => va_P (dC, dI) vwCl (vX0_join cI cZ h h_from h_takes h_worth h_settled h_tried f_settledSize u.1 u.2.1 u.2.2.1 u.2.2.2) t.heap ∧ va_K (dC, dI) vwCl (tysA cI cZ cO cW) t ∧ va_D A (vX0_join cI cZ h h_from h_takes h_worth h_settled h_tried f_settledSize u.1 u.2.1 u.2.2.1 u.2.2.2)) A
def zsX0_join : List Cond := Cond.code yX0_join cX0_join 4 (some .int) :: GW
set_option maxHeartbeats 4000000 in
set_option maxRecDepth 100000 in
theorem tX0_join_e {p : Program} {l : Launch} {e : Env} {s : State} {m : MethodId} {args : Array Value} {below : List Frame} {meth : Method} {c : Code} {dC : Nat → ClassId} {dI : Nat → Nat → Nat} {cI cZ cO cW : ClassId} {A : Nat → Prop} {h h_from h_takes h_worth h_settled h_tried : Nat} {f_settledSize : Int32} {Q : Int32 → Int32 → (Nat → Int32) → (Nat → Int32) → (Nat → Int32) → Prop} (hC : Cx p s m args meth c cX0_join (some .int) 4 GW RX0) (hK : va_K (dC, dI) vwCl (tysA cI cZ cO cW) s) (hA : ∀ q : Nat, s.heap.size ≤ q → A q) :
    ∀ (x1 : Int32) (x2 : Int32) (x3 : Int32) (f_size : Int32) (r_from : Nat → Int32) (r_takes : Nat → Int32) (r_worth : Nat → Int32) (H : Heap) (locs : List Loc) (ls : Array Slot), wX0_join Q x1 x2 x3 f_size r_from r_takes r_worth → va_P (dC, dI) vwCl (vX0_join cI cZ h h_from h_takes h_worth h_settled h_tried f_settledSize f_size r_from r_takes r_worth) H → va_D A (vX0_join cI cZ h h_from h_takes h_worth h_settled h_tried f_settledSize f_size r_from r_takes r_worth) → va_S A s.heap H locs → lv_has ls 4 [(0, .ref h), (1, .int x1), (2, .int x2), (3, .int x3)] → W p l e rmX0_join s m args below meth c H locs 0 0 (MQ below (qX0_join dC dI cI cZ cO cW h h_from h_takes h_worth h_settled h_tried f_settledSize Q A) args s 0 0 A) (F0 m 0 ls []) := by
  obtain ⟨hx, hb, hr, hml, hown, hts, hlocks⟩ := id hC
  intro x1 x2 x3 f_size r_from r_takes r_worth H locs ls hw hP hD hS hl
  refine lv_aload_n hx hb dX0_join_0 rfl (lv_at hl 0 rfl) ?_
  refine va_get (D := (dC, dI)) (ci := 0) (v := .int f_size) (C := RX0) (T := TX0) (N := 7) hx hb hts gu_X0 hown hK hP 0 rfl rfl 5 (by decide) (hts _ gw_10) (fun _ h9 => h9) rfl dX0_join_1 ?_
  refine lv_bipush (v := (6 : Int32)) hx hb dX0_join_4 (by decide) ?_
  refine lv_icmp_lt (tgt := 11) hx hb dX0_join_6 (by decide) (fun c_1 => ?_) (fun c_1 => ?_)
  · have hw := hw.1 c_1
    refine lv_aload_n hx hb dX0_join_11 rfl (lv_at hl 0 rfl) ?_
    refine va_get (D := (dC, dI)) (ci := 0) (v := .ref h_from) (C := RX0) (T := TX0) (N := 7) hx hb hts gu_X0 hown hK hP 0 rfl rfl 0 (by decide) (hts _ gw_5) (fun _ h9 => h9) rfl dX0_join_12 ?_
    refine lv_aload_n hx hb dX0_join_15 rfl (lv_at hl 0 rfl) ?_
    refine va_get (D := (dC, dI)) (ci := 0) (v := .int f_size) (C := RX0) (T := TX0) (N := 7) hx hb hts gu_X0 hown hK hP 0 rfl rfl 5 (by decide) (hts _ gw_10) (fun _ h9 => h9) rfl dX0_join_16 ?_
    refine lv_iload_n hx hb dX0_join_19 rfl (lv_at hl 1 rfl) ?_
    obtain ⟨h_2, hw⟩ := hw
    refine va_iast hx hb hK hP hD hS 1 0 rfl rfl h_2 dX0_join_20 (fun H locs hP hD hS => ?_)
    have hP : va_P (dC, dI) vwCl [(h, .inr (0, [.ref h_from, .ref h_takes, .ref h_worth, .ref h_settled, .ref h_tried, .int f_size, .int f_settledSize])), (h_from, .inl (cI, 6, .inl (upd r_from f_size.toNatClampNeg x1))), (h_takes, .inl (cI, 6, .inl r_takes)), (h_worth, .inl (cI, 6, .inl r_worth))] _ := hP
    have hD : va_D A [(h, .inr (0, [.ref h_from, .ref h_takes, .ref h_worth, .ref h_settled, .ref h_tried, .int f_size, .int f_settledSize])), (h_from, .inl (cI, 6, .inl (upd r_from f_size.toNatClampNeg x1))), (h_takes, .inl (cI, 6, .inl r_takes)), (h_worth, .inl (cI, 6, .inl r_worth))] := hD
    refine lv_aload_n hx hb dX0_join_21 rfl (lv_at hl 0 rfl) ?_
    refine va_get (D := (dC, dI)) (ci := 0) (v := .ref h_takes) (C := RX0) (T := TX0) (N := 7) hx hb hts gu_X0 hown hK hP 0 rfl rfl 1 (by decide) (hts _ gw_6) (fun _ h9 => h9) rfl dX0_join_22 ?_
    refine lv_aload_n hx hb dX0_join_25 rfl (lv_at hl 0 rfl) ?_
    refine va_get (D := (dC, dI)) (ci := 0) (v := .int f_size) (C := RX0) (T := TX0) (N := 7) hx hb hts gu_X0 hown hK hP 0 rfl rfl 5 (by decide) (hts _ gw_10) (fun _ h9 => h9) rfl dX0_join_26 ?_
    refine lv_iload_n hx hb dX0_join_29 rfl (lv_at hl 2 rfl) ?_
    obtain ⟨h_3, hw⟩ := hw
    refine va_iast hx hb hK hP hD hS 2 0 rfl rfl h_3 dX0_join_30 (fun H locs hP hD hS => ?_)
    have hP : va_P (dC, dI) vwCl [(h, .inr (0, [.ref h_from, .ref h_takes, .ref h_worth, .ref h_settled, .ref h_tried, .int f_size, .int f_settledSize])), (h_from, .inl (cI, 6, .inl (upd r_from f_size.toNatClampNeg x1))), (h_takes, .inl (cI, 6, .inl (upd r_takes f_size.toNatClampNeg x2))), (h_worth, .inl (cI, 6, .inl r_worth))] _ := hP
    have hD : va_D A [(h, .inr (0, [.ref h_from, .ref h_takes, .ref h_worth, .ref h_settled, .ref h_tried, .int f_size, .int f_settledSize])), (h_from, .inl (cI, 6, .inl (upd r_from f_size.toNatClampNeg x1))), (h_takes, .inl (cI, 6, .inl (upd r_takes f_size.toNatClampNeg x2))), (h_worth, .inl (cI, 6, .inl r_worth))] := hD
    refine lv_aload_n hx hb dX0_join_31 rfl (lv_at hl 0 rfl) ?_
    refine va_get (D := (dC, dI)) (ci := 0) (v := .ref h_worth) (C := RX0) (T := TX0) (N := 7) hx hb hts gu_X0 hown hK hP 0 rfl rfl 2 (by decide) (hts _ gw_7) (fun _ h9 => h9) rfl dX0_join_32 ?_
    refine lv_aload_n hx hb dX0_join_35 rfl (lv_at hl 0 rfl) ?_
    refine va_get (D := (dC, dI)) (ci := 0) (v := .int f_size) (C := RX0) (T := TX0) (N := 7) hx hb hts gu_X0 hown hK hP 0 rfl rfl 5 (by decide) (hts _ gw_10) (fun _ h9 => h9) rfl dX0_join_36 ?_
    refine lv_iload_n hx hb dX0_join_39 rfl (lv_at hl 3 rfl) ?_
    obtain ⟨h_4, hw⟩ := hw
    refine va_iast hx hb hK hP hD hS 3 0 rfl rfl h_4 dX0_join_40 (fun H locs hP hD hS => ?_)
    have hP : va_P (dC, dI) vwCl [(h, .inr (0, [.ref h_from, .ref h_takes, .ref h_worth, .ref h_settled, .ref h_tried, .int f_size, .int f_settledSize])), (h_from, .inl (cI, 6, .inl (upd r_from f_size.toNatClampNeg x1))), (h_takes, .inl (cI, 6, .inl (upd r_takes f_size.toNatClampNeg x2))), (h_worth, .inl (cI, 6, .inl (upd r_worth f_size.toNatClampNeg x3)))] _ := hP
    have hD : va_D A [(h, .inr (0, [.ref h_from, .ref h_takes, .ref h_worth, .ref h_settled, .ref h_tried, .int f_size, .int f_settledSize])), (h_from, .inl (cI, 6, .inl (upd r_from f_size.toNatClampNeg x1))), (h_takes, .inl (cI, 6, .inl (upd r_takes f_size.toNatClampNeg x2))), (h_worth, .inl (cI, 6, .inl (upd r_worth f_size.toNatClampNeg x3)))] := hD
    refine lv_aload_n hx hb dX0_join_41 rfl (lv_at hl 0 rfl) ?_
    refine lv_dup hx hb dX0_join_42 rfl ?_
    refine va_get (D := (dC, dI)) (ci := 0) (v := .int f_size) (C := RX0) (T := TX0) (N := 7) hx hb hts gu_X0 hown hK hP 0 rfl rfl 5 (by decide) (hts _ gw_10) (fun _ h9 => h9) rfl dX0_join_43 ?_
    refine lv_iconst (v := (1 : Int32)) hx hb dX0_join_46 (by decide) ?_
    refine lv_iadd hx hb dX0_join_47 ?_
    refine va_put (D := (dC, dI)) (ci := 0) (v := .int (f_size + (1 : Int32))) (ty := .int) (C := RX0) (T := TX0) (N := 7) hx hb hts gu_X0 tyX0 tyX0_ok nmX0 hown hK hP hD hS 0 rfl rfl 5 (by decide) (hts _ gw_10) (fun _ h9 => h9) rfl (tyX0_ok 5 (by decide)) rfl rfl (Nat.le_of_ble_eq_true rfl) dX0_join_48 (fun H locs hP hD hS => ?_)
    have hP : va_P (dC, dI) vwCl [(h, .inr (0, [.ref h_from, .ref h_takes, .ref h_worth, .ref h_settled, .ref h_tried, .int (f_size + (1 : Int32)), .int f_settledSize])), (h_from, .inl (cI, 6, .inl (upd r_from f_size.toNatClampNeg x1))), (h_takes, .inl (cI, 6, .inl (upd r_takes f_size.toNatClampNeg x2))), (h_worth, .inl (cI, 6, .inl (upd r_worth f_size.toNatClampNeg x3)))] _ := hP
    have hD : va_D A [(h, .inr (0, [.ref h_from, .ref h_takes, .ref h_worth, .ref h_settled, .ref h_tried, .int (f_size + (1 : Int32)), .int f_settledSize])), (h_from, .inl (cI, 6, .inl (upd r_from f_size.toNatClampNeg x1))), (h_takes, .inl (cI, 6, .inl (upd r_takes f_size.toNatClampNeg x2))), (h_worth, .inl (cI, 6, .inl (upd r_worth f_size.toNatClampNeg x3)))] := hD
    refine lv_aload_n hx hb dX0_join_51 rfl (lv_at hl 0 rfl) ?_
    refine va_get (D := (dC, dI)) (ci := 0) (v := .int (f_size + (1 : Int32))) (C := RX0) (T := TX0) (N := 7) hx hb hts gu_X0 hown hK hP 0 rfl rfl 5 (by decide) (hts _ gw_10) (fun _ h9 => h9) rfl dX0_join_52 ?_
    refine lv_iconst (v := (1 : Int32)) hx hb dX0_join_55 (by decide) ?_
    refine lv_isub hx hb dX0_join_56 ?_
    have hP9 := hP.sub (ws' := (vX0_join cI cZ h h_from h_takes h_worth h_settled h_tried f_settledSize (f_size + (1 : Int32)) (upd r_from f_size.toNatClampNeg x1) (upd r_takes f_size.toNatClampNeg x2) (upd r_worth f_size.toNatClampNeg x3))) [0, 1, 2, 3] rfl
    have hD9 := hD.sub (ws' := (vX0_join cI cZ h h_from h_takes h_worth h_settled h_tried f_settledSize (f_size + (1 : Int32)) (upd r_from f_size.toNatClampNeg x1) (upd r_takes f_size.toNatClampNeg x2) (upd r_worth f_size.toNatClampNeg x3))) [0, 1, 2, 3] (by decide) rfl
    exact W.iret (v := ((f_size + (1 : Int32)) - (1 : Int32))) hx hb hr (fun t ht hW => ⟨⟨((f_size + (1 : Int32)) - (1 : Int32)), ((f_size + (1 : Int32)), (upd r_from f_size.toNatClampNeg x1), (upd r_takes f_size.toNatClampNeg x2), (upd r_worth f_size.toNatClampNeg x3)), rfl, hw, by rw [ht]; exact hP9, va_K.moved hW.alike hK, hD9⟩, hS.F ht⟩) hS.2.2 dX0_join_57
  · have hw := hw.2 c_1
    refine lv_iconst (v := (-1 : Int32)) hx hb dX0_join_9 (by decide) ?_
    have hP9 := hP.sub (ws' := (vX0_join cI cZ h h_from h_takes h_worth h_settled h_tried f_settledSize f_size r_from r_takes r_worth)) [0, 1, 2, 3] rfl
    have hD9 := hD.sub (ws' := (vX0_join cI cZ h h_from h_takes h_worth h_settled h_tried f_settledSize f_size r_from r_takes r_worth)) [0, 1, 2, 3] (by decide) rfl
    exact W.iret (v := (-1 : Int32)) hx hb hr (fun t ht hW => ⟨⟨(-1 : Int32), (f_size, r_from, r_takes, r_worth), rfl, hw, by rw [ht]; exact hP9, va_K.moved hW.alike hK, hD9⟩, hS.F ht⟩) hS.2.2 dX0_join_10
set_option maxHeartbeats 4000000 in
set_option maxRecDepth 100000 in
theorem kX0_join (l : Launch) (dC : Nat → ClassId) (dI : Nat → Nat → Nat) (cI cZ cO cW : ClassId) (h h_from h_takes h_worth h_settled h_tried : Nat)  (sz : Nat) (f_settledSize : Int32) (f_size : Int32) (r_from : Nat → Int32) (r_takes : Nat → Int32) (r_worth : Nat → Int32) (x1 : Int32) (x2 : Int32) (x3 : Int32) (Q : Int32 → Int32 → (Nat → Int32) → (Nat → Int32) → (Nat → Int32) → Prop) (hw : wX0_join Q x1 x2 x3 f_size r_from r_takes r_worth) : Met l yX0_join zsX0_join rmX0_join (va_Pc [.ref h, .int x1, .int x2, .int x3] (fun U => U.heap.size = sz ∧ va_P (dC, dI) vwCl (vX0_join cI cZ h h_from h_takes h_worth h_settled h_tried f_settledSize f_size r_from r_takes r_worth) U.heap ∧ va_K (dC, dI) vwCl (tysA cI cZ cO cW) U ∧ va_D (fun _ => True) (vX0_join cI cZ h h_from h_takes h_worth h_settled h_tried f_settledSize f_size r_from r_takes r_worth))) (qX0_join dC dI cI cZ cO cW h h_from h_takes h_worth h_settled h_tried f_settledSize Q (va_A (vX0_join cI cZ h h_from h_takes h_worth h_settled h_tried f_settledSize f_size r_from r_takes r_worth) sz)) 0 0 (va_A (vX0_join cI cZ h h_from h_takes h_worth h_settled h_tried f_settledSize f_size r_from r_takes r_worth) sz) := by
  refine Met.ofW (cc := cX0_join) (maxL := 4) (ret := (some .int)) (by decide) rfl ?_
  intro p e s m args below meth c s₁ B hml hv
  obtain ⟨rfl, hsz, hP, hK, hD0⟩ := hv
  subst hsz
  have hC : Cx p s m ([.ref h, .int x1, .int x2, .int x3] : List Value).toArray meth c cX0_join (some .int) 4 GW RX0 := ⟨B.exec, B.bytes, B.returns, hml, findClass_of_methodNamed B.named, fun w h => atoms_spec (ws := zsX0_join) B.pre w (List.mem_cons_of_mem _ h), B.notSynchronized⟩
  have hD := hD0.self (sz := s.heap.size)
  generalize hAe : va_A (vX0_join cI cZ h h_from h_takes h_worth h_settled h_tried f_settledSize f_size r_from r_takes r_worth) s.heap.size = A at hD ⊢
  have hA : ∀ q : Nat, s.heap.size ≤ q → A q := fun q h => by rw [← hAe]; exact Or.inr h
  have hl := lv_entry ([.ref h, .int x1, .int x2, .int x3]) (n := 4) (Nat.le_of_ble_eq_true rfl)
  rw [lg_entry_eq]
  generalize (lg_sl ([.ref h, .int x1, .int x2, .int x3]) ++ List.replicate (4 - (lg_sl ([.ref h, .int x1, .int x2, .int x3])).length) Slot.unset).toArray = ls at hl ⊢
  exact tX0_join_e hC hK hA x1 x2 x3 f_size r_from r_takes r_worth _ _ ls hw hP hD va_S.rf hl

/-! X0_keepTried -/
def wX0_keepTried (Q : Int32 → (Nat → Int32) → Prop)  (f_size : Int32) (f_settledSize : Int32) (r_settled : Nat → Int32) (r_tried : Nat → Int32) : Prop :=
  (Q f_size (va_cpy r_tried r_settled (0 : Int32).toNatClampNeg (0 : Int32).toNatClampNeg (6 : Int32).toNatClampNeg))
abbrev vX0_keepTried (cI cZ : ClassId) (h h_from h_takes h_worth h_settled h_tried : Nat) (f_size : Int32) (f_settledSize : Int32) (r_settled : Nat → Int32) (r_tried : Nat → Int32) : va_W := [(h, .inr (0, [.ref h_from, .ref h_takes, .ref h_worth, .ref h_settled, .ref h_tried, .int f_size, .int f_settledSize])), (h_settled, .inl (cI, 6, .inl r_settled)), (h_tried, .inl (cI, 6, .inl r_tried))]
abbrev rmX0_keepTried : Room := { frames := 1, cells := 0, slots := 0, locals := 26 }
abbrev qX0_keepTried (dC : Nat → ClassId) (dI : Nat → Nat → Nat) (cI cZ cO cW : ClassId) (h h_from h_takes h_worth h_settled h_tried : Nat) (f_size : Int32) (r_tried : Nat → Int32) (Q : Int32 → (Nat → Int32) → Prop) (A : Nat → Prop) : Array Value → State → Outcome → State → Prop := va_Qv (fun (u : Int32 × (Nat → Int32)) => Q u.1 u.2) (fun (u : Int32 × (Nat → Int32)) (t : State) => va_P (dC, dI) vwCl (vX0_keepTried cI cZ h h_from h_takes h_worth h_settled h_tried f_size u.1 u.2 r_tried) t.heap ∧ va_K (dC, dI) vwCl (tysA cI cZ cO cW) t ∧ va_D A (vX0_keepTried cI cZ h h_from h_takes h_worth h_settled h_tried f_size u.1 u.2 r_tried)) A
def zsX0_keepTried : List Cond := Cond.code yX0_keepTried cX0_keepTried 1 none :: GW
set_option maxHeartbeats 4000000 in
set_option maxRecDepth 100000 in
theorem tX0_keepTried_e {p : Program} {l : Launch} {e : Env} {s : State} {m : MethodId} {args : Array Value} {below : List Frame} {meth : Method} {c : Code} {dC : Nat → ClassId} {dI : Nat → Nat → Nat} {cI cZ cO cW : ClassId} {A : Nat → Prop} {h h_from h_takes h_worth h_settled h_tried : Nat} {Q : Int32 → (Nat → Int32) → Prop} (hC : Cx p s m args meth c cX0_keepTried none 1 GW RX0) (hK : va_K (dC, dI) vwCl (tysA cI cZ cO cW) s) (hA : ∀ q : Nat, s.heap.size ≤ q → A q) :
    ∀ (f_size : Int32) (f_settledSize : Int32) (r_settled : Nat → Int32) (r_tried : Nat → Int32) (H : Heap) (locs : List Loc) (ls : Array Slot), wX0_keepTried Q  f_size f_settledSize r_settled r_tried → va_P (dC, dI) vwCl (vX0_keepTried cI cZ h h_from h_takes h_worth h_settled h_tried f_size f_settledSize r_settled r_tried) H → va_D A (vX0_keepTried cI cZ h h_from h_takes h_worth h_settled h_tried f_size f_settledSize r_settled r_tried) → va_S A s.heap H locs → lv_has ls 1 [(0, .ref h)] → W p l e rmX0_keepTried s m args below meth c H locs 0 0 (MQ below (qX0_keepTried dC dI cI cZ cO cW h h_from h_takes h_worth h_settled h_tried f_size r_tried Q A) args s 0 0 A) (F0 m 0 ls []) := by
  obtain ⟨hx, hb, hr, hml, hown, hts, hlocks⟩ := id hC
  intro  f_size f_settledSize r_settled r_tried H locs ls hw hP hD hS hl
  refine lv_aload_n hx hb dX0_keepTried_0 rfl (lv_at hl 0 rfl) ?_
  refine va_get (D := (dC, dI)) (ci := 0) (v := .ref h_tried) (C := RX0) (T := TX0) (N := 7) hx hb hts gu_X0 hown hK hP 0 rfl rfl 4 (by decide) (hts _ gw_9) (fun _ h9 => h9) rfl dX0_keepTried_1 ?_
  refine lv_iconst (v := (0 : Int32)) hx hb dX0_keepTried_4 (by decide) ?_
  refine lv_aload_n hx hb dX0_keepTried_5 rfl (lv_at hl 0 rfl) ?_
  refine va_get (D := (dC, dI)) (ci := 0) (v := .ref h_settled) (C := RX0) (T := TX0) (N := 7) hx hb hts gu_X0 hown hK hP 0 rfl rfl 3 (by decide) (hts _ gw_8) (fun _ h9 => h9) rfl dX0_keepTried_6 ?_
  refine lv_iconst (v := (0 : Int32)) hx hb dX0_keepTried_9 (by decide) ?_
  refine lv_bipush (v := (6 : Int32)) hx hb dX0_keepTried_10 (by decide) ?_
  refine va_copyi hx hb (hml.trans hl.1.symm) hown (hts _ gw_13) (hts _ gw_14) (hts _ gw_15) (hts _ gw_16) hK hP hD hS 2 1 0 0 rfl rfl rfl rfl rfl (by decide) (by decide) (by decide) (by decide) (by decide) (fun _ _ => rfl) (Nat.le_of_ble_eq_true rfl) (Nat.le_of_ble_eq_true rfl) dX0_keepTried_12 (fun H locs hP hD hS => ?_)
  have hP : va_P (dC, dI) vwCl [(h, .inr (0, [.ref h_from, .ref h_takes, .ref h_worth, .ref h_settled, .ref h_tried, .int f_size, .int f_settledSize])), (h_settled, .inl (cI, 6, .inl (va_cpy r_tried r_settled (0 : Int32).toNatClampNeg (0 : Int32).toNatClampNeg (6 : Int32).toNatClampNeg))), (h_tried, .inl (cI, 6, .inl r_tried))] _ := hP
  have hD : va_D A [(h, .inr (0, [.ref h_from, .ref h_takes, .ref h_worth, .ref h_settled, .ref h_tried, .int f_size, .int f_settledSize])), (h_settled, .inl (cI, 6, .inl (va_cpy r_tried r_settled (0 : Int32).toNatClampNeg (0 : Int32).toNatClampNeg (6 : Int32).toNatClampNeg))), (h_tried, .inl (cI, 6, .inl r_tried))] := hD
  refine lv_aload_n hx hb dX0_keepTried_15 rfl (lv_at hl 0 rfl) ?_
  refine lv_aload_n hx hb dX0_keepTried_16 rfl (lv_at hl 0 rfl) ?_
  refine va_get (D := (dC, dI)) (ci := 0) (v := .int f_size) (C := RX0) (T := TX0) (N := 7) hx hb hts gu_X0 hown hK hP 0 rfl rfl 5 (by decide) (hts _ gw_10) (fun _ h9 => h9) rfl dX0_keepTried_17 ?_
  refine va_put (D := (dC, dI)) (ci := 0) (v := .int f_size) (ty := .int) (C := RX0) (T := TX0) (N := 7) hx hb hts gu_X0 tyX0 tyX0_ok nmX0 hown hK hP hD hS 0 rfl rfl 6 (by decide) (hts _ gw_11) (fun _ h9 => h9) rfl (tyX0_ok 6 (by decide)) rfl rfl (Nat.le_of_ble_eq_true rfl) dX0_keepTried_20 (fun H locs hP hD hS => ?_)
  have hP : va_P (dC, dI) vwCl [(h, .inr (0, [.ref h_from, .ref h_takes, .ref h_worth, .ref h_settled, .ref h_tried, .int f_size, .int f_size])), (h_settled, .inl (cI, 6, .inl (va_cpy r_tried r_settled (0 : Int32).toNatClampNeg (0 : Int32).toNatClampNeg (6 : Int32).toNatClampNeg))), (h_tried, .inl (cI, 6, .inl r_tried))] _ := hP
  have hD : va_D A [(h, .inr (0, [.ref h_from, .ref h_takes, .ref h_worth, .ref h_settled, .ref h_tried, .int f_size, .int f_size])), (h_settled, .inl (cI, 6, .inl (va_cpy r_tried r_settled (0 : Int32).toNatClampNeg (0 : Int32).toNatClampNeg (6 : Int32).toNatClampNeg))), (h_tried, .inl (cI, 6, .inl r_tried))] := hD
  have hP9 := hP.sub (ws' := (vX0_keepTried cI cZ h h_from h_takes h_worth h_settled h_tried f_size f_size (va_cpy r_tried r_settled (0 : Int32).toNatClampNeg (0 : Int32).toNatClampNeg (6 : Int32).toNatClampNeg) r_tried)) [0, 1, 2] rfl
  have hD9 := hD.sub (ws' := (vX0_keepTried cI cZ h h_from h_takes h_worth h_settled h_tried f_size f_size (va_cpy r_tried r_settled (0 : Int32).toNatClampNeg (0 : Int32).toNatClampNeg (6 : Int32).toNatClampNeg) r_tried)) [0, 1, 2] (by decide) rfl
  exact W.vret hx hb hr (fun t ht hW => ⟨⟨(f_size, (va_cpy r_tried r_settled (0 : Int32).toNatClampNeg (0 : Int32).toNatClampNeg (6 : Int32).toNatClampNeg)), rfl, hw, by rw [ht]; exact hP9, va_K.moved hW.alike hK, hD9⟩, hS.F ht⟩) hS.2.2 dX0_keepTried_23
set_option maxHeartbeats 4000000 in
set_option maxRecDepth 100000 in
theorem kX0_keepTried (l : Launch) (dC : Nat → ClassId) (dI : Nat → Nat → Nat) (cI cZ cO cW : ClassId) (h h_from h_takes h_worth h_settled h_tried : Nat)  (sz : Nat) (f_size : Int32) (f_settledSize : Int32) (r_settled : Nat → Int32) (r_tried : Nat → Int32)  (Q : Int32 → (Nat → Int32) → Prop) (hw : wX0_keepTried Q  f_size f_settledSize r_settled r_tried) : Met l yX0_keepTried zsX0_keepTried rmX0_keepTried (va_Pc [.ref h] (fun U => U.heap.size = sz ∧ va_P (dC, dI) vwCl (vX0_keepTried cI cZ h h_from h_takes h_worth h_settled h_tried f_size f_settledSize r_settled r_tried) U.heap ∧ va_K (dC, dI) vwCl (tysA cI cZ cO cW) U ∧ va_D (fun _ => True) (vX0_keepTried cI cZ h h_from h_takes h_worth h_settled h_tried f_size f_settledSize r_settled r_tried))) (qX0_keepTried dC dI cI cZ cO cW h h_from h_takes h_worth h_settled h_tried f_size r_tried Q (va_A (vX0_keepTried cI cZ h h_from h_takes h_worth h_settled h_tried f_size f_settledSize r_settled r_tried) sz)) 0 0 (va_A (vX0_keepTried cI cZ h h_from h_takes h_worth h_settled h_tried f_size f_settledSize r_settled r_tried) sz) := by
  refine Met.ofW (cc := cX0_keepTried) (maxL := 1) (ret := none) (by decide) rfl ?_
  intro p e s m args below meth c s₁ B hml hv
  obtain ⟨rfl, hsz, hP, hK, hD0⟩ := hv
  subst hsz
  have hC : Cx p s m ([.ref h] : List Value).toArray meth c cX0_keepTried none 1 GW RX0 := ⟨B.exec, B.bytes, B.returns, hml, findClass_of_methodNamed B.named, fun w h => atoms_spec (ws := zsX0_keepTried) B.pre w (List.mem_cons_of_mem _ h), B.notSynchronized⟩
  have hD := hD0.self (sz := s.heap.size)
  generalize hAe : va_A (vX0_keepTried cI cZ h h_from h_takes h_worth h_settled h_tried f_size f_settledSize r_settled r_tried) s.heap.size = A at hD ⊢
  have hA : ∀ q : Nat, s.heap.size ≤ q → A q := fun q h => by rw [← hAe]; exact Or.inr h
  have hl := lv_entry ([.ref h]) (n := 1) (Nat.le_of_ble_eq_true rfl)
  rw [lg_entry_eq]
  generalize (lg_sl ([.ref h]) ++ List.replicate (1 - (lg_sl ([.ref h])).length) Slot.unset).toArray = ls at hl ⊢
  exact tX0_keepTried_e hC hK hA  f_size f_settledSize r_settled r_tried _ _ ls hw hP hD va_S.rf hl

/-! X0_waiting -/
def wX0_waiting_121 (Q : Int32 → Prop) (K_10 : Int32 → Int32 → Int32 → Int32 → Int32 → Int32 → (Nat → Int32) → (Nat → Int32) → (Nat → Int32) → (Nat → Int32) → Prop)  (x1 : Int32) (x2 : Int32) (x3 : Int32) (x4 : Int32) (x5 : Int32) (f_size : Int32) (r_from : (Nat → Int32)) (r_takes : (Nat → Int32)) (r_tried : (Nat → Int32)) (r_worth : (Nat → Int32)) : Prop :=
  (K_10 x1 x2 x3 x4 (x5 + (1 : Int32)) f_size r_from r_takes r_tried r_worth)
def wX0_waiting_64 (Q : Int32 → Prop) (K_10 : Int32 → Int32 → Int32 → Int32 → Int32 → Int32 → (Nat → Int32) → (Nat → Int32) → (Nat → Int32) → (Nat → Int32) → Prop)  (x1 : Int32) (x2 : Int32) (x3 : Int32) (x4 : Int32) (x5 : Int32) (x6 : Int32) (x7 : Int32) (s0 : Int32) (s1 : Int32) (f_size : Int32) (r_from : (Nat → Int32)) (r_takes : (Nat → Int32)) (r_tried : (Nat → Int32)) (r_worth : (Nat → Int32)) : Prop :=
  (vp_in x6 6 ∧ (vp_in x6 6 ∧ ((x7 = 0 → (vp_in x6 6 ∧ (wX0_waiting_121 Q K_10 x1 (x2 + ((r_worth x6.toNatClampNeg) * ((if s0 < s1 then s1 else s0) - (r_from x6.toNatClampNeg)))) ((if s0 < s1 then s1 else s0) + (r_takes x6.toNatClampNeg)) x4 x5 f_size r_from r_takes r_tried r_worth))) ∧ (¬ x7 = 0 → (vp_in x6 6 ∧ (wX0_waiting_121 Q K_10 x1 (x2 + ((r_worth x6.toNatClampNeg) * ((if s0 < s1 then s1 else s0) - (r_from x6.toNatClampNeg)))) x3 ((if s0 < s1 then s1 else s0) + (r_takes x6.toNatClampNeg)) x5 f_size r_from r_takes r_tried r_worth))))))
def wX0_waiting_44 (Q : Int32 → Prop) (K_10 : Int32 → Int32 → Int32 → Int32 → Int32 → Int32 → (Nat → Int32) → (Nat → Int32) → (Nat → Int32) → (Nat → Int32) → Prop)  (x1 : Int32) (x2 : Int32) (x3 : Int32) (x4 : Int32) (x5 : Int32) (x6 : Int32) (s0 : Int32) (f_size : Int32) (r_from : (Nat → Int32)) (r_takes : (Nat → Int32)) (r_tried : (Nat → Int32)) (r_worth : (Nat → Int32)) : Prop :=
  (vp_in x6 6 ∧ ((s0 = 0 → (wX0_waiting_64 Q K_10 x1 x2 x3 x4 x5 x6 s0 (r_from x6.toNatClampNeg) x3 f_size r_from r_takes r_tried r_worth)) ∧ (¬ s0 = 0 → (wX0_waiting_64 Q K_10 x1 x2 x3 x4 x5 x6 s0 (r_from x6.toNatClampNeg) x4 f_size r_from r_takes r_tried r_worth))))
def wX0_waiting_43 (Q : Int32 → Prop) (K_10 : Int32 → Int32 → Int32 → Int32 → Int32 → Int32 → (Nat → Int32) → (Nat → Int32) → (Nat → Int32) → (Nat → Int32) → Prop)  (x1 : Int32) (x2 : Int32) (x3 : Int32) (x4 : Int32) (x5 : Int32) (x6 : Int32) (f_size : Int32) (r_from : (Nat → Int32)) (r_takes : (Nat → Int32)) (r_tried : (Nat → Int32)) (r_worth : (Nat → Int32)) : Prop :=
  (wX0_waiting_44 Q K_10 x1 x2 x3 x4 x5 x6 (0 : Int32) f_size r_from r_takes r_tried r_worth)
def wX0_waiting_10 (Q : Int32 → Prop)   : Nat → Int32 → Int32 → Int32 → Int32 → Int32 → Int32 → (Nat → Int32) → (Nat → Int32) → (Nat → Int32) → (Nat → Int32) → Prop
  | 0, _, _, _, _, _, _, _, _, _, _ => False
  | n + 1, x1, x2, x3, x4, x5, f_size, r_from, r_takes, r_tried, r_worth => ((f_size ≤ x5 → (Q x2)) ∧ (¬ f_size ≤ x5 → (vp_in x5 6 ∧ ((¬ x1 = (2 : Int32) → (wX0_waiting_43 Q (wX0_waiting_10 Q n) x1 x2 x3 x4 x5 (r_tried x5.toNatClampNeg) f_size r_from r_takes r_tried r_worth)) ∧ (x1 = (2 : Int32) → ((x3 ≤ x4 → (wX0_waiting_43 Q (wX0_waiting_10 Q n) x1 x2 x3 x4 x5 (r_tried x5.toNatClampNeg) f_size r_from r_takes r_tried r_worth)) ∧ (¬ x3 ≤ x4 → (wX0_waiting_44 Q (wX0_waiting_10 Q n) x1 x2 x3 x4 x5 (r_tried x5.toNatClampNeg) (1 : Int32) f_size r_from r_takes r_tried r_worth))))))))
def wX0_waiting (Q : Int32 → Prop) (x1 : Int32) (f_size : Int32) (r_from : Nat → Int32) (r_takes : Nat → Int32) (r_tried : Nat → Int32) (r_worth : Nat → Int32) : Prop :=
  (∃ j_, wX0_waiting_10 Q j_ x1 (0 : Int32) (0 : Int32) (0 : Int32) (0 : Int32) f_size r_from r_takes r_tried r_worth)
abbrev vX0_waiting (cI cZ : ClassId) (h h_from h_takes h_worth h_settled h_tried : Nat) (f_settledSize : Int32) (f_size : Int32) (r_from : Nat → Int32) (r_takes : Nat → Int32) (r_tried : Nat → Int32) (r_worth : Nat → Int32) : va_W := [(h, .inr (0, [.ref h_from, .ref h_takes, .ref h_worth, .ref h_settled, .ref h_tried, .int f_size, .int f_settledSize])), (h_from, .inl (cI, 6, .inl r_from)), (h_takes, .inl (cI, 6, .inl r_takes)), (h_tried, .inl (cI, 6, .inl r_tried)), (h_worth, .inl (cI, 6, .inl r_worth))]
abbrev rmX0_waiting : Room := { frames := 1, cells := 0, slots := 0, locals := 21 }
abbrev qX0_waiting (dC : Nat → ClassId) (dI : Nat → Nat → Nat) (cI cZ cO cW : ClassId) (h h_from h_takes h_worth h_settled h_tried : Nat) (f_settledSize : Int32) (f_size : Int32) (r_from : Nat → Int32) (r_takes : Nat → Int32) (r_tried : Nat → Int32) (r_worth : Nat → Int32) (Q : Int32 → Prop) (A : Nat → Prop) : Array Value → State → Outcome → State → Prop := va_Qi (fun (r : Int32) (u : Unit) => Q r) (fun (u : Unit) (t : State) => va_P (dC, dI) vwCl (vX0_waiting cI cZ h h_from h_takes h_worth h_settled h_tried f_settledSize f_size r_from r_takes r_tried r_worth) t.heap ∧ va_K (dC, dI) vwCl (tysA cI cZ cO cW) t ∧ va_D A (vX0_waiting cI cZ h h_from h_takes h_worth h_settled h_tried f_settledSize f_size r_from r_takes r_tried r_worth)) A
def zsX0_waiting : List Cond := Cond.code yX0_waiting cX0_waiting 9 (some .int) :: GW
set_option maxHeartbeats 4000000 in
set_option maxRecDepth 100000 in
theorem tX0_waiting_121 {p : Program} {l : Launch} {e : Env} {s : State} {m : MethodId} {args : Array Value} {below : List Frame} {meth : Method} {c : Code} {dC : Nat → ClassId} {dI : Nat → Nat → Nat} {cI cZ cO cW : ClassId} {A : Nat → Prop} {h h_from h_takes h_worth h_settled h_tried : Nat} {f_settledSize : Int32} {Q : Int32 → Prop} {K_10 : Int32 → Int32 → Int32 → Int32 → Int32 → Int32 → (Nat → Int32) → (Nat → Int32) → (Nat → Int32) → (Nat → Int32) → Prop} (hC : Cx p s m args meth c cX0_waiting (some .int) 9 GW RX0) (hK : va_K (dC, dI) vwCl (tysA cI cZ cO cW) s) (hA : ∀ q : Nat, s.heap.size ≤ q → A q) (hk_10 : ∀ (x1 : Int32) (x2 : Int32) (x3 : Int32) (x4 : Int32) (x5 : Int32) (f_size : Int32) (r_from : (Nat → Int32)) (r_takes : (Nat → Int32)) (r_tried : (Nat → Int32)) (r_worth : (Nat → Int32)) (H : Heap) (locs : List Loc) (ls : Array Slot), K_10 x1 x2 x3 x4 x5 f_size r_from r_takes r_tried r_worth → va_P (dC, dI) vwCl (vX0_waiting cI cZ h h_from h_takes h_worth h_settled h_tried f_settledSize f_size r_from r_takes r_tried r_worth) H → va_D A (vX0_waiting cI cZ h h_from h_takes h_worth h_settled h_tried f_settledSize f_size r_from r_takes r_tried r_worth) → va_S A s.heap H locs → lv_has ls 9 [(0, .ref h), (1, .int x1), (2, .int x2), (3, .int x3), (4, .int x4), (5, .int x5)] → W p l e rmX0_waiting s m args below meth c H locs 0 0 (MQ below (qX0_waiting dC dI cI cZ cO cW h h_from h_takes h_worth h_settled h_tried f_settledSize f_size r_from r_takes r_tried r_worth Q A) args s 0 0 A) (F0 m 10 ls [])) :
    ∀ (x1 : Int32) (x2 : Int32) (x3 : Int32) (x4 : Int32) (x5 : Int32) (f_size : Int32) (r_from : (Nat → Int32)) (r_takes : (Nat → Int32)) (r_tried : (Nat → Int32)) (r_worth : (Nat → Int32)) (H : Heap) (locs : List Loc) (ls : Array Slot), wX0_waiting_121 Q K_10 x1 x2 x3 x4 x5 f_size r_from r_takes r_tried r_worth → va_P (dC, dI) vwCl (vX0_waiting cI cZ h h_from h_takes h_worth h_settled h_tried f_settledSize f_size r_from r_takes r_tried r_worth) H → va_D A (vX0_waiting cI cZ h h_from h_takes h_worth h_settled h_tried f_settledSize f_size r_from r_takes r_tried r_worth) → va_S A s.heap H locs → lv_has ls 9 [(0, .ref h), (1, .int x1), (2, .int x2), (3, .int x3), (4, .int x4), (5, .int x5)] → W p l e rmX0_waiting s m args below meth c H locs 0 0 (MQ below (qX0_waiting dC dI cI cZ cO cW h h_from h_takes h_worth h_settled h_tried f_settledSize f_size r_from r_takes r_tried r_worth Q A) args s 0 0 A) (F0 m 121 ls []) := by
  obtain ⟨hx, hb, hr, hml, hown, hts, hlocks⟩ := id hC
  intro x1 x2 x3 x4 x5 f_size r_from r_takes r_tried r_worth H locs ls hw hP hD hS hl
  refine lv_iinc (v := (x5 + (1 : Int32))) (lv' := [(5, .int (x5 + (1 : Int32))), (0, .ref h), (1, .int x1), (2, .int x2), (3, .int x3), (4, .int x4)]) hx hb dX0_waiting_121 hl (k := 5) rfl rfl (by decide) rfl (fun ls hl => ?_)
  refine lv_goto (tgt := 10) hx hb dX0_waiting_124 (by decide) ?_
  exact hk_10 x1 x2 x3 x4 (x5 + (1 : Int32)) f_size r_from r_takes r_tried r_worth _ _ ls hw (hP.sub [0, 1, 2, 3, 4] rfl) (hD.sub [0, 1, 2, 3, 4] (by decide) rfl) hS (lv_sub hl [1, 2, 3, 4, 5, 0] rfl)
set_option maxHeartbeats 4000000 in
set_option maxRecDepth 100000 in
theorem tX0_waiting_64 {p : Program} {l : Launch} {e : Env} {s : State} {m : MethodId} {args : Array Value} {below : List Frame} {meth : Method} {c : Code} {dC : Nat → ClassId} {dI : Nat → Nat → Nat} {cI cZ cO cW : ClassId} {A : Nat → Prop} {h h_from h_takes h_worth h_settled h_tried : Nat} {f_settledSize : Int32} {Q : Int32 → Prop} {K_10 : Int32 → Int32 → Int32 → Int32 → Int32 → Int32 → (Nat → Int32) → (Nat → Int32) → (Nat → Int32) → (Nat → Int32) → Prop} (hC : Cx p s m args meth c cX0_waiting (some .int) 9 GW RX0) (hK : va_K (dC, dI) vwCl (tysA cI cZ cO cW) s) (hA : ∀ q : Nat, s.heap.size ≤ q → A q) (hk_10 : ∀ (x1 : Int32) (x2 : Int32) (x3 : Int32) (x4 : Int32) (x5 : Int32) (f_size : Int32) (r_from : (Nat → Int32)) (r_takes : (Nat → Int32)) (r_tried : (Nat → Int32)) (r_worth : (Nat → Int32)) (H : Heap) (locs : List Loc) (ls : Array Slot), K_10 x1 x2 x3 x4 x5 f_size r_from r_takes r_tried r_worth → va_P (dC, dI) vwCl (vX0_waiting cI cZ h h_from h_takes h_worth h_settled h_tried f_settledSize f_size r_from r_takes r_tried r_worth) H → va_D A (vX0_waiting cI cZ h h_from h_takes h_worth h_settled h_tried f_settledSize f_size r_from r_takes r_tried r_worth) → va_S A s.heap H locs → lv_has ls 9 [(0, .ref h), (1, .int x1), (2, .int x2), (3, .int x3), (4, .int x4), (5, .int x5)] → W p l e rmX0_waiting s m args below meth c H locs 0 0 (MQ below (qX0_waiting dC dI cI cZ cO cW h h_from h_takes h_worth h_settled h_tried f_settledSize f_size r_from r_takes r_tried r_worth Q A) args s 0 0 A) (F0 m 10 ls [])) :
    ∀ (x1 : Int32) (x2 : Int32) (x3 : Int32) (x4 : Int32) (x5 : Int32) (x6 : Int32) (x7 : Int32) (s0 : Int32) (s1 : Int32) (f_size : Int32) (r_from : (Nat → Int32)) (r_takes : (Nat → Int32)) (r_tried : (Nat → Int32)) (r_worth : (Nat → Int32)) (H : Heap) (locs : List Loc) (ls : Array Slot), wX0_waiting_64 Q K_10 x1 x2 x3 x4 x5 x6 x7 s0 s1 f_size r_from r_takes r_tried r_worth → va_P (dC, dI) vwCl (vX0_waiting cI cZ h h_from h_takes h_worth h_settled h_tried f_settledSize f_size r_from r_takes r_tried r_worth) H → va_D A (vX0_waiting cI cZ h h_from h_takes h_worth h_settled h_tried f_settledSize f_size r_from r_takes r_tried r_worth) → va_S A s.heap H locs → lv_has ls 9 [(0, .ref h), (1, .int x1), (2, .int x2), (3, .int x3), (4, .int x4), (5, .int x5), (6, .int x6), (7, .int x7)] → W p l e rmX0_waiting s m args below meth c H locs 0 0 (MQ below (qX0_waiting dC dI cI cZ cO cW h h_from h_takes h_worth h_settled h_tried f_settledSize f_size r_from r_takes r_tried r_worth Q A) args s 0 0 A) (F0 m 64 ls [.int s1, .int s0]) := by
  obtain ⟨hx, hb, hr, hml, hown, hts, hlocks⟩ := id hC
  intro x1 x2 x3 x4 x5 x6 x7 s0 s1 f_size r_from r_takes r_tried r_worth H locs ls hw hP hD hS hl
  refine va_mmax hx hb (hml.trans hl.1.symm) hown (hts _ gw_19) (hts _ gw_20) (hts _ gw_21) (hts _ gw_22) (Nat.le_of_ble_eq_true rfl) (Nat.le_of_ble_eq_true rfl) (Nat.zero_le _) (Nat.zero_le _) dX0_waiting_64 ?_
  refine lv_istore (lv' := [(8, .int (if s0 < s1 then s1 else s0)), (0, .ref h), (1, .int x1), (2, .int x2), (3, .int x3), (4, .int x4), (5, .int x5), (6, .int x6), (7, .int x7)]) hx hb dX0_waiting_67 hl (by decide) rfl (fun ls hl => ?_)
  refine lv_iload_n hx hb dX0_waiting_69 rfl (lv_at hl 3 rfl) ?_
  refine lv_aload_n hx hb dX0_waiting_70 rfl (lv_at hl 1 rfl) ?_
  refine va_get (D := (dC, dI)) (ci := 0) (v := .ref h_worth) (C := RX0) (T := TX0) (N := 7) hx hb hts gu_X0 hown hK hP 0 rfl rfl 2 (by decide) (hts _ gw_7) (fun _ h9 => h9) rfl dX0_waiting_71 ?_
  refine lv_iload hx hb dX0_waiting_74 (lv_at hl 7 rfl) ?_
  obtain ⟨h_1, hw⟩ := hw
  refine va_iald hx hb hK hP 4 0 rfl rfl h_1 dX0_waiting_76 ?_
  refine lv_iload hx hb dX0_waiting_77 (lv_at hl 0 rfl) ?_
  refine lv_aload_n hx hb dX0_waiting_79 rfl (lv_at hl 1 rfl) ?_
  refine va_get (D := (dC, dI)) (ci := 0) (v := .ref h_from) (C := RX0) (T := TX0) (N := 7) hx hb hts gu_X0 hown hK hP 0 rfl rfl 0 (by decide) (hts _ gw_5) (fun _ h9 => h9) rfl dX0_waiting_80 ?_
  refine lv_iload hx hb dX0_waiting_83 (lv_at hl 7 rfl) ?_
  obtain ⟨h_2, hw⟩ := hw
  refine va_iald hx hb hK hP 1 0 rfl rfl h_2 dX0_waiting_85 ?_
  refine lv_isub hx hb dX0_waiting_86 ?_
  refine lv_imul hx hb dX0_waiting_87 ?_
  refine lv_iadd hx hb dX0_waiting_88 ?_
  refine lv_istore_n (lv' := [(2, .int (x2 + ((r_worth x6.toNatClampNeg) * ((if s0 < s1 then s1 else s0) - (r_from x6.toNatClampNeg))))), (8, .int (if s0 < s1 then s1 else s0)), (0, .ref h), (1, .int x1), (3, .int x3), (4, .int x4), (5, .int x5), (6, .int x6), (7, .int x7)]) hx hb dX0_waiting_89 rfl hl (by decide) rfl (fun ls hl => ?_)
  refine lv_iload hx hb dX0_waiting_90 (lv_at hl 8 rfl) ?_
  refine lv_if_eq (tgt := 110) hx hb dX0_waiting_92 (by decide) (fun c_3 => ?_) (fun c_3 => ?_)
  · have hw := hw.1 c_3
    refine lv_iload hx hb dX0_waiting_110 (lv_at hl 1 rfl) ?_
    refine lv_aload_n hx hb dX0_waiting_112 rfl (lv_at hl 2 rfl) ?_
    refine va_get (D := (dC, dI)) (ci := 0) (v := .ref h_takes) (C := RX0) (T := TX0) (N := 7) hx hb hts gu_X0 hown hK hP 0 rfl rfl 1 (by decide) (hts _ gw_6) (fun _ h9 => h9) rfl dX0_waiting_113 ?_
    refine lv_iload hx hb dX0_waiting_116 (lv_at hl 7 rfl) ?_
    obtain ⟨h_4, hw⟩ := hw
    refine va_iald hx hb hK hP 2 0 rfl rfl h_4 dX0_waiting_118 ?_
    refine lv_iadd hx hb dX0_waiting_119 ?_
    refine lv_istore_n (lv' := [(3, .int ((if s0 < s1 then s1 else s0) + (r_takes x6.toNatClampNeg))), (2, .int (x2 + ((r_worth x6.toNatClampNeg) * ((if s0 < s1 then s1 else s0) - (r_from x6.toNatClampNeg))))), (8, .int (if s0 < s1 then s1 else s0)), (0, .ref h), (1, .int x1), (4, .int x4), (5, .int x5), (6, .int x6), (7, .int x7)]) hx hb dX0_waiting_120 rfl hl (by decide) rfl (fun ls hl => ?_)
    exact tX0_waiting_121 hC hK hA hk_10 x1 (x2 + ((r_worth x6.toNatClampNeg) * ((if s0 < s1 then s1 else s0) - (r_from x6.toNatClampNeg)))) ((if s0 < s1 then s1 else s0) + (r_takes x6.toNatClampNeg)) x4 x5 f_size r_from r_takes r_tried r_worth _ _ ls hw (hP.sub [0, 1, 2, 3, 4] rfl) (hD.sub [0, 1, 2, 3, 4] (by decide) rfl) hS (lv_sub hl [3, 4, 1, 0, 5, 6] rfl)
  · have hw := hw.2 c_3
    refine lv_iload hx hb dX0_waiting_95 (lv_at hl 1 rfl) ?_
    refine lv_aload_n hx hb dX0_waiting_97 rfl (lv_at hl 2 rfl) ?_
    refine va_get (D := (dC, dI)) (ci := 0) (v := .ref h_takes) (C := RX0) (T := TX0) (N := 7) hx hb hts gu_X0 hown hK hP 0 rfl rfl 1 (by decide) (hts _ gw_6) (fun _ h9 => h9) rfl dX0_waiting_98 ?_
    refine lv_iload hx hb dX0_waiting_101 (lv_at hl 7 rfl) ?_
    obtain ⟨h_5, hw⟩ := hw
    refine va_iald hx hb hK hP 2 0 rfl rfl h_5 dX0_waiting_103 ?_
    refine lv_iadd hx hb dX0_waiting_104 ?_
    refine lv_istore (lv' := [(4, .int ((if s0 < s1 then s1 else s0) + (r_takes x6.toNatClampNeg))), (2, .int (x2 + ((r_worth x6.toNatClampNeg) * ((if s0 < s1 then s1 else s0) - (r_from x6.toNatClampNeg))))), (8, .int (if s0 < s1 then s1 else s0)), (0, .ref h), (1, .int x1), (3, .int x3), (5, .int x5), (6, .int x6), (7, .int x7)]) hx hb dX0_waiting_105 hl (by decide) rfl (fun ls hl => ?_)
    refine lv_goto (tgt := 121) hx hb dX0_waiting_107 (by decide) ?_
    exact tX0_waiting_121 hC hK hA hk_10 x1 (x2 + ((r_worth x6.toNatClampNeg) * ((if s0 < s1 then s1 else s0) - (r_from x6.toNatClampNeg)))) x3 ((if s0 < s1 then s1 else s0) + (r_takes x6.toNatClampNeg)) x5 f_size r_from r_takes r_tried r_worth _ _ ls hw (hP.sub [0, 1, 2, 3, 4] rfl) (hD.sub [0, 1, 2, 3, 4] (by decide) rfl) hS (lv_sub hl [3, 4, 1, 5, 0, 6] rfl)
set_option maxHeartbeats 4000000 in
set_option maxRecDepth 100000 in
theorem tX0_waiting_44 {p : Program} {l : Launch} {e : Env} {s : State} {m : MethodId} {args : Array Value} {below : List Frame} {meth : Method} {c : Code} {dC : Nat → ClassId} {dI : Nat → Nat → Nat} {cI cZ cO cW : ClassId} {A : Nat → Prop} {h h_from h_takes h_worth h_settled h_tried : Nat} {f_settledSize : Int32} {Q : Int32 → Prop} {K_10 : Int32 → Int32 → Int32 → Int32 → Int32 → Int32 → (Nat → Int32) → (Nat → Int32) → (Nat → Int32) → (Nat → Int32) → Prop} (hC : Cx p s m args meth c cX0_waiting (some .int) 9 GW RX0) (hK : va_K (dC, dI) vwCl (tysA cI cZ cO cW) s) (hA : ∀ q : Nat, s.heap.size ≤ q → A q) (hk_10 : ∀ (x1 : Int32) (x2 : Int32) (x3 : Int32) (x4 : Int32) (x5 : Int32) (f_size : Int32) (r_from : (Nat → Int32)) (r_takes : (Nat → Int32)) (r_tried : (Nat → Int32)) (r_worth : (Nat → Int32)) (H : Heap) (locs : List Loc) (ls : Array Slot), K_10 x1 x2 x3 x4 x5 f_size r_from r_takes r_tried r_worth → va_P (dC, dI) vwCl (vX0_waiting cI cZ h h_from h_takes h_worth h_settled h_tried f_settledSize f_size r_from r_takes r_tried r_worth) H → va_D A (vX0_waiting cI cZ h h_from h_takes h_worth h_settled h_tried f_settledSize f_size r_from r_takes r_tried r_worth) → va_S A s.heap H locs → lv_has ls 9 [(0, .ref h), (1, .int x1), (2, .int x2), (3, .int x3), (4, .int x4), (5, .int x5)] → W p l e rmX0_waiting s m args below meth c H locs 0 0 (MQ below (qX0_waiting dC dI cI cZ cO cW h h_from h_takes h_worth h_settled h_tried f_settledSize f_size r_from r_takes r_tried r_worth Q A) args s 0 0 A) (F0 m 10 ls [])) :
    ∀ (x1 : Int32) (x2 : Int32) (x3 : Int32) (x4 : Int32) (x5 : Int32) (x6 : Int32) (s0 : Int32) (f_size : Int32) (r_from : (Nat → Int32)) (r_takes : (Nat → Int32)) (r_tried : (Nat → Int32)) (r_worth : (Nat → Int32)) (H : Heap) (locs : List Loc) (ls : Array Slot), wX0_waiting_44 Q K_10 x1 x2 x3 x4 x5 x6 s0 f_size r_from r_takes r_tried r_worth → va_P (dC, dI) vwCl (vX0_waiting cI cZ h h_from h_takes h_worth h_settled h_tried f_settledSize f_size r_from r_takes r_tried r_worth) H → va_D A (vX0_waiting cI cZ h h_from h_takes h_worth h_settled h_tried f_settledSize f_size r_from r_takes r_tried r_worth) → va_S A s.heap H locs → lv_has ls 9 [(0, .ref h), (1, .int x1), (2, .int x2), (3, .int x3), (4, .int x4), (5, .int x5), (6, .int x6)] → W p l e rmX0_waiting s m args below meth c H locs 0 0 (MQ below (qX0_waiting dC dI cI cZ cO cW h h_from h_takes h_worth h_settled h_tried f_settledSize f_size r_from r_takes r_tried r_worth Q A) args s 0 0 A) (F0 m 44 ls [.int s0]) := by
  obtain ⟨hx, hb, hr, hml, hown, hts, hlocks⟩ := id hC
  intro x1 x2 x3 x4 x5 x6 s0 f_size r_from r_takes r_tried r_worth H locs ls hw hP hD hS hl
  refine lv_istore (lv' := [(7, .int s0), (0, .ref h), (1, .int x1), (2, .int x2), (3, .int x3), (4, .int x4), (5, .int x5), (6, .int x6)]) hx hb dX0_waiting_44 hl (by decide) rfl (fun ls hl => ?_)
  refine lv_aload_n hx hb dX0_waiting_46 rfl (lv_at hl 1 rfl) ?_
  refine va_get (D := (dC, dI)) (ci := 0) (v := .ref h_from) (C := RX0) (T := TX0) (N := 7) hx hb hts gu_X0 hown hK hP 0 rfl rfl 0 (by decide) (hts _ gw_5) (fun _ h9 => h9) rfl dX0_waiting_47 ?_
  refine lv_iload hx hb dX0_waiting_50 (lv_at hl 7 rfl) ?_
  obtain ⟨h_6, hw⟩ := hw
  refine va_iald hx hb hK hP 1 0 rfl rfl h_6 dX0_waiting_52 ?_
  refine lv_iload hx hb dX0_waiting_53 (lv_at hl 0 rfl) ?_
  refine lv_if_eq (tgt := 63) hx hb dX0_waiting_55 (by decide) (fun c_7 => ?_) (fun c_7 => ?_)
  · have hw := hw.1 c_7
    refine lv_iload_n hx hb dX0_waiting_63 rfl (lv_at hl 4 rfl) ?_
    exact tX0_waiting_64 hC hK hA hk_10 x1 x2 x3 x4 x5 x6 s0 (r_from x6.toNatClampNeg) x3 f_size r_from r_takes r_tried r_worth _ _ ls hw (hP.sub [0, 1, 2, 3, 4] rfl) (hD.sub [0, 1, 2, 3, 4] (by decide) rfl) hS (lv_sub hl [1, 2, 3, 4, 5, 6, 7, 0] rfl)
  · have hw := hw.2 c_7
    refine lv_iload hx hb dX0_waiting_58 (lv_at hl 5 rfl) ?_
    refine lv_goto (tgt := 64) hx hb dX0_waiting_60 (by decide) ?_
    exact tX0_waiting_64 hC hK hA hk_10 x1 x2 x3 x4 x5 x6 s0 (r_from x6.toNatClampNeg) x4 f_size r_from r_takes r_tried r_worth _ _ ls hw (hP.sub [0, 1, 2, 3, 4] rfl) (hD.sub [0, 1, 2, 3, 4] (by decide) rfl) hS (lv_sub hl [1, 2, 3, 4, 5, 6, 7, 0] rfl)
set_option maxHeartbeats 4000000 in
set_option maxRecDepth 100000 in
theorem tX0_waiting_43 {p : Program} {l : Launch} {e : Env} {s : State} {m : MethodId} {args : Array Value} {below : List Frame} {meth : Method} {c : Code} {dC : Nat → ClassId} {dI : Nat → Nat → Nat} {cI cZ cO cW : ClassId} {A : Nat → Prop} {h h_from h_takes h_worth h_settled h_tried : Nat} {f_settledSize : Int32} {Q : Int32 → Prop} {K_10 : Int32 → Int32 → Int32 → Int32 → Int32 → Int32 → (Nat → Int32) → (Nat → Int32) → (Nat → Int32) → (Nat → Int32) → Prop} (hC : Cx p s m args meth c cX0_waiting (some .int) 9 GW RX0) (hK : va_K (dC, dI) vwCl (tysA cI cZ cO cW) s) (hA : ∀ q : Nat, s.heap.size ≤ q → A q) (hk_10 : ∀ (x1 : Int32) (x2 : Int32) (x3 : Int32) (x4 : Int32) (x5 : Int32) (f_size : Int32) (r_from : (Nat → Int32)) (r_takes : (Nat → Int32)) (r_tried : (Nat → Int32)) (r_worth : (Nat → Int32)) (H : Heap) (locs : List Loc) (ls : Array Slot), K_10 x1 x2 x3 x4 x5 f_size r_from r_takes r_tried r_worth → va_P (dC, dI) vwCl (vX0_waiting cI cZ h h_from h_takes h_worth h_settled h_tried f_settledSize f_size r_from r_takes r_tried r_worth) H → va_D A (vX0_waiting cI cZ h h_from h_takes h_worth h_settled h_tried f_settledSize f_size r_from r_takes r_tried r_worth) → va_S A s.heap H locs → lv_has ls 9 [(0, .ref h), (1, .int x1), (2, .int x2), (3, .int x3), (4, .int x4), (5, .int x5)] → W p l e rmX0_waiting s m args below meth c H locs 0 0 (MQ below (qX0_waiting dC dI cI cZ cO cW h h_from h_takes h_worth h_settled h_tried f_settledSize f_size r_from r_takes r_tried r_worth Q A) args s 0 0 A) (F0 m 10 ls [])) :
    ∀ (x1 : Int32) (x2 : Int32) (x3 : Int32) (x4 : Int32) (x5 : Int32) (x6 : Int32) (f_size : Int32) (r_from : (Nat → Int32)) (r_takes : (Nat → Int32)) (r_tried : (Nat → Int32)) (r_worth : (Nat → Int32)) (H : Heap) (locs : List Loc) (ls : Array Slot), wX0_waiting_43 Q K_10 x1 x2 x3 x4 x5 x6 f_size r_from r_takes r_tried r_worth → va_P (dC, dI) vwCl (vX0_waiting cI cZ h h_from h_takes h_worth h_settled h_tried f_settledSize f_size r_from r_takes r_tried r_worth) H → va_D A (vX0_waiting cI cZ h h_from h_takes h_worth h_settled h_tried f_settledSize f_size r_from r_takes r_tried r_worth) → va_S A s.heap H locs → lv_has ls 9 [(0, .ref h), (1, .int x1), (2, .int x2), (3, .int x3), (4, .int x4), (5, .int x5), (6, .int x6)] → W p l e rmX0_waiting s m args below meth c H locs 0 0 (MQ below (qX0_waiting dC dI cI cZ cO cW h h_from h_takes h_worth h_settled h_tried f_settledSize f_size r_from r_takes r_tried r_worth Q A) args s 0 0 A) (F0 m 43 ls []) := by
  obtain ⟨hx, hb, hr, hml, hown, hts, hlocks⟩ := id hC
  intro x1 x2 x3 x4 x5 x6 f_size r_from r_takes r_tried r_worth H locs ls hw hP hD hS hl
  refine lv_iconst (v := (0 : Int32)) hx hb dX0_waiting_43 (by decide) ?_
  exact tX0_waiting_44 hC hK hA hk_10 x1 x2 x3 x4 x5 x6 (0 : Int32) f_size r_from r_takes r_tried r_worth _ _ ls hw (hP.sub [0, 1, 2, 3, 4] rfl) (hD.sub [0, 1, 2, 3, 4] (by decide) rfl) hS (lv_sub hl [0, 1, 2, 3, 4, 5, 6] rfl)
set_option maxHeartbeats 4000000 in
set_option maxRecDepth 100000 in
theorem tX0_waiting_10 {p : Program} {l : Launch} {e : Env} {s : State} {m : MethodId} {args : Array Value} {below : List Frame} {meth : Method} {c : Code} {dC : Nat → ClassId} {dI : Nat → Nat → Nat} {cI cZ cO cW : ClassId} {A : Nat → Prop} {h h_from h_takes h_worth h_settled h_tried : Nat} {f_settledSize : Int32} {Q : Int32 → Prop}  (hC : Cx p s m args meth c cX0_waiting (some .int) 9 GW RX0) (hK : va_K (dC, dI) vwCl (tysA cI cZ cO cW) s) (hA : ∀ q : Nat, s.heap.size ≤ q → A q) :
    ∀ (n : Nat) (x1 : Int32) (x2 : Int32) (x3 : Int32) (x4 : Int32) (x5 : Int32) (f_size : Int32) (r_from : (Nat → Int32)) (r_takes : (Nat → Int32)) (r_tried : (Nat → Int32)) (r_worth : (Nat → Int32)) (H : Heap) (locs : List Loc) (ls : Array Slot), wX0_waiting_10 Q  n x1 x2 x3 x4 x5 f_size r_from r_takes r_tried r_worth → va_P (dC, dI) vwCl (vX0_waiting cI cZ h h_from h_takes h_worth h_settled h_tried f_settledSize f_size r_from r_takes r_tried r_worth) H → va_D A (vX0_waiting cI cZ h h_from h_takes h_worth h_settled h_tried f_settledSize f_size r_from r_takes r_tried r_worth) → va_S A s.heap H locs → lv_has ls 9 [(0, .ref h), (1, .int x1), (2, .int x2), (3, .int x3), (4, .int x4), (5, .int x5)] → W p l e rmX0_waiting s m args below meth c H locs 0 0 (MQ below (qX0_waiting dC dI cI cZ cO cW h h_from h_takes h_worth h_settled h_tried f_settledSize f_size r_from r_takes r_tried r_worth Q A) args s 0 0 A) (F0 m 10 ls []) := by
  obtain ⟨hx, hb, hr, hml, hown, hts, hlocks⟩ := id hC
  intro n
  induction n with
  | zero =>
    intro  x1 x2 x3 x4 x5 f_size r_from r_takes r_tried r_worth H locs ls hw
    exact hw.elim
  | succ n ih =>
    intro  x1 x2 x3 x4 x5 f_size r_from r_takes r_tried r_worth H locs ls hw hP hD hS hl
    refine lv_iload hx hb dX0_waiting_10 (lv_at hl 5 rfl) ?_
    refine lv_aload_n hx hb dX0_waiting_12 rfl (lv_at hl 0 rfl) ?_
    refine va_get (D := (dC, dI)) (ci := 0) (v := .int f_size) (C := RX0) (T := TX0) (N := 7) hx hb hts gu_X0 hown hK hP 0 rfl rfl 5 (by decide) (hts _ gw_10) (fun _ h9 => h9) rfl dX0_waiting_13 ?_
    refine lv_icmp_ge (tgt := 127) hx hb dX0_waiting_16 (by decide) (fun c_8 => ?_) (fun c_8 => ?_)
    · have hw := hw.1 c_8
      refine lv_iload_n hx hb dX0_waiting_127 rfl (lv_at hl 2 rfl) ?_
      have hP9 := hP.sub (ws' := (vX0_waiting cI cZ h h_from h_takes h_worth h_settled h_tried f_settledSize f_size r_from r_takes r_tried r_worth)) [0, 1, 2, 3, 4] rfl
      have hD9 := hD.sub (ws' := (vX0_waiting cI cZ h h_from h_takes h_worth h_settled h_tried f_settledSize f_size r_from r_takes r_tried r_worth)) [0, 1, 2, 3, 4] (by decide) rfl
      exact W.iret (v := x2) hx hb hr (fun t ht hW => ⟨⟨x2, (), rfl, hw, by rw [ht]; exact hP9, va_K.moved hW.alike hK, hD9⟩, hS.F ht⟩) hS.2.2 dX0_waiting_128
    · have hw := hw.2 c_8
      refine lv_aload_n hx hb dX0_waiting_19 rfl (lv_at hl 0 rfl) ?_
      refine va_get (D := (dC, dI)) (ci := 0) (v := .ref h_tried) (C := RX0) (T := TX0) (N := 7) hx hb hts gu_X0 hown hK hP 0 rfl rfl 4 (by decide) (hts _ gw_9) (fun _ h9 => h9) rfl dX0_waiting_20 ?_
      refine lv_iload hx hb dX0_waiting_23 (lv_at hl 5 rfl) ?_
      obtain ⟨h_9, hw⟩ := hw
      refine va_iald hx hb hK hP 3 0 rfl rfl h_9 dX0_waiting_25 ?_
      refine lv_istore (lv' := [(6, .int (r_tried x5.toNatClampNeg)), (0, .ref h), (1, .int x1), (2, .int x2), (3, .int x3), (4, .int x4), (5, .int x5)]) hx hb dX0_waiting_26 hl (by decide) rfl (fun ls hl => ?_)
      refine lv_iload_n hx hb dX0_waiting_28 rfl (lv_at hl 2 rfl) ?_
      refine lv_iconst (v := (2 : Int32)) hx hb dX0_waiting_29 (by decide) ?_
      refine lv_icmp_ne (tgt := 43) hx hb dX0_waiting_30 (by decide) (fun c_10 => ?_) (fun c_10 => ?_)
      · have hw := hw.1 c_10
        exact tX0_waiting_43 hC hK hA ih x1 x2 x3 x4 x5 (r_tried x5.toNatClampNeg) f_size r_from r_takes r_tried r_worth _ _ ls hw (hP.sub [0, 1, 2, 3, 4] rfl) (hD.sub [0, 1, 2, 3, 4] (by decide) rfl) hS (lv_sub hl [1, 2, 3, 4, 5, 6, 0] rfl)
      · have hw := hw.2 c_10
        refine lv_iload hx hb dX0_waiting_33 (lv_at hl 5 rfl) ?_
        refine lv_iload_n hx hb dX0_waiting_35 rfl (lv_at hl 4 rfl) ?_
        refine lv_icmp_ge (tgt := 43) hx hb dX0_waiting_36 (by decide) (fun c_11 => ?_) (fun c_11 => ?_)
        · have hw := hw.1 c_11
          exact tX0_waiting_43 hC hK hA ih x1 x2 x3 x4 x5 (r_tried x5.toNatClampNeg) f_size r_from r_takes r_tried r_worth _ _ ls hw (hP.sub [0, 1, 2, 3, 4] rfl) (hD.sub [0, 1, 2, 3, 4] (by decide) rfl) hS (lv_sub hl [1, 2, 3, 4, 5, 6, 0] rfl)
        · have hw := hw.2 c_11
          refine lv_iconst (v := (1 : Int32)) hx hb dX0_waiting_39 (by decide) ?_
          refine lv_goto (tgt := 44) hx hb dX0_waiting_40 (by decide) ?_
          exact tX0_waiting_44 hC hK hA ih x1 x2 x3 x4 x5 (r_tried x5.toNatClampNeg) (1 : Int32) f_size r_from r_takes r_tried r_worth _ _ ls hw (hP.sub [0, 1, 2, 3, 4] rfl) (hD.sub [0, 1, 2, 3, 4] (by decide) rfl) hS (lv_sub hl [1, 2, 3, 4, 5, 6, 0] rfl)
set_option maxHeartbeats 4000000 in
set_option maxRecDepth 100000 in
theorem tX0_waiting_e {p : Program} {l : Launch} {e : Env} {s : State} {m : MethodId} {args : Array Value} {below : List Frame} {meth : Method} {c : Code} {dC : Nat → ClassId} {dI : Nat → Nat → Nat} {cI cZ cO cW : ClassId} {A : Nat → Prop} {h h_from h_takes h_worth h_settled h_tried : Nat} {f_settledSize : Int32} {Q : Int32 → Prop} (hC : Cx p s m args meth c cX0_waiting (some .int) 9 GW RX0) (hK : va_K (dC, dI) vwCl (tysA cI cZ cO cW) s) (hA : ∀ q : Nat, s.heap.size ≤ q → A q) :
    ∀ (x1 : Int32) (f_size : Int32) (r_from : Nat → Int32) (r_takes : Nat → Int32) (r_tried : Nat → Int32) (r_worth : Nat → Int32) (H : Heap) (locs : List Loc) (ls : Array Slot), wX0_waiting Q x1 f_size r_from r_takes r_tried r_worth → va_P (dC, dI) vwCl (vX0_waiting cI cZ h h_from h_takes h_worth h_settled h_tried f_settledSize f_size r_from r_takes r_tried r_worth) H → va_D A (vX0_waiting cI cZ h h_from h_takes h_worth h_settled h_tried f_settledSize f_size r_from r_takes r_tried r_worth) → va_S A s.heap H locs → lv_has ls 9 [(0, .ref h), (1, .int x1)] → W p l e rmX0_waiting s m args below meth c H locs 0 0 (MQ below (qX0_waiting dC dI cI cZ cO cW h h_from h_takes h_worth h_settled h_tried f_settledSize f_size r_from r_takes r_tried r_worth Q A) args s 0 0 A) (F0 m 0 ls []) := by
  obtain ⟨hx, hb, hr, hml, hown, hts, hlocks⟩ := id hC
  intro x1 f_size r_from r_takes r_tried r_worth H locs ls hw hP hD hS hl
  refine lv_iconst (v := (0 : Int32)) hx hb dX0_waiting_0 (by decide) ?_
  refine lv_istore_n (lv' := [(2, .int (0 : Int32)), (0, .ref h), (1, .int x1)]) hx hb dX0_waiting_1 rfl hl (by decide) rfl (fun ls hl => ?_)
  refine lv_iconst (v := (0 : Int32)) hx hb dX0_waiting_2 (by decide) ?_
  refine lv_istore_n (lv' := [(3, .int (0 : Int32)), (2, .int (0 : Int32)), (0, .ref h), (1, .int x1)]) hx hb dX0_waiting_3 rfl hl (by decide) rfl (fun ls hl => ?_)
  refine lv_iconst (v := (0 : Int32)) hx hb dX0_waiting_4 (by decide) ?_
  refine lv_istore (lv' := [(4, .int (0 : Int32)), (3, .int (0 : Int32)), (2, .int (0 : Int32)), (0, .ref h), (1, .int x1)]) hx hb dX0_waiting_5 hl (by decide) rfl (fun ls hl => ?_)
  refine lv_iconst (v := (0 : Int32)) hx hb dX0_waiting_7 (by decide) ?_
  refine lv_istore (lv' := [(5, .int (0 : Int32)), (4, .int (0 : Int32)), (3, .int (0 : Int32)), (2, .int (0 : Int32)), (0, .ref h), (1, .int x1)]) hx hb dX0_waiting_8 hl (by decide) rfl (fun ls hl => ?_)
  obtain ⟨n_12, hw⟩ := hw
  exact tX0_waiting_10 hC hK hA  n_12 x1 (0 : Int32) (0 : Int32) (0 : Int32) (0 : Int32) f_size r_from r_takes r_tried r_worth _ _ ls hw (hP.sub [0, 1, 2, 3, 4] rfl) (hD.sub [0, 1, 2, 3, 4] (by decide) rfl) hS (lv_sub hl [4, 5, 3, 2, 1, 0] rfl)
set_option maxHeartbeats 4000000 in
set_option maxRecDepth 100000 in
theorem kX0_waiting (l : Launch) (dC : Nat → ClassId) (dI : Nat → Nat → Nat) (cI cZ cO cW : ClassId) (h h_from h_takes h_worth h_settled h_tried : Nat)  (sz : Nat) (f_settledSize : Int32) (f_size : Int32) (r_from : Nat → Int32) (r_takes : Nat → Int32) (r_tried : Nat → Int32) (r_worth : Nat → Int32) (x1 : Int32) (Q : Int32 → Prop) (hw : wX0_waiting Q x1 f_size r_from r_takes r_tried r_worth) : Met l yX0_waiting zsX0_waiting rmX0_waiting (va_Pc [.ref h, .int x1] (fun U => U.heap.size = sz ∧ va_P (dC, dI) vwCl (vX0_waiting cI cZ h h_from h_takes h_worth h_settled h_tried f_settledSize f_size r_from r_takes r_tried r_worth) U.heap ∧ va_K (dC, dI) vwCl (tysA cI cZ cO cW) U ∧ va_D (fun _ => True) (vX0_waiting cI cZ h h_from h_takes h_worth h_settled h_tried f_settledSize f_size r_from r_takes r_tried r_worth))) (qX0_waiting dC dI cI cZ cO cW h h_from h_takes h_worth h_settled h_tried f_settledSize f_size r_from r_takes r_tried r_worth Q (va_A (vX0_waiting cI cZ h h_from h_takes h_worth h_settled h_tried f_settledSize f_size r_from r_takes r_tried r_worth) sz)) 0 0 (va_A (vX0_waiting cI cZ h h_from h_takes h_worth h_settled h_tried f_settledSize f_size r_from r_takes r_tried r_worth) sz) := by
  refine Met.ofW (cc := cX0_waiting) (maxL := 9) (ret := (some .int)) (by decide) rfl ?_
  intro p e s m args below meth c s₁ B hml hv
  obtain ⟨rfl, hsz, hP, hK, hD0⟩ := hv
  subst hsz
  have hC : Cx p s m ([.ref h, .int x1] : List Value).toArray meth c cX0_waiting (some .int) 9 GW RX0 := ⟨B.exec, B.bytes, B.returns, hml, findClass_of_methodNamed B.named, fun w h => atoms_spec (ws := zsX0_waiting) B.pre w (List.mem_cons_of_mem _ h), B.notSynchronized⟩
  have hD := hD0.self (sz := s.heap.size)
  generalize hAe : va_A (vX0_waiting cI cZ h h_from h_takes h_worth h_settled h_tried f_settledSize f_size r_from r_takes r_tried r_worth) s.heap.size = A at hD ⊢
  have hA : ∀ q : Nat, s.heap.size ≤ q → A q := fun q h => by rw [← hAe]; exact Or.inr h
  have hl := lv_entry ([.ref h, .int x1]) (n := 9) (Nat.le_of_ble_eq_true rfl)
  rw [lg_entry_eq]
  generalize (lg_sl ([.ref h, .int x1]) ++ List.replicate (9 - (lg_sl ([.ref h, .int x1])).length) Slot.unset).toArray = ls at hl ⊢
  exact tX0_waiting_e hC hK hA x1 f_size r_from r_takes r_tried r_worth _ _ ls hw hP hD va_S.rf hl

/-! X0_tryDigits -/
def wX0_tryDigits_4 (Q : Int32 → (Nat → Int32) → Prop)   : Nat → Int32 → Int32 → Int32 → Int32 → (Nat → Int32) → Prop
  | 0, _, _, _, _, _ => False
  | n + 1, x1, x2, x3, f_size, r_tried => ((f_size ≤ x3 → (Q (1 : Int32) r_tried)) ∧ (¬ f_size ≤ x3 → ((f_size ≤ ((x1.toUInt32 >>> (((3 : Int32) * x3).toUInt32 &&& Int32.toUInt32 31)).toInt32 &&& (7 : Int32)) → (Q (0 : Int32) r_tried)) ∧ (¬ f_size ≤ ((x1.toUInt32 >>> (((3 : Int32) * x3).toUInt32 &&& Int32.toUInt32 31)).toInt32 &&& (7 : Int32)) → ((¬ ((x2 >>> (((x1.toUInt32 >>> (((3 : Int32) * x3).toUInt32 &&& Int32.toUInt32 31)).toInt32 &&& (7 : Int32)) &&& 31)) &&& (1 : Int32)) = (1 : Int32) → (vp_in x3 6 ∧ (wX0_tryDigits_4 Q n x1 (x2 ||| ((1 : Int32) <<< (((x1.toUInt32 >>> (((3 : Int32) * x3).toUInt32 &&& Int32.toUInt32 31)).toInt32 &&& (7 : Int32)) &&& 31))) (x3 + (1 : Int32)) f_size (upd r_tried x3.toNatClampNeg ((x1.toUInt32 >>> (((3 : Int32) * x3).toUInt32 &&& Int32.toUInt32 31)).toInt32 &&& (7 : Int32)))))) ∧ (((x2 >>> (((x1.toUInt32 >>> (((3 : Int32) * x3).toUInt32 &&& Int32.toUInt32 31)).toInt32 &&& (7 : Int32)) &&& 31)) &&& (1 : Int32)) = (1 : Int32) → (Q (0 : Int32) r_tried)))))))
def wX0_tryDigits (Q : Int32 → (Nat → Int32) → Prop) (x1 : Int32) (f_size : Int32) (r_tried : Nat → Int32) : Prop :=
  (∃ j_, wX0_tryDigits_4 Q j_ x1 (0 : Int32) (0 : Int32) f_size r_tried)
abbrev vX0_tryDigits (cI cZ : ClassId) (h h_from h_takes h_worth h_settled h_tried : Nat) (f_settledSize : Int32) (f_size : Int32) (r_tried : Nat → Int32) : va_W := [(h, .inr (0, [.ref h_from, .ref h_takes, .ref h_worth, .ref h_settled, .ref h_tried, .int f_size, .int f_settledSize])), (h_tried, .inl (cI, 6, .inl r_tried))]
abbrev rmX0_tryDigits : Room := { frames := 0, cells := 0, slots := 0, locals := 0 }
abbrev qX0_tryDigits (dC : Nat → ClassId) (dI : Nat → Nat → Nat) (cI cZ cO cW : ClassId) (h h_from h_takes h_worth h_settled h_tried : Nat) (f_settledSize : Int32) (f_size : Int32) (Q : Int32 → (Nat → Int32) → Prop) (A : Nat → Prop) : Array Value → State → Outcome → State → Prop := va_Qi (fun (r : Int32) (u : (Nat → Int32)) => Q r u) (fun (u : (Nat → Int32)) (t : State) => va_P (dC, dI) vwCl (vX0_tryDigits cI cZ h h_from h_takes h_worth h_settled h_tried f_settledSize f_size u) t.heap ∧ va_K (dC, dI) vwCl (tysA cI cZ cO cW) t ∧ va_D A (vX0_tryDigits cI cZ h h_from h_takes h_worth h_settled h_tried f_settledSize f_size u)) A
def zsX0_tryDigits : List Cond := Cond.code yX0_tryDigits cX0_tryDigits 5 (some .boolean) :: GW
set_option maxHeartbeats 4000000 in
set_option maxRecDepth 100000 in
theorem tX0_tryDigits_4 {p : Program} {l : Launch} {e : Env} {s : State} {m : MethodId} {args : Array Value} {below : List Frame} {meth : Method} {c : Code} {dC : Nat → ClassId} {dI : Nat → Nat → Nat} {cI cZ cO cW : ClassId} {A : Nat → Prop} {h h_from h_takes h_worth h_settled h_tried : Nat} {f_settledSize : Int32} {Q : Int32 → (Nat → Int32) → Prop}  (hC : Cx p s m args meth c cX0_tryDigits (some .boolean) 5 GW RX0) (hK : va_K (dC, dI) vwCl (tysA cI cZ cO cW) s) (hA : ∀ q : Nat, s.heap.size ≤ q → A q) :
    ∀ (n : Nat) (x1 : Int32) (x2 : Int32) (x3 : Int32) (f_size : Int32) (r_tried : (Nat → Int32)) (H : Heap) (locs : List Loc) (ls : Array Slot), wX0_tryDigits_4 Q  n x1 x2 x3 f_size r_tried → va_P (dC, dI) vwCl (vX0_tryDigits cI cZ h h_from h_takes h_worth h_settled h_tried f_settledSize f_size r_tried) H → va_D A (vX0_tryDigits cI cZ h h_from h_takes h_worth h_settled h_tried f_settledSize f_size r_tried) → va_S A s.heap H locs → lv_has ls 5 [(0, .ref h), (1, .int x1), (2, .int x2), (3, .int x3)] → W p l e rmX0_tryDigits s m args below meth c H locs 0 0 (MQ below (qX0_tryDigits dC dI cI cZ cO cW h h_from h_takes h_worth h_settled h_tried f_settledSize f_size Q A) args s 0 0 A) (F0 m 4 ls []) := by
  obtain ⟨hx, hb, hr, hml, hown, hts, hlocks⟩ := id hC
  intro n
  induction n with
  | zero =>
    intro  x1 x2 x3 f_size r_tried H locs ls hw
    exact hw.elim
  | succ n ih =>
    intro  x1 x2 x3 f_size r_tried H locs ls hw hP hD hS hl
    refine lv_iload_n hx hb dX0_tryDigits_4 rfl (lv_at hl 3 rfl) ?_
    refine lv_aload_n hx hb dX0_tryDigits_5 rfl (lv_at hl 0 rfl) ?_
    refine va_get (D := (dC, dI)) (ci := 0) (v := .int f_size) (C := RX0) (T := TX0) (N := 7) hx hb hts gu_X0 hown hK hP 0 rfl rfl 5 (by decide) (hts _ gw_10) (fun _ h9 => h9) rfl dX0_tryDigits_6 ?_
    refine lv_icmp_ge (tgt := 64) hx hb dX0_tryDigits_9 (by decide) (fun c_1 => ?_) (fun c_1 => ?_)
    · have hw := hw.1 c_1
      refine lv_iconst (v := (1 : Int32)) hx hb dX0_tryDigits_64 (by decide) ?_
      have hP9 := hP.sub (ws' := (vX0_tryDigits cI cZ h h_from h_takes h_worth h_settled h_tried f_settledSize f_size r_tried)) [0, 1] rfl
      have hD9 := hD.sub (ws' := (vX0_tryDigits cI cZ h h_from h_takes h_worth h_settled h_tried f_settledSize f_size r_tried)) [0, 1] (by decide) rfl
      exact W.zret (v := (1 : Int32)) (ty := .boolean) hx hb hr rfl (fun t ht hW => ⟨⟨(1 : Int32), r_tried, rfl, hw, by rw [ht]; exact hP9, va_K.moved hW.alike hK, hD9⟩, hS.F ht⟩) hS.2.2 dX0_tryDigits_65
    · have hw := hw.2 c_1
      refine lv_iload_n hx hb dX0_tryDigits_12 rfl (lv_at hl 1 rfl) ?_
      refine lv_iconst (v := (3 : Int32)) hx hb dX0_tryDigits_13 (by decide) ?_
      refine lv_iload_n hx hb dX0_tryDigits_14 rfl (lv_at hl 3 rfl) ?_
      refine lv_imul hx hb dX0_tryDigits_15 ?_
      refine lv_iushr (v := (x1.toUInt32 >>> (((3 : Int32) * x3).toUInt32 &&& Int32.toUInt32 31)).toInt32) hx hb dX0_tryDigits_16 rfl ?_
      refine lv_bipush (v := (7 : Int32)) hx hb dX0_tryDigits_17 (by decide) ?_
      refine lv_iand hx hb dX0_tryDigits_19 ?_
      refine lv_istore (lv' := [(4, .int ((x1.toUInt32 >>> (((3 : Int32) * x3).toUInt32 &&& Int32.toUInt32 31)).toInt32 &&& (7 : Int32))), (0, .ref h), (1, .int x1), (2, .int x2), (3, .int x3)]) hx hb dX0_tryDigits_20 hl (by decide) rfl (fun ls hl => ?_)
      refine lv_iload hx hb dX0_tryDigits_22 (lv_at hl 0 rfl) ?_
      refine lv_aload_n hx hb dX0_tryDigits_24 rfl (lv_at hl 1 rfl) ?_
      refine va_get (D := (dC, dI)) (ci := 0) (v := .int f_size) (C := RX0) (T := TX0) (N := 7) hx hb hts gu_X0 hown hK hP 0 rfl rfl 5 (by decide) (hts _ gw_10) (fun _ h9 => h9) rfl dX0_tryDigits_25 ?_
      refine lv_icmp_ge (tgt := 41) hx hb dX0_tryDigits_28 (by decide) (fun c_2 => ?_) (fun c_2 => ?_)
      · have hw := hw.1 c_2
        refine lv_iconst (v := (0 : Int32)) hx hb dX0_tryDigits_41 (by decide) ?_
        have hP9 := hP.sub (ws' := (vX0_tryDigits cI cZ h h_from h_takes h_worth h_settled h_tried f_settledSize f_size r_tried)) [0, 1] rfl
        have hD9 := hD.sub (ws' := (vX0_tryDigits cI cZ h h_from h_takes h_worth h_settled h_tried f_settledSize f_size r_tried)) [0, 1] (by decide) rfl
        exact W.zret (v := (0 : Int32)) (ty := .boolean) hx hb hr rfl (fun t ht hW => ⟨⟨(0 : Int32), r_tried, rfl, hw, by rw [ht]; exact hP9, va_K.moved hW.alike hK, hD9⟩, hS.F ht⟩) hS.2.2 dX0_tryDigits_42
      · have hw := hw.2 c_2
        refine lv_iload_n hx hb dX0_tryDigits_31 rfl (lv_at hl 3 rfl) ?_
        refine lv_iload hx hb dX0_tryDigits_32 (lv_at hl 0 rfl) ?_
        refine lv_ishr hx hb dX0_tryDigits_34 ?_
        refine lv_iconst (v := (1 : Int32)) hx hb dX0_tryDigits_35 (by decide) ?_
        refine lv_iand hx hb dX0_tryDigits_36 ?_
        refine lv_iconst (v := (1 : Int32)) hx hb dX0_tryDigits_37 (by decide) ?_
        refine lv_icmp_ne (tgt := 43) hx hb dX0_tryDigits_38 (by decide) (fun c_3 => ?_) (fun c_3 => ?_)
        · have hw := hw.1 c_3
          refine lv_iload_n hx hb dX0_tryDigits_43 rfl (lv_at hl 3 rfl) ?_
          refine lv_iconst (v := (1 : Int32)) hx hb dX0_tryDigits_44 (by decide) ?_
          refine lv_iload hx hb dX0_tryDigits_45 (lv_at hl 0 rfl) ?_
          refine lv_ishl hx hb dX0_tryDigits_47 ?_
          refine lv_ior hx hb dX0_tryDigits_48 ?_
          refine lv_istore_n (lv' := [(2, .int (x2 ||| ((1 : Int32) <<< (((x1.toUInt32 >>> (((3 : Int32) * x3).toUInt32 &&& Int32.toUInt32 31)).toInt32 &&& (7 : Int32)) &&& 31)))), (4, .int ((x1.toUInt32 >>> (((3 : Int32) * x3).toUInt32 &&& Int32.toUInt32 31)).toInt32 &&& (7 : Int32))), (0, .ref h), (1, .int x1), (3, .int x3)]) hx hb dX0_tryDigits_49 rfl hl (by decide) rfl (fun ls hl => ?_)
          refine lv_aload_n hx hb dX0_tryDigits_50 rfl (lv_at hl 2 rfl) ?_
          refine va_get (D := (dC, dI)) (ci := 0) (v := .ref h_tried) (C := RX0) (T := TX0) (N := 7) hx hb hts gu_X0 hown hK hP 0 rfl rfl 4 (by decide) (hts _ gw_9) (fun _ h9 => h9) rfl dX0_tryDigits_51 ?_
          refine lv_iload_n hx hb dX0_tryDigits_54 rfl (lv_at hl 4 rfl) ?_
          refine lv_iload hx hb dX0_tryDigits_55 (lv_at hl 1 rfl) ?_
          obtain ⟨h_4, hw⟩ := hw
          refine va_iast hx hb hK hP hD hS 1 0 rfl rfl h_4 dX0_tryDigits_57 (fun H locs hP hD hS => ?_)
          have hP : va_P (dC, dI) vwCl [(h, .inr (0, [.ref h_from, .ref h_takes, .ref h_worth, .ref h_settled, .ref h_tried, .int f_size, .int f_settledSize])), (h_tried, .inl (cI, 6, .inl (upd r_tried x3.toNatClampNeg ((x1.toUInt32 >>> (((3 : Int32) * x3).toUInt32 &&& Int32.toUInt32 31)).toInt32 &&& (7 : Int32)))))] _ := hP
          have hD : va_D A [(h, .inr (0, [.ref h_from, .ref h_takes, .ref h_worth, .ref h_settled, .ref h_tried, .int f_size, .int f_settledSize])), (h_tried, .inl (cI, 6, .inl (upd r_tried x3.toNatClampNeg ((x1.toUInt32 >>> (((3 : Int32) * x3).toUInt32 &&& Int32.toUInt32 31)).toInt32 &&& (7 : Int32)))))] := hD
          refine lv_iinc (v := (x3 + (1 : Int32))) (lv' := [(3, .int (x3 + (1 : Int32))), (2, .int (x2 ||| ((1 : Int32) <<< (((x1.toUInt32 >>> (((3 : Int32) * x3).toUInt32 &&& Int32.toUInt32 31)).toInt32 &&& (7 : Int32)) &&& 31)))), (4, .int ((x1.toUInt32 >>> (((3 : Int32) * x3).toUInt32 &&& Int32.toUInt32 31)).toInt32 &&& (7 : Int32))), (0, .ref h), (1, .int x1)]) hx hb dX0_tryDigits_58 hl (k := 4) rfl rfl (by decide) rfl (fun ls hl => ?_)
          refine lv_goto (tgt := 4) hx hb dX0_tryDigits_61 (by decide) ?_
          exact ih x1 (x2 ||| ((1 : Int32) <<< (((x1.toUInt32 >>> (((3 : Int32) * x3).toUInt32 &&& Int32.toUInt32 31)).toInt32 &&& (7 : Int32)) &&& 31))) (x3 + (1 : Int32)) f_size (upd r_tried x3.toNatClampNeg ((x1.toUInt32 >>> (((3 : Int32) * x3).toUInt32 &&& Int32.toUInt32 31)).toInt32 &&& (7 : Int32))) _ _ ls hw (hP.sub [0, 1] rfl) (hD.sub [0, 1] (by decide) rfl) hS (lv_sub hl [3, 4, 1, 0] rfl)
        · have hw := hw.2 c_3
          refine lv_iconst (v := (0 : Int32)) hx hb dX0_tryDigits_41 (by decide) ?_
          have hP9 := hP.sub (ws' := (vX0_tryDigits cI cZ h h_from h_takes h_worth h_settled h_tried f_settledSize f_size r_tried)) [0, 1] rfl
          have hD9 := hD.sub (ws' := (vX0_tryDigits cI cZ h h_from h_takes h_worth h_settled h_tried f_settledSize f_size r_tried)) [0, 1] (by decide) rfl
          exact W.zret (v := (0 : Int32)) (ty := .boolean) hx hb hr rfl (fun t ht hW => ⟨⟨(0 : Int32), r_tried, rfl, hw, by rw [ht]; exact hP9, va_K.moved hW.alike hK, hD9⟩, hS.F ht⟩) hS.2.2 dX0_tryDigits_42
set_option maxHeartbeats 4000000 in
set_option maxRecDepth 100000 in
theorem tX0_tryDigits_e {p : Program} {l : Launch} {e : Env} {s : State} {m : MethodId} {args : Array Value} {below : List Frame} {meth : Method} {c : Code} {dC : Nat → ClassId} {dI : Nat → Nat → Nat} {cI cZ cO cW : ClassId} {A : Nat → Prop} {h h_from h_takes h_worth h_settled h_tried : Nat} {f_settledSize : Int32} {Q : Int32 → (Nat → Int32) → Prop} (hC : Cx p s m args meth c cX0_tryDigits (some .boolean) 5 GW RX0) (hK : va_K (dC, dI) vwCl (tysA cI cZ cO cW) s) (hA : ∀ q : Nat, s.heap.size ≤ q → A q) :
    ∀ (x1 : Int32) (f_size : Int32) (r_tried : Nat → Int32) (H : Heap) (locs : List Loc) (ls : Array Slot), wX0_tryDigits Q x1 f_size r_tried → va_P (dC, dI) vwCl (vX0_tryDigits cI cZ h h_from h_takes h_worth h_settled h_tried f_settledSize f_size r_tried) H → va_D A (vX0_tryDigits cI cZ h h_from h_takes h_worth h_settled h_tried f_settledSize f_size r_tried) → va_S A s.heap H locs → lv_has ls 5 [(0, .ref h), (1, .int x1)] → W p l e rmX0_tryDigits s m args below meth c H locs 0 0 (MQ below (qX0_tryDigits dC dI cI cZ cO cW h h_from h_takes h_worth h_settled h_tried f_settledSize f_size Q A) args s 0 0 A) (F0 m 0 ls []) := by
  obtain ⟨hx, hb, hr, hml, hown, hts, hlocks⟩ := id hC
  intro x1 f_size r_tried H locs ls hw hP hD hS hl
  refine lv_iconst (v := (0 : Int32)) hx hb dX0_tryDigits_0 (by decide) ?_
  refine lv_istore_n (lv' := [(2, .int (0 : Int32)), (0, .ref h), (1, .int x1)]) hx hb dX0_tryDigits_1 rfl hl (by decide) rfl (fun ls hl => ?_)
  refine lv_iconst (v := (0 : Int32)) hx hb dX0_tryDigits_2 (by decide) ?_
  refine lv_istore_n (lv' := [(3, .int (0 : Int32)), (2, .int (0 : Int32)), (0, .ref h), (1, .int x1)]) hx hb dX0_tryDigits_3 rfl hl (by decide) rfl (fun ls hl => ?_)
  obtain ⟨n_5, hw⟩ := hw
  exact tX0_tryDigits_4 hC hK hA  n_5 x1 (0 : Int32) (0 : Int32) f_size r_tried _ _ ls hw (hP.sub [0, 1] rfl) (hD.sub [0, 1] (by decide) rfl) hS (lv_sub hl [2, 3, 1, 0] rfl)
set_option maxHeartbeats 4000000 in
set_option maxRecDepth 100000 in
theorem kX0_tryDigits (l : Launch) (dC : Nat → ClassId) (dI : Nat → Nat → Nat) (cI cZ cO cW : ClassId) (h h_from h_takes h_worth h_settled h_tried : Nat)  (sz : Nat) (f_settledSize : Int32) (f_size : Int32) (r_tried : Nat → Int32) (x1 : Int32) (Q : Int32 → (Nat → Int32) → Prop) (hw : wX0_tryDigits Q x1 f_size r_tried) : Met l yX0_tryDigits zsX0_tryDigits rmX0_tryDigits (va_Pc [.ref h, .int x1] (fun U => U.heap.size = sz ∧ va_P (dC, dI) vwCl (vX0_tryDigits cI cZ h h_from h_takes h_worth h_settled h_tried f_settledSize f_size r_tried) U.heap ∧ va_K (dC, dI) vwCl (tysA cI cZ cO cW) U ∧ va_D (fun _ => True) (vX0_tryDigits cI cZ h h_from h_takes h_worth h_settled h_tried f_settledSize f_size r_tried))) (qX0_tryDigits dC dI cI cZ cO cW h h_from h_takes h_worth h_settled h_tried f_settledSize f_size Q (va_A (vX0_tryDigits cI cZ h h_from h_takes h_worth h_settled h_tried f_settledSize f_size r_tried) sz)) 0 0 (va_A (vX0_tryDigits cI cZ h h_from h_takes h_worth h_settled h_tried f_settledSize f_size r_tried) sz) := by
  refine Met.ofW (cc := cX0_tryDigits) (maxL := 5) (ret := (some .boolean)) (by decide) rfl ?_
  intro p e s m args below meth c s₁ B hml hv
  obtain ⟨rfl, hsz, hP, hK, hD0⟩ := hv
  subst hsz
  have hC : Cx p s m ([.ref h, .int x1] : List Value).toArray meth c cX0_tryDigits (some .boolean) 5 GW RX0 := ⟨B.exec, B.bytes, B.returns, hml, findClass_of_methodNamed B.named, fun w h => atoms_spec (ws := zsX0_tryDigits) B.pre w (List.mem_cons_of_mem _ h), B.notSynchronized⟩
  have hD := hD0.self (sz := s.heap.size)
  generalize hAe : va_A (vX0_tryDigits cI cZ h h_from h_takes h_worth h_settled h_tried f_settledSize f_size r_tried) s.heap.size = A at hD ⊢
  have hA : ∀ q : Nat, s.heap.size ≤ q → A q := fun q h => by rw [← hAe]; exact Or.inr h
  have hl := lv_entry ([.ref h, .int x1]) (n := 5) (Nat.le_of_ble_eq_true rfl)
  rw [lg_entry_eq]
  generalize (lg_sl ([.ref h, .int x1]) ++ List.replicate (5 - (lg_sl ([.ref h, .int x1])).length) Slot.unset).toArray = ls at hl ⊢
  exact tX0_tryDigits_e hC hK hA x1 f_size r_tried _ _ ls hw hP hD va_S.rf hl

/-! X0_tryNext -/
def wX0_tryNext_91 (Q : Int32 → (Nat → Int32) → Prop)   : Nat → Int32 → Int32 → Int32 → (Nat → Int32) → Prop
  | 0, _, _, _, _ => False
  | n + 1, x3, x4, f_size, r_tried => ((x4 ≤ x3 → (Q (1 : Int32) r_tried)) ∧ (¬ x4 ≤ x3 → (wX0_swap (fun r_tried_2 => (wX0_tryNext_91 Q n (x3 + (1 : Int32)) (x4 + (-1 : Int32)) f_size r_tried_2)) x3 x4 r_tried)))
def wX0_tryNext_73 (Q : Int32 → (Nat → Int32) → Prop)   (x1 : Int32) (x2 : Int32) (f_size : Int32) (r_tried : (Nat → Int32)) : Prop :=
  (wX0_swap (fun r_tried_3 => (∃ j_, wX0_tryNext_91 Q j_ (x1 + (1 : Int32)) (f_size - (1 : Int32)) f_size r_tried_3)) x1 x2 r_tried)
def wX0_tryNext_47 (Q : Int32 → (Nat → Int32) → Prop)   : Nat → Int32 → Int32 → Int32 → (Nat → Int32) → Prop
  | 0, _, _, _, _ => False
  | n + 1, x1, x2, f_size, r_tried => ((x2 ≤ x1 → (wX0_tryNext_73 Q x1 x2 f_size r_tried)) ∧ (¬ x2 ≤ x1 → (vp_in x2 6 ∧ (vp_in x1 6 ∧ (((r_tried x1.toNatClampNeg) ≤ (r_tried x2.toNatClampNeg) → (wX0_tryNext_73 Q x1 x2 f_size r_tried)) ∧ (¬ (r_tried x1.toNatClampNeg) ≤ (r_tried x2.toNatClampNeg) → (wX0_tryNext_47 Q n x1 (x2 + (-1 : Int32)) f_size r_tried)))))))
def wX0_tryNext_34 (Q : Int32 → (Nat → Int32) → Prop)   (x1 : Int32) (f_size : Int32) (r_tried : (Nat → Int32)) : Prop :=
  ((0 ≤ x1 → (∃ j_, wX0_tryNext_47 Q j_ x1 (f_size - (1 : Int32)) f_size r_tried)) ∧ (¬ 0 ≤ x1 → (Q (0 : Int32) r_tried)))
def wX0_tryNext_7 (Q : Int32 → (Nat → Int32) → Prop)   : Nat → Int32 → Int32 → (Nat → Int32) → Prop
  | 0, _, _, _ => False
  | n + 1, x1, f_size, r_tried => ((x1 < 0 → (wX0_tryNext_34 Q x1 f_size r_tried)) ∧ (¬ x1 < 0 → (vp_in x1 6 ∧ (vp_in (x1 + (1 : Int32)) 6 ∧ (((r_tried x1.toNatClampNeg) ≤ (r_tried (x1 + (1 : Int32)).toNatClampNeg) → (wX0_tryNext_34 Q x1 f_size r_tried)) ∧ (¬ (r_tried x1.toNatClampNeg) ≤ (r_tried (x1 + (1 : Int32)).toNatClampNeg) → (wX0_tryNext_7 Q n (x1 + (-1 : Int32)) f_size r_tried)))))))
def wX0_tryNext (Q : Int32 → (Nat → Int32) → Prop)  (f_size : Int32) (r_tried : Nat → Int32) : Prop :=
  (∃ j_, wX0_tryNext_7 Q j_ (f_size - (2 : Int32)) f_size r_tried)
abbrev vX0_tryNext (cI cZ : ClassId) (h h_from h_takes h_worth h_settled h_tried : Nat) (f_settledSize : Int32) (f_size : Int32) (r_tried : Nat → Int32) : va_W := [(h, .inr (0, [.ref h_from, .ref h_takes, .ref h_worth, .ref h_settled, .ref h_tried, .int f_size, .int f_settledSize])), (h_tried, .inl (cI, 6, .inl r_tried))]
abbrev rmX0_tryNext : Room := { frames := 1, cells := 0, slots := 0, locals := 23 }
abbrev qX0_tryNext (dC : Nat → ClassId) (dI : Nat → Nat → Nat) (cI cZ cO cW : ClassId) (h h_from h_takes h_worth h_settled h_tried : Nat) (f_settledSize : Int32) (f_size : Int32) (Q : Int32 → (Nat → Int32) → Prop) (A : Nat → Prop) : Array Value → State → Outcome → State → Prop := va_Qi (fun (r : Int32) (u : (Nat → Int32)) => Q r u) (fun (u : (Nat → Int32)) (t : State) => va_P (dC, dI) vwCl (vX0_tryNext cI cZ h h_from h_takes h_worth h_settled h_tried f_settledSize f_size u) t.heap ∧ va_K (dC, dI) vwCl (tysA cI cZ cO cW) t ∧ va_D A (vX0_tryNext cI cZ h h_from h_takes h_worth h_settled h_tried f_settledSize f_size u)) A
def zsX0_tryNext : List Cond := Cond.code yX0_tryNext cX0_tryNext 5 (some .boolean) :: GW
set_option maxHeartbeats 4000000 in
set_option maxRecDepth 100000 in
theorem tX0_tryNext_91 {p : Program} {l : Launch} {e : Env} {s : State} {m : MethodId} {args : Array Value} {below : List Frame} {meth : Method} {c : Code} {dC : Nat → ClassId} {dI : Nat → Nat → Nat} {cI cZ cO cW : ClassId} {A : Nat → Prop} {h h_from h_takes h_worth h_settled h_tried : Nat} {f_settledSize : Int32} {Q : Int32 → (Nat → Int32) → Prop}  (hC : Cx p s m args meth c cX0_tryNext (some .boolean) 5 GW RX0) (hK : va_K (dC, dI) vwCl (tysA cI cZ cO cW) s) (hA : ∀ q : Nat, s.heap.size ≤ q → A q) :
    ∀ (n : Nat) (x3 : Int32) (x4 : Int32) (f_size : Int32) (r_tried : (Nat → Int32)) (H : Heap) (locs : List Loc) (ls : Array Slot), wX0_tryNext_91 Q  n x3 x4 f_size r_tried → va_P (dC, dI) vwCl (vX0_tryNext cI cZ h h_from h_takes h_worth h_settled h_tried f_settledSize f_size r_tried) H → va_D A (vX0_tryNext cI cZ h h_from h_takes h_worth h_settled h_tried f_settledSize f_size r_tried) → va_S A s.heap H locs → lv_has ls 5 [(0, .ref h), (3, .int x3), (4, .int x4)] → W p l e rmX0_tryNext s m args below meth c H locs 0 0 (MQ below (qX0_tryNext dC dI cI cZ cO cW h h_from h_takes h_worth h_settled h_tried f_settledSize f_size Q A) args s 0 0 A) (F0 m 91 ls []) := by
  obtain ⟨hx, hb, hr, hml, hown, hts, hlocks⟩ := id hC
  intro n
  induction n with
  | zero =>
    intro  x3 x4 f_size r_tried H locs ls hw
    exact hw.elim
  | succ n ih =>
    intro  x3 x4 f_size r_tried H locs ls hw hP hD hS hl
    refine lv_iload_n hx hb dX0_tryNext_91 rfl (lv_at hl 1 rfl) ?_
    refine lv_iload hx hb dX0_tryNext_92 (lv_at hl 2 rfl) ?_
    refine lv_icmp_ge (tgt := 113) hx hb dX0_tryNext_94 (by decide) (fun c_1 => ?_) (fun c_1 => ?_)
    · have hw := hw.1 c_1
      refine lv_iconst (v := (1 : Int32)) hx hb dX0_tryNext_113 (by decide) ?_
      have hP9 := hP.sub (ws' := (vX0_tryNext cI cZ h h_from h_takes h_worth h_settled h_tried f_settledSize f_size r_tried)) [0, 1] rfl
      have hD9 := hD.sub (ws' := (vX0_tryNext cI cZ h h_from h_takes h_worth h_settled h_tried f_settledSize f_size r_tried)) [0, 1] (by decide) rfl
      exact W.zret (v := (1 : Int32)) (ty := .boolean) hx hb hr rfl (fun t ht hW => ⟨⟨(1 : Int32), r_tried, rfl, hw, by rw [ht]; exact hP9, va_K.moved hW.alike hK, hD9⟩, hS.F ht⟩) hS.2.2 dX0_tryNext_114
    · have hw := hw.2 c_1
      refine lv_aload_n hx hb dX0_tryNext_97 rfl (lv_at hl 0 rfl) ?_
      refine lv_iload_n hx hb dX0_tryNext_98 rfl (lv_at hl 1 rfl) ?_
      refine lv_iload hx hb dX0_tryNext_99 (lv_at hl 2 rfl) ?_
      have hPc := hP.sub (ws' := [(h, .inr (0, [.ref h_from, .ref h_takes, .ref h_worth, .ref h_settled, .ref h_tried, .int f_size, .int f_settledSize])), (h_tried, .inl (cI, 6, .inl r_tried))]) [0, 1] rfl
      have hDc := hD.sub (ws' := [(h, .inr (0, [.ref h_from, .ref h_takes, .ref h_worth, .ref h_settled, .ref h_tried, .int f_size, .int f_settledSize])), (h_tried, .inl (cI, 6, .inl r_tried))]) [0, 1] (by decide) rfl
      have hFc := va_free (wc := [(h, .inr (0, [.ref h_from, .ref h_takes, .ref h_worth, .ref h_settled, .ref h_tried, .int f_size, .int f_settledSize])), (h_tried, .inl (cI, 6, .inl r_tried))]) hD hS hA [0, 1] rfl
      refine va_callv (va_runV (As := [.int x3, .int x4]) (rest := []) ⟨hx, hb, hml, hown, hts⟩ (kX0_swap l dC dI cI cZ cO cW h h_from h_takes h_worth h_settled h_tried H.size f_size f_settledSize r_tried x3 x4 _ hw) (cwV 2 hts (gV gw_26 gw_27 gw_28 gw_29 (gM gw_24)) rfl rfl rfl (by decide +kernel) ⟨Nat.le_of_ble_eq_true rfl, Nat.le_of_ble_eq_true rfl⟩) (pv_of hPc hK hDc (va_recv hK hPc (ci := 0) (q0 := 0) rfl rfl)) rfl rfl hl.1 rfl (lv_room (Nat.le_of_ble_eq_true rfl)) dX0_tryNext_101 ⟨Nat.zero_le _, Nat.zero_le _⟩) hS (fun q _ h => hFc q h) hFc (fun u t H locs ht hvm hw hB hz1 hk1 hS => ?_)
      obtain ⟨r_tried_2, rfl⟩ : ∃ z, z = u := ⟨_, rfl⟩
      obtain ⟨hP, hD⟩ := af_join (wr := []) (w1 := [(h, .inr (0, [.ref h_from, .ref h_takes, .ref h_worth, .ref h_settled, .ref h_tried, .int f_size, .int f_settledSize])), (h_tried, .inl (cI, 6, .inl r_tried_2))]) hB ht hP hD [0, 1] [] rfl rfl (by decide) (by decide) hk1 hFc
      have hP : va_P (dC, dI) vwCl [(h, .inr (0, [.ref h_from, .ref h_takes, .ref h_worth, .ref h_settled, .ref h_tried, .int f_size, .int f_settledSize])), (h_tried, .inl (cI, 6, .inl r_tried_2))] _ := hP
      have hD : va_D A [(h, .inr (0, [.ref h_from, .ref h_takes, .ref h_worth, .ref h_settled, .ref h_tried, .int f_size, .int f_settledSize])), (h_tried, .inl (cI, 6, .inl r_tried_2))] := hD
      refine lv_iinc (v := (x3 + (1 : Int32))) (lv' := [(3, .int (x3 + (1 : Int32))), (0, .ref h), (4, .int x4)]) hx hb dX0_tryNext_104 hl (k := 1) rfl rfl (by decide) rfl (fun ls hl => ?_)
      refine lv_iinc (v := (x4 + (-1 : Int32))) (lv' := [(4, .int (x4 + (-1 : Int32))), (3, .int (x3 + (1 : Int32))), (0, .ref h)]) hx hb dX0_tryNext_107 hl (k := 2) rfl rfl (by decide) rfl (fun ls hl => ?_)
      refine lv_goto (tgt := 91) hx hb dX0_tryNext_110 (by decide) ?_
      exact ih (x3 + (1 : Int32)) (x4 + (-1 : Int32)) f_size r_tried_2 _ _ ls hw (hP.sub [0, 1] rfl) (hD.sub [0, 1] (by decide) rfl) hS (lv_sub hl [2, 1, 0] rfl)
set_option maxHeartbeats 4000000 in
set_option maxRecDepth 100000 in
theorem tX0_tryNext_73 {p : Program} {l : Launch} {e : Env} {s : State} {m : MethodId} {args : Array Value} {below : List Frame} {meth : Method} {c : Code} {dC : Nat → ClassId} {dI : Nat → Nat → Nat} {cI cZ cO cW : ClassId} {A : Nat → Prop} {h h_from h_takes h_worth h_settled h_tried : Nat} {f_settledSize : Int32} {Q : Int32 → (Nat → Int32) → Prop}  (hC : Cx p s m args meth c cX0_tryNext (some .boolean) 5 GW RX0) (hK : va_K (dC, dI) vwCl (tysA cI cZ cO cW) s) (hA : ∀ q : Nat, s.heap.size ≤ q → A q) :
    ∀ (x1 : Int32) (x2 : Int32) (f_size : Int32) (r_tried : (Nat → Int32)) (H : Heap) (locs : List Loc) (ls : Array Slot), wX0_tryNext_73 Q  x1 x2 f_size r_tried → va_P (dC, dI) vwCl (vX0_tryNext cI cZ h h_from h_takes h_worth h_settled h_tried f_settledSize f_size r_tried) H → va_D A (vX0_tryNext cI cZ h h_from h_takes h_worth h_settled h_tried f_settledSize f_size r_tried) → va_S A s.heap H locs → lv_has ls 5 [(0, .ref h), (1, .int x1), (2, .int x2)] → W p l e rmX0_tryNext s m args below meth c H locs 0 0 (MQ below (qX0_tryNext dC dI cI cZ cO cW h h_from h_takes h_worth h_settled h_tried f_settledSize f_size Q A) args s 0 0 A) (F0 m 73 ls []) := by
  obtain ⟨hx, hb, hr, hml, hown, hts, hlocks⟩ := id hC
  intro x1 x2 f_size r_tried H locs ls hw hP hD hS hl
  refine lv_aload_n hx hb dX0_tryNext_73 rfl (lv_at hl 0 rfl) ?_
  refine lv_iload_n hx hb dX0_tryNext_74 rfl (lv_at hl 1 rfl) ?_
  refine lv_iload_n hx hb dX0_tryNext_75 rfl (lv_at hl 2 rfl) ?_
  have hPc := hP.sub (ws' := [(h, .inr (0, [.ref h_from, .ref h_takes, .ref h_worth, .ref h_settled, .ref h_tried, .int f_size, .int f_settledSize])), (h_tried, .inl (cI, 6, .inl r_tried))]) [0, 1] rfl
  have hDc := hD.sub (ws' := [(h, .inr (0, [.ref h_from, .ref h_takes, .ref h_worth, .ref h_settled, .ref h_tried, .int f_size, .int f_settledSize])), (h_tried, .inl (cI, 6, .inl r_tried))]) [0, 1] (by decide) rfl
  have hFc := va_free (wc := [(h, .inr (0, [.ref h_from, .ref h_takes, .ref h_worth, .ref h_settled, .ref h_tried, .int f_size, .int f_settledSize])), (h_tried, .inl (cI, 6, .inl r_tried))]) hD hS hA [0, 1] rfl
  refine va_callv (va_runV (As := [.int x1, .int x2]) (rest := []) ⟨hx, hb, hml, hown, hts⟩ (kX0_swap l dC dI cI cZ cO cW h h_from h_takes h_worth h_settled h_tried H.size f_size f_settledSize r_tried x1 x2 _ hw) (cwV 2 hts (gV gw_26 gw_27 gw_28 gw_29 (gM gw_24)) rfl rfl rfl (by decide +kernel) ⟨Nat.le_of_ble_eq_true rfl, Nat.le_of_ble_eq_true rfl⟩) (pv_of hPc hK hDc (va_recv hK hPc (ci := 0) (q0 := 0) rfl rfl)) rfl rfl hl.1 rfl (lv_room (Nat.le_of_ble_eq_true rfl)) dX0_tryNext_76 ⟨Nat.zero_le _, Nat.zero_le _⟩) hS (fun q _ h => hFc q h) hFc (fun u t H locs ht hvm hw hB hz1 hk1 hS => ?_)
  obtain ⟨r_tried_3, rfl⟩ : ∃ z, z = u := ⟨_, rfl⟩
  obtain ⟨hP, hD⟩ := af_join (wr := []) (w1 := [(h, .inr (0, [.ref h_from, .ref h_takes, .ref h_worth, .ref h_settled, .ref h_tried, .int f_size, .int f_settledSize])), (h_tried, .inl (cI, 6, .inl r_tried_3))]) hB ht hP hD [0, 1] [] rfl rfl (by decide) (by decide) hk1 hFc
  have hP : va_P (dC, dI) vwCl [(h, .inr (0, [.ref h_from, .ref h_takes, .ref h_worth, .ref h_settled, .ref h_tried, .int f_size, .int f_settledSize])), (h_tried, .inl (cI, 6, .inl r_tried_3))] _ := hP
  have hD : va_D A [(h, .inr (0, [.ref h_from, .ref h_takes, .ref h_worth, .ref h_settled, .ref h_tried, .int f_size, .int f_settledSize])), (h_tried, .inl (cI, 6, .inl r_tried_3))] := hD
  refine lv_iload_n hx hb dX0_tryNext_79 rfl (lv_at hl 1 rfl) ?_
  refine lv_iconst (v := (1 : Int32)) hx hb dX0_tryNext_80 (by decide) ?_
  refine lv_iadd hx hb dX0_tryNext_81 ?_
  refine lv_istore_n (lv' := [(3, .int (x1 + (1 : Int32))), (0, .ref h), (1, .int x1), (2, .int x2)]) hx hb dX0_tryNext_82 rfl hl (by decide) rfl (fun ls hl => ?_)
  refine lv_aload_n hx hb dX0_tryNext_83 rfl (lv_at hl 1 rfl) ?_
  refine va_get (D := (dC, dI)) (ci := 0) (v := .int f_size) (C := RX0) (T := TX0) (N := 7) hx hb hts gu_X0 hown hK hP 0 rfl rfl 5 (by decide) (hts _ gw_10) (fun _ h9 => h9) rfl dX0_tryNext_84 ?_
  refine lv_iconst (v := (1 : Int32)) hx hb dX0_tryNext_87 (by decide) ?_
  refine lv_isub hx hb dX0_tryNext_88 ?_
  refine lv_istore (lv' := [(4, .int (f_size - (1 : Int32))), (3, .int (x1 + (1 : Int32))), (0, .ref h), (1, .int x1), (2, .int x2)]) hx hb dX0_tryNext_89 hl (by decide) rfl (fun ls hl => ?_)
  obtain ⟨n_4, hw⟩ := hw
  exact tX0_tryNext_91 hC hK hA  n_4 (x1 + (1 : Int32)) (f_size - (1 : Int32)) f_size r_tried_3 _ _ ls hw (hP.sub [0, 1] rfl) (hD.sub [0, 1] (by decide) rfl) hS (lv_sub hl [2, 1, 0] rfl)
set_option maxHeartbeats 4000000 in
set_option maxRecDepth 100000 in
theorem tX0_tryNext_47 {p : Program} {l : Launch} {e : Env} {s : State} {m : MethodId} {args : Array Value} {below : List Frame} {meth : Method} {c : Code} {dC : Nat → ClassId} {dI : Nat → Nat → Nat} {cI cZ cO cW : ClassId} {A : Nat → Prop} {h h_from h_takes h_worth h_settled h_tried : Nat} {f_settledSize : Int32} {Q : Int32 → (Nat → Int32) → Prop}  (hC : Cx p s m args meth c cX0_tryNext (some .boolean) 5 GW RX0) (hK : va_K (dC, dI) vwCl (tysA cI cZ cO cW) s) (hA : ∀ q : Nat, s.heap.size ≤ q → A q) :
    ∀ (n : Nat) (x1 : Int32) (x2 : Int32) (f_size : Int32) (r_tried : (Nat → Int32)) (H : Heap) (locs : List Loc) (ls : Array Slot), wX0_tryNext_47 Q  n x1 x2 f_size r_tried → va_P (dC, dI) vwCl (vX0_tryNext cI cZ h h_from h_takes h_worth h_settled h_tried f_settledSize f_size r_tried) H → va_D A (vX0_tryNext cI cZ h h_from h_takes h_worth h_settled h_tried f_settledSize f_size r_tried) → va_S A s.heap H locs → lv_has ls 5 [(0, .ref h), (1, .int x1), (2, .int x2)] → W p l e rmX0_tryNext s m args below meth c H locs 0 0 (MQ below (qX0_tryNext dC dI cI cZ cO cW h h_from h_takes h_worth h_settled h_tried f_settledSize f_size Q A) args s 0 0 A) (F0 m 47 ls []) := by
  obtain ⟨hx, hb, hr, hml, hown, hts, hlocks⟩ := id hC
  intro n
  induction n with
  | zero =>
    intro  x1 x2 f_size r_tried H locs ls hw
    exact hw.elim
  | succ n ih =>
    intro  x1 x2 f_size r_tried H locs ls hw hP hD hS hl
    refine lv_iload_n hx hb dX0_tryNext_47 rfl (lv_at hl 2 rfl) ?_
    refine lv_iload_n hx hb dX0_tryNext_48 rfl (lv_at hl 1 rfl) ?_
    refine lv_icmp_le (tgt := 73) hx hb dX0_tryNext_49 (by decide) (fun c_5 => ?_) (fun c_5 => ?_)
    · have hw := hw.1 c_5
      exact tX0_tryNext_73 hC hK hA  x1 x2 f_size r_tried _ _ ls hw (hP.sub [0, 1] rfl) (hD.sub [0, 1] (by decide) rfl) hS (lv_sub hl [0, 1, 2] rfl)
    · have hw := hw.2 c_5
      refine lv_aload_n hx hb dX0_tryNext_52 rfl (lv_at hl 0 rfl) ?_
      refine va_get (D := (dC, dI)) (ci := 0) (v := .ref h_tried) (C := RX0) (T := TX0) (N := 7) hx hb hts gu_X0 hown hK hP 0 rfl rfl 4 (by decide) (hts _ gw_9) (fun _ h9 => h9) rfl dX0_tryNext_53 ?_
      refine lv_iload_n hx hb dX0_tryNext_56 rfl (lv_at hl 2 rfl) ?_
      obtain ⟨h_6, hw⟩ := hw
      refine va_iald hx hb hK hP 1 0 rfl rfl h_6 dX0_tryNext_57 ?_
      refine lv_aload_n hx hb dX0_tryNext_58 rfl (lv_at hl 0 rfl) ?_
      refine va_get (D := (dC, dI)) (ci := 0) (v := .ref h_tried) (C := RX0) (T := TX0) (N := 7) hx hb hts gu_X0 hown hK hP 0 rfl rfl 4 (by decide) (hts _ gw_9) (fun _ h9 => h9) rfl dX0_tryNext_59 ?_
      refine lv_iload_n hx hb dX0_tryNext_62 rfl (lv_at hl 1 rfl) ?_
      obtain ⟨h_7, hw⟩ := hw
      refine va_iald hx hb hK hP 1 0 rfl rfl h_7 dX0_tryNext_63 ?_
      refine lv_icmp_ge (tgt := 73) hx hb dX0_tryNext_64 (by decide) (fun c_8 => ?_) (fun c_8 => ?_)
      · have hw := hw.1 c_8
        exact tX0_tryNext_73 hC hK hA  x1 x2 f_size r_tried _ _ ls hw (hP.sub [0, 1] rfl) (hD.sub [0, 1] (by decide) rfl) hS (lv_sub hl [0, 1, 2] rfl)
      · have hw := hw.2 c_8
        refine lv_iinc (v := (x2 + (-1 : Int32))) (lv' := [(2, .int (x2 + (-1 : Int32))), (0, .ref h), (1, .int x1)]) hx hb dX0_tryNext_67 hl (k := 2) rfl rfl (by decide) rfl (fun ls hl => ?_)
        refine lv_goto (tgt := 47) hx hb dX0_tryNext_70 (by decide) ?_
        exact ih x1 (x2 + (-1 : Int32)) f_size r_tried _ _ ls hw (hP.sub [0, 1] rfl) (hD.sub [0, 1] (by decide) rfl) hS (lv_sub hl [1, 2, 0] rfl)
set_option maxHeartbeats 4000000 in
set_option maxRecDepth 100000 in
theorem tX0_tryNext_34 {p : Program} {l : Launch} {e : Env} {s : State} {m : MethodId} {args : Array Value} {below : List Frame} {meth : Method} {c : Code} {dC : Nat → ClassId} {dI : Nat → Nat → Nat} {cI cZ cO cW : ClassId} {A : Nat → Prop} {h h_from h_takes h_worth h_settled h_tried : Nat} {f_settledSize : Int32} {Q : Int32 → (Nat → Int32) → Prop}  (hC : Cx p s m args meth c cX0_tryNext (some .boolean) 5 GW RX0) (hK : va_K (dC, dI) vwCl (tysA cI cZ cO cW) s) (hA : ∀ q : Nat, s.heap.size ≤ q → A q) :
    ∀ (x1 : Int32) (f_size : Int32) (r_tried : (Nat → Int32)) (H : Heap) (locs : List Loc) (ls : Array Slot), wX0_tryNext_34 Q  x1 f_size r_tried → va_P (dC, dI) vwCl (vX0_tryNext cI cZ h h_from h_takes h_worth h_settled h_tried f_settledSize f_size r_tried) H → va_D A (vX0_tryNext cI cZ h h_from h_takes h_worth h_settled h_tried f_settledSize f_size r_tried) → va_S A s.heap H locs → lv_has ls 5 [(0, .ref h), (1, .int x1)] → W p l e rmX0_tryNext s m args below meth c H locs 0 0 (MQ below (qX0_tryNext dC dI cI cZ cO cW h h_from h_takes h_worth h_settled h_tried f_settledSize f_size Q A) args s 0 0 A) (F0 m 34 ls []) := by
  obtain ⟨hx, hb, hr, hml, hown, hts, hlocks⟩ := id hC
  intro x1 f_size r_tried H locs ls hw hP hD hS hl
  refine lv_iload_n hx hb dX0_tryNext_34 rfl (lv_at hl 1 rfl) ?_
  refine lv_if_ge (tgt := 40) hx hb dX0_tryNext_35 (by decide) (fun c_9 => ?_) (fun c_9 => ?_)
  · have hw := hw.1 c_9
    refine lv_aload_n hx hb dX0_tryNext_40 rfl (lv_at hl 0 rfl) ?_
    refine va_get (D := (dC, dI)) (ci := 0) (v := .int f_size) (C := RX0) (T := TX0) (N := 7) hx hb hts gu_X0 hown hK hP 0 rfl rfl 5 (by decide) (hts _ gw_10) (fun _ h9 => h9) rfl dX0_tryNext_41 ?_
    refine lv_iconst (v := (1 : Int32)) hx hb dX0_tryNext_44 (by decide) ?_
    refine lv_isub hx hb dX0_tryNext_45 ?_
    refine lv_istore_n (lv' := [(2, .int (f_size - (1 : Int32))), (0, .ref h), (1, .int x1)]) hx hb dX0_tryNext_46 rfl hl (by decide) rfl (fun ls hl => ?_)
    obtain ⟨n_10, hw⟩ := hw
    exact tX0_tryNext_47 hC hK hA  n_10 x1 (f_size - (1 : Int32)) f_size r_tried _ _ ls hw (hP.sub [0, 1] rfl) (hD.sub [0, 1] (by decide) rfl) hS (lv_sub hl [1, 2, 0] rfl)
  · have hw := hw.2 c_9
    refine lv_iconst (v := (0 : Int32)) hx hb dX0_tryNext_38 (by decide) ?_
    have hP9 := hP.sub (ws' := (vX0_tryNext cI cZ h h_from h_takes h_worth h_settled h_tried f_settledSize f_size r_tried)) [0, 1] rfl
    have hD9 := hD.sub (ws' := (vX0_tryNext cI cZ h h_from h_takes h_worth h_settled h_tried f_settledSize f_size r_tried)) [0, 1] (by decide) rfl
    exact W.zret (v := (0 : Int32)) (ty := .boolean) hx hb hr rfl (fun t ht hW => ⟨⟨(0 : Int32), r_tried, rfl, hw, by rw [ht]; exact hP9, va_K.moved hW.alike hK, hD9⟩, hS.F ht⟩) hS.2.2 dX0_tryNext_39
set_option maxHeartbeats 4000000 in
set_option maxRecDepth 100000 in
theorem tX0_tryNext_7 {p : Program} {l : Launch} {e : Env} {s : State} {m : MethodId} {args : Array Value} {below : List Frame} {meth : Method} {c : Code} {dC : Nat → ClassId} {dI : Nat → Nat → Nat} {cI cZ cO cW : ClassId} {A : Nat → Prop} {h h_from h_takes h_worth h_settled h_tried : Nat} {f_settledSize : Int32} {Q : Int32 → (Nat → Int32) → Prop}  (hC : Cx p s m args meth c cX0_tryNext (some .boolean) 5 GW RX0) (hK : va_K (dC, dI) vwCl (tysA cI cZ cO cW) s) (hA : ∀ q : Nat, s.heap.size ≤ q → A q) :
    ∀ (n : Nat) (x1 : Int32) (f_size : Int32) (r_tried : (Nat → Int32)) (H : Heap) (locs : List Loc) (ls : Array Slot), wX0_tryNext_7 Q  n x1 f_size r_tried → va_P (dC, dI) vwCl (vX0_tryNext cI cZ h h_from h_takes h_worth h_settled h_tried f_settledSize f_size r_tried) H → va_D A (vX0_tryNext cI cZ h h_from h_takes h_worth h_settled h_tried f_settledSize f_size r_tried) → va_S A s.heap H locs → lv_has ls 5 [(0, .ref h), (1, .int x1)] → W p l e rmX0_tryNext s m args below meth c H locs 0 0 (MQ below (qX0_tryNext dC dI cI cZ cO cW h h_from h_takes h_worth h_settled h_tried f_settledSize f_size Q A) args s 0 0 A) (F0 m 7 ls []) := by
  obtain ⟨hx, hb, hr, hml, hown, hts, hlocks⟩ := id hC
  intro n
  induction n with
  | zero =>
    intro  x1 f_size r_tried H locs ls hw
    exact hw.elim
  | succ n ih =>
    intro  x1 f_size r_tried H locs ls hw hP hD hS hl
    refine lv_iload_n hx hb dX0_tryNext_7 rfl (lv_at hl 1 rfl) ?_
    refine lv_if_lt (tgt := 34) hx hb dX0_tryNext_8 (by decide) (fun c_11 => ?_) (fun c_11 => ?_)
    · have hw := hw.1 c_11
      exact tX0_tryNext_34 hC hK hA  x1 f_size r_tried _ _ ls hw (hP.sub [0, 1] rfl) (hD.sub [0, 1] (by decide) rfl) hS (lv_sub hl [0, 1] rfl)
    · have hw := hw.2 c_11
      refine lv_aload_n hx hb dX0_tryNext_11 rfl (lv_at hl 0 rfl) ?_
      refine va_get (D := (dC, dI)) (ci := 0) (v := .ref h_tried) (C := RX0) (T := TX0) (N := 7) hx hb hts gu_X0 hown hK hP 0 rfl rfl 4 (by decide) (hts _ gw_9) (fun _ h9 => h9) rfl dX0_tryNext_12 ?_
      refine lv_iload_n hx hb dX0_tryNext_15 rfl (lv_at hl 1 rfl) ?_
      obtain ⟨h_12, hw⟩ := hw
      refine va_iald hx hb hK hP 1 0 rfl rfl h_12 dX0_tryNext_16 ?_
      refine lv_aload_n hx hb dX0_tryNext_17 rfl (lv_at hl 0 rfl) ?_
      refine va_get (D := (dC, dI)) (ci := 0) (v := .ref h_tried) (C := RX0) (T := TX0) (N := 7) hx hb hts gu_X0 hown hK hP 0 rfl rfl 4 (by decide) (hts _ gw_9) (fun _ h9 => h9) rfl dX0_tryNext_18 ?_
      refine lv_iload_n hx hb dX0_tryNext_21 rfl (lv_at hl 1 rfl) ?_
      refine lv_iconst (v := (1 : Int32)) hx hb dX0_tryNext_22 (by decide) ?_
      refine lv_iadd hx hb dX0_tryNext_23 ?_
      obtain ⟨h_13, hw⟩ := hw
      refine va_iald hx hb hK hP 1 0 rfl rfl h_13 dX0_tryNext_24 ?_
      refine lv_icmp_le (tgt := 34) hx hb dX0_tryNext_25 (by decide) (fun c_14 => ?_) (fun c_14 => ?_)
      · have hw := hw.1 c_14
        exact tX0_tryNext_34 hC hK hA  x1 f_size r_tried _ _ ls hw (hP.sub [0, 1] rfl) (hD.sub [0, 1] (by decide) rfl) hS (lv_sub hl [0, 1] rfl)
      · have hw := hw.2 c_14
        refine lv_iinc (v := (x1 + (-1 : Int32))) (lv' := [(1, .int (x1 + (-1 : Int32))), (0, .ref h)]) hx hb dX0_tryNext_28 hl (k := 1) rfl rfl (by decide) rfl (fun ls hl => ?_)
        refine lv_goto (tgt := 7) hx hb dX0_tryNext_31 (by decide) ?_
        exact ih (x1 + (-1 : Int32)) f_size r_tried _ _ ls hw (hP.sub [0, 1] rfl) (hD.sub [0, 1] (by decide) rfl) hS (lv_sub hl [1, 0] rfl)
set_option maxHeartbeats 4000000 in
set_option maxRecDepth 100000 in
theorem tX0_tryNext_e {p : Program} {l : Launch} {e : Env} {s : State} {m : MethodId} {args : Array Value} {below : List Frame} {meth : Method} {c : Code} {dC : Nat → ClassId} {dI : Nat → Nat → Nat} {cI cZ cO cW : ClassId} {A : Nat → Prop} {h h_from h_takes h_worth h_settled h_tried : Nat} {f_settledSize : Int32} {Q : Int32 → (Nat → Int32) → Prop} (hC : Cx p s m args meth c cX0_tryNext (some .boolean) 5 GW RX0) (hK : va_K (dC, dI) vwCl (tysA cI cZ cO cW) s) (hA : ∀ q : Nat, s.heap.size ≤ q → A q) :
    ∀ (f_size : Int32) (r_tried : Nat → Int32) (H : Heap) (locs : List Loc) (ls : Array Slot), wX0_tryNext Q  f_size r_tried → va_P (dC, dI) vwCl (vX0_tryNext cI cZ h h_from h_takes h_worth h_settled h_tried f_settledSize f_size r_tried) H → va_D A (vX0_tryNext cI cZ h h_from h_takes h_worth h_settled h_tried f_settledSize f_size r_tried) → va_S A s.heap H locs → lv_has ls 5 [(0, .ref h)] → W p l e rmX0_tryNext s m args below meth c H locs 0 0 (MQ below (qX0_tryNext dC dI cI cZ cO cW h h_from h_takes h_worth h_settled h_tried f_settledSize f_size Q A) args s 0 0 A) (F0 m 0 ls []) := by
  obtain ⟨hx, hb, hr, hml, hown, hts, hlocks⟩ := id hC
  intro  f_size r_tried H locs ls hw hP hD hS hl
  refine lv_aload_n hx hb dX0_tryNext_0 rfl (lv_at hl 0 rfl) ?_
  refine va_get (D := (dC, dI)) (ci := 0) (v := .int f_size) (C := RX0) (T := TX0) (N := 7) hx hb hts gu_X0 hown hK hP 0 rfl rfl 5 (by decide) (hts _ gw_10) (fun _ h9 => h9) rfl dX0_tryNext_1 ?_
  refine lv_iconst (v := (2 : Int32)) hx hb dX0_tryNext_4 (by decide) ?_
  refine lv_isub hx hb dX0_tryNext_5 ?_
  refine lv_istore_n (lv' := [(1, .int (f_size - (2 : Int32))), (0, .ref h)]) hx hb dX0_tryNext_6 rfl hl (by decide) rfl (fun ls hl => ?_)
  obtain ⟨n_15, hw⟩ := hw
  exact tX0_tryNext_7 hC hK hA  n_15 (f_size - (2 : Int32)) f_size r_tried _ _ ls hw (hP.sub [0, 1] rfl) (hD.sub [0, 1] (by decide) rfl) hS (lv_sub hl [1, 0] rfl)
set_option maxHeartbeats 4000000 in
set_option maxRecDepth 100000 in
theorem kX0_tryNext (l : Launch) (dC : Nat → ClassId) (dI : Nat → Nat → Nat) (cI cZ cO cW : ClassId) (h h_from h_takes h_worth h_settled h_tried : Nat)  (sz : Nat) (f_settledSize : Int32) (f_size : Int32) (r_tried : Nat → Int32)  (Q : Int32 → (Nat → Int32) → Prop) (hw : wX0_tryNext Q  f_size r_tried) : Met l yX0_tryNext zsX0_tryNext rmX0_tryNext (va_Pc [.ref h] (fun U => U.heap.size = sz ∧ va_P (dC, dI) vwCl (vX0_tryNext cI cZ h h_from h_takes h_worth h_settled h_tried f_settledSize f_size r_tried) U.heap ∧ va_K (dC, dI) vwCl (tysA cI cZ cO cW) U ∧ va_D (fun _ => True) (vX0_tryNext cI cZ h h_from h_takes h_worth h_settled h_tried f_settledSize f_size r_tried))) (qX0_tryNext dC dI cI cZ cO cW h h_from h_takes h_worth h_settled h_tried f_settledSize f_size Q (va_A (vX0_tryNext cI cZ h h_from h_takes h_worth h_settled h_tried f_settledSize f_size r_tried) sz)) 0 0 (va_A (vX0_tryNext cI cZ h h_from h_takes h_worth h_settled h_tried f_settledSize f_size r_tried) sz) := by
  refine Met.ofW (cc := cX0_tryNext) (maxL := 5) (ret := (some .boolean)) (by decide) rfl ?_
  intro p e s m args below meth c s₁ B hml hv
  obtain ⟨rfl, hsz, hP, hK, hD0⟩ := hv
  subst hsz
  have hC : Cx p s m ([.ref h] : List Value).toArray meth c cX0_tryNext (some .boolean) 5 GW RX0 := ⟨B.exec, B.bytes, B.returns, hml, findClass_of_methodNamed B.named, fun w h => atoms_spec (ws := zsX0_tryNext) B.pre w (List.mem_cons_of_mem _ h), B.notSynchronized⟩
  have hD := hD0.self (sz := s.heap.size)
  generalize hAe : va_A (vX0_tryNext cI cZ h h_from h_takes h_worth h_settled h_tried f_settledSize f_size r_tried) s.heap.size = A at hD ⊢
  have hA : ∀ q : Nat, s.heap.size ≤ q → A q := fun q h => by rw [← hAe]; exact Or.inr h
  have hl := lv_entry ([.ref h]) (n := 5) (Nat.le_of_ble_eq_true rfl)
  rw [lg_entry_eq]
  generalize (lg_sl ([.ref h]) ++ List.replicate (5 - (lg_sl ([.ref h])).length) Slot.unset).toArray = ls at hl ⊢
  exact tX0_tryNext_e hC hK hA  f_size r_tried _ _ ls hw hP hD va_S.rf hl

/-! X0_settle -/
def wX0_settle_73 (Q : Int32 → Int32 → (Nat → Int32) → (Nat → Int32) → Prop) (K_35 : Int32 → Int32 → Int32 → Int32 → Int32 → (Nat → Int32) → (Nat → Int32) → (Nat → Int32) → (Nat → Int32) → (Nat → Int32) → Prop)  (x1 : Int32) (x2 : Int32) (x3 : Int32) (f_size : Int32) (f_settledSize : Int32) (r_from : (Nat → Int32)) (r_settled : (Nat → Int32)) (r_takes : (Nat → Int32)) (r_tried : (Nat → Int32)) (r_worth : (Nat → Int32)) : Prop :=
  (K_35 x1 x2 (x3 + (1 : Int32)) f_size f_settledSize r_from r_settled r_takes r_tried r_worth)
def wX0_settle_35 (Q : Int32 → Int32 → (Nat → Int32) → (Nat → Int32) → Prop)   : Nat → Int32 → Int32 → Int32 → Int32 → Int32 → (Nat → Int32) → (Nat → Int32) → (Nat → Int32) → (Nat → Int32) → (Nat → Int32) → Prop
  | 0, _, _, _, _, _, _, _, _, _, _ => False
  | n + 1, x1, x2, x3, f_size, f_settledSize, r_from, r_settled, r_takes, r_tried, r_worth => (((720 : Int32) ≤ x3 → (Q x2 f_settledSize r_settled r_tried)) ∧ (¬ (720 : Int32) ≤ x3 → ((x2 ≤ 0 → (Q x2 f_settledSize r_settled r_tried)) ∧ (¬ x2 ≤ 0 → (wX0_tryNext (fun r_4 r_tried_3 => ((r_4 = 0 → (Q x2 f_settledSize r_settled r_tried_3)) ∧ (¬ r_4 = 0 → (wX0_waiting (fun r_6 => ((x2 ≤ r_6 → (wX0_settle_73 Q (wX0_settle_35 Q n) x1 x2 x3 f_size f_settledSize r_from r_settled r_takes r_tried_3 r_worth)) ∧ (¬ x2 ≤ r_6 → (wX0_keepTried (fun f_settledSize_8 r_settled_9 => (wX0_settle_73 Q (wX0_settle_35 Q n) x1 r_6 x3 f_size f_settledSize_8 r_from r_settled_9 r_takes r_tried_3 r_worth)) f_size f_settledSize r_settled r_tried_3)))) x1 f_size r_from r_takes r_tried_3 r_worth)))) f_size r_tried)))))
def wX0_settle_2 (Q : Int32 → Int32 → (Nat → Int32) → (Nat → Int32) → Prop)   : Nat → Int32 → Int32 → Int32 → Int32 → (Nat → Int32) → (Nat → Int32) → (Nat → Int32) → (Nat → Int32) → (Nat → Int32) → Prop
  | 0, _, _, _, _, _, _, _, _, _ => False
  | n + 1, x1, x2, f_size, f_settledSize, r_from, r_settled, r_takes, r_tried, r_worth => ((f_size ≤ x2 → (wX0_waiting (fun r_11 => (wX0_keepTried (fun f_settledSize_12 r_settled_13 => (∃ j_, wX0_settle_35 Q j_ x1 r_11 (1 : Int32) f_size f_settledSize_12 r_from r_settled_13 r_takes r_tried r_worth)) f_size f_settledSize r_settled r_tried)) x1 f_size r_from r_takes r_tried r_worth)) ∧ (¬ f_size ≤ x2 → (vp_in x2 6 ∧ (wX0_settle_2 Q n x1 (x2 + (1 : Int32)) f_size f_settledSize r_from r_settled r_takes (upd r_tried x2.toNatClampNeg x2) r_worth))))
def wX0_settle (Q : Int32 → Int32 → (Nat → Int32) → (Nat → Int32) → Prop) (x1 : Int32) (f_size : Int32) (f_settledSize : Int32) (r_from : Nat → Int32) (r_settled : Nat → Int32) (r_takes : Nat → Int32) (r_tried : Nat → Int32) (r_worth : Nat → Int32) : Prop :=
  (∃ j_, wX0_settle_2 Q j_ x1 (0 : Int32) f_size f_settledSize r_from r_settled r_takes r_tried r_worth)
abbrev vX0_settle (cI cZ : ClassId) (h h_from h_takes h_worth h_settled h_tried : Nat) (f_size : Int32) (f_settledSize : Int32) (r_from : Nat → Int32) (r_settled : Nat → Int32) (r_takes : Nat → Int32) (r_tried : Nat → Int32) (r_worth : Nat → Int32) : va_W := [(h, .inr (0, [.ref h_from, .ref h_takes, .ref h_worth, .ref h_settled, .ref h_tried, .int f_size, .int f_settledSize])), (h_from, .inl (cI, 6, .inl r_from)), (h_settled, .inl (cI, 6, .inl r_settled)), (h_takes, .inl (cI, 6, .inl r_takes)), (h_tried, .inl (cI, 6, .inl r_tried)), (h_worth, .inl (cI, 6, .inl r_worth))]
abbrev rmX0_settle : Room := { frames := 2, cells := 0, slots := 0, locals := 49 }
abbrev qX0_settle (dC : Nat → ClassId) (dI : Nat → Nat → Nat) (cI cZ cO cW : ClassId) (h h_from h_takes h_worth h_settled h_tried : Nat) (f_size : Int32) (r_from : Nat → Int32) (r_takes : Nat → Int32) (r_worth : Nat → Int32) (Q : Int32 → Int32 → (Nat → Int32) → (Nat → Int32) → Prop) (A : Nat → Prop) : Array Value → State → Outcome → State → Prop := va_Qi (fun (r : Int32) (u : Int32 × (Nat → Int32) × (Nat → Int32)) => Q r u.1 u.2.1 u.2.2) (fun (u : Int32 × (Nat → Int32) × (Nat → Int32)) (t : State) => va_P (dC, dI) vwCl (vX0_settle cI cZ h h_from h_takes h_worth h_settled h_tried f_size u.1 r_from u.2.1 r_takes u.2.2 r_worth) t.heap ∧ va_K (dC, dI) vwCl (tysA cI cZ cO cW) t ∧ va_D A (vX0_settle cI cZ h h_from h_takes h_worth h_settled h_tried f_size u.1 r_from u.2.1 r_takes u.2.2 r_worth)) A
def zsX0_settle : List Cond := Cond.code yX0_settle cX0_settle 5 (some .int) :: GW
set_option maxHeartbeats 4000000 in
set_option maxRecDepth 100000 in
theorem tX0_settle_73 {p : Program} {l : Launch} {e : Env} {s : State} {m : MethodId} {args : Array Value} {below : List Frame} {meth : Method} {c : Code} {dC : Nat → ClassId} {dI : Nat → Nat → Nat} {cI cZ cO cW : ClassId} {A : Nat → Prop} {h h_from h_takes h_worth h_settled h_tried : Nat} {Q : Int32 → Int32 → (Nat → Int32) → (Nat → Int32) → Prop} {K_35 : Int32 → Int32 → Int32 → Int32 → Int32 → (Nat → Int32) → (Nat → Int32) → (Nat → Int32) → (Nat → Int32) → (Nat → Int32) → Prop} (hC : Cx p s m args meth c cX0_settle (some .int) 5 GW RX0) (hK : va_K (dC, dI) vwCl (tysA cI cZ cO cW) s) (hA : ∀ q : Nat, s.heap.size ≤ q → A q) (hk_35 : ∀ (x1 : Int32) (x2 : Int32) (x3 : Int32) (f_size : Int32) (f_settledSize : Int32) (r_from : (Nat → Int32)) (r_settled : (Nat → Int32)) (r_takes : (Nat → Int32)) (r_tried : (Nat → Int32)) (r_worth : (Nat → Int32)) (H : Heap) (locs : List Loc) (ls : Array Slot), K_35 x1 x2 x3 f_size f_settledSize r_from r_settled r_takes r_tried r_worth → va_P (dC, dI) vwCl (vX0_settle cI cZ h h_from h_takes h_worth h_settled h_tried f_size f_settledSize r_from r_settled r_takes r_tried r_worth) H → va_D A (vX0_settle cI cZ h h_from h_takes h_worth h_settled h_tried f_size f_settledSize r_from r_settled r_takes r_tried r_worth) → va_S A s.heap H locs → lv_has ls 5 [(0, .ref h), (1, .int x1), (2, .int x2), (3, .int x3)] → W p l e rmX0_settle s m args below meth c H locs 0 0 (MQ below (qX0_settle dC dI cI cZ cO cW h h_from h_takes h_worth h_settled h_tried f_size r_from r_takes r_worth Q A) args s 0 0 A) (F0 m 35 ls [])) :
    ∀ (x1 : Int32) (x2 : Int32) (x3 : Int32) (f_size : Int32) (f_settledSize : Int32) (r_from : (Nat → Int32)) (r_settled : (Nat → Int32)) (r_takes : (Nat → Int32)) (r_tried : (Nat → Int32)) (r_worth : (Nat → Int32)) (H : Heap) (locs : List Loc) (ls : Array Slot), wX0_settle_73 Q K_35 x1 x2 x3 f_size f_settledSize r_from r_settled r_takes r_tried r_worth → va_P (dC, dI) vwCl (vX0_settle cI cZ h h_from h_takes h_worth h_settled h_tried f_size f_settledSize r_from r_settled r_takes r_tried r_worth) H → va_D A (vX0_settle cI cZ h h_from h_takes h_worth h_settled h_tried f_size f_settledSize r_from r_settled r_takes r_tried r_worth) → va_S A s.heap H locs → lv_has ls 5 [(0, .ref h), (1, .int x1), (2, .int x2), (3, .int x3)] → W p l e rmX0_settle s m args below meth c H locs 0 0 (MQ below (qX0_settle dC dI cI cZ cO cW h h_from h_takes h_worth h_settled h_tried f_size r_from r_takes r_worth Q A) args s 0 0 A) (F0 m 73 ls []) := by
  obtain ⟨hx, hb, hr, hml, hown, hts, hlocks⟩ := id hC
  intro x1 x2 x3 f_size f_settledSize r_from r_settled r_takes r_tried r_worth H locs ls hw hP hD hS hl
  refine lv_iinc (v := (x3 + (1 : Int32))) (lv' := [(3, .int (x3 + (1 : Int32))), (0, .ref h), (1, .int x1), (2, .int x2)]) hx hb dX0_settle_73 hl (k := 3) rfl rfl (by decide) rfl (fun ls hl => ?_)
  refine lv_goto (tgt := 35) hx hb dX0_settle_76 (by decide) ?_
  exact hk_35 x1 x2 (x3 + (1 : Int32)) f_size f_settledSize r_from r_settled r_takes r_tried r_worth _ _ ls hw (hP.sub [0, 1, 2, 3, 4, 5] rfl) (hD.sub [0, 1, 2, 3, 4, 5] (by decide) rfl) hS (lv_sub hl [1, 2, 3, 0] rfl)
set_option maxHeartbeats 4000000 in
set_option maxRecDepth 100000 in
theorem tX0_settle_35 {p : Program} {l : Launch} {e : Env} {s : State} {m : MethodId} {args : Array Value} {below : List Frame} {meth : Method} {c : Code} {dC : Nat → ClassId} {dI : Nat → Nat → Nat} {cI cZ cO cW : ClassId} {A : Nat → Prop} {h h_from h_takes h_worth h_settled h_tried : Nat} {Q : Int32 → Int32 → (Nat → Int32) → (Nat → Int32) → Prop}  (hC : Cx p s m args meth c cX0_settle (some .int) 5 GW RX0) (hK : va_K (dC, dI) vwCl (tysA cI cZ cO cW) s) (hA : ∀ q : Nat, s.heap.size ≤ q → A q) :
    ∀ (n : Nat) (x1 : Int32) (x2 : Int32) (x3 : Int32) (f_size : Int32) (f_settledSize : Int32) (r_from : (Nat → Int32)) (r_settled : (Nat → Int32)) (r_takes : (Nat → Int32)) (r_tried : (Nat → Int32)) (r_worth : (Nat → Int32)) (H : Heap) (locs : List Loc) (ls : Array Slot), wX0_settle_35 Q  n x1 x2 x3 f_size f_settledSize r_from r_settled r_takes r_tried r_worth → va_P (dC, dI) vwCl (vX0_settle cI cZ h h_from h_takes h_worth h_settled h_tried f_size f_settledSize r_from r_settled r_takes r_tried r_worth) H → va_D A (vX0_settle cI cZ h h_from h_takes h_worth h_settled h_tried f_size f_settledSize r_from r_settled r_takes r_tried r_worth) → va_S A s.heap H locs → lv_has ls 5 [(0, .ref h), (1, .int x1), (2, .int x2), (3, .int x3)] → W p l e rmX0_settle s m args below meth c H locs 0 0 (MQ below (qX0_settle dC dI cI cZ cO cW h h_from h_takes h_worth h_settled h_tried f_size r_from r_takes r_worth Q A) args s 0 0 A) (F0 m 35 ls []) := by
  obtain ⟨hx, hb, hr, hml, hown, hts, hlocks⟩ := id hC
  intro n
  induction n with
  | zero =>
    intro  x1 x2 x3 f_size f_settledSize r_from r_settled r_takes r_tried r_worth H locs ls hw
    exact hw.elim
  | succ n ih =>
    intro  x1 x2 x3 f_size f_settledSize r_from r_settled r_takes r_tried r_worth H locs ls hw hP hD hS hl
    refine lv_iload_n hx hb dX0_settle_35 rfl (lv_at hl 3 rfl) ?_
    refine lv_sipush (v := (720 : Int32)) hx hb dX0_settle_36 (by decide) ?_
    refine lv_icmp_ge (tgt := 79) hx hb dX0_settle_39 (by decide) (fun c_1 => ?_) (fun c_1 => ?_)
    · have hw := hw.1 c_1
      refine lv_iload_n hx hb dX0_settle_79 rfl (lv_at hl 2 rfl) ?_
      have hP9 := hP.sub (ws' := (vX0_settle cI cZ h h_from h_takes h_worth h_settled h_tried f_size f_settledSize r_from r_settled r_takes r_tried r_worth)) [0, 1, 2, 3, 4, 5] rfl
      have hD9 := hD.sub (ws' := (vX0_settle cI cZ h h_from h_takes h_worth h_settled h_tried f_size f_settledSize r_from r_settled r_takes r_tried r_worth)) [0, 1, 2, 3, 4, 5] (by decide) rfl
      exact W.iret (v := x2) hx hb hr (fun t ht hW => ⟨⟨x2, (f_settledSize, r_settled, r_tried), rfl, hw, by rw [ht]; exact hP9, va_K.moved hW.alike hK, hD9⟩, hS.F ht⟩) hS.2.2 dX0_settle_80
    · have hw := hw.2 c_1
      refine lv_iload_n hx hb dX0_settle_42 rfl (lv_at hl 2 rfl) ?_
      refine lv_if_le (tgt := 79) hx hb dX0_settle_43 (by decide) (fun c_2 => ?_) (fun c_2 => ?_)
      · have hw := hw.1 c_2
        refine lv_iload_n hx hb dX0_settle_79 rfl (lv_at hl 2 rfl) ?_
        have hP9 := hP.sub (ws' := (vX0_settle cI cZ h h_from h_takes h_worth h_settled h_tried f_size f_settledSize r_from r_settled r_takes r_tried r_worth)) [0, 1, 2, 3, 4, 5] rfl
        have hD9 := hD.sub (ws' := (vX0_settle cI cZ h h_from h_takes h_worth h_settled h_tried f_size f_settledSize r_from r_settled r_takes r_tried r_worth)) [0, 1, 2, 3, 4, 5] (by decide) rfl
        exact W.iret (v := x2) hx hb hr (fun t ht hW => ⟨⟨x2, (f_settledSize, r_settled, r_tried), rfl, hw, by rw [ht]; exact hP9, va_K.moved hW.alike hK, hD9⟩, hS.F ht⟩) hS.2.2 dX0_settle_80
      · have hw := hw.2 c_2
        refine lv_aload_n hx hb dX0_settle_46 rfl (lv_at hl 0 rfl) ?_
        have hPc := hP.sub (ws' := [(h, .inr (0, [.ref h_from, .ref h_takes, .ref h_worth, .ref h_settled, .ref h_tried, .int f_size, .int f_settledSize])), (h_tried, .inl (cI, 6, .inl r_tried))]) [0, 4] rfl
        have hDc := hD.sub (ws' := [(h, .inr (0, [.ref h_from, .ref h_takes, .ref h_worth, .ref h_settled, .ref h_tried, .int f_size, .int f_settledSize])), (h_tried, .inl (cI, 6, .inl r_tried))]) [0, 4] (by decide) rfl
        have hFc := va_free (wc := [(h, .inr (0, [.ref h_from, .ref h_takes, .ref h_worth, .ref h_settled, .ref h_tried, .int f_size, .int f_settledSize])), (h_tried, .inl (cI, 6, .inl r_tried))]) hD hS hA [0, 4] rfl
        refine va_calli (va_runV (As := []) (rest := []) ⟨hx, hb, hml, hown, hts⟩ (kX0_tryNext l dC dI cI cZ cO cW h h_from h_takes h_worth h_settled h_tried H.size f_settledSize f_size r_tried _ hw) (cwV 0 hts (gV gw_36 gw_37 gw_38 gw_29 (gM gw_25)) rfl rfl rfl (by decide +kernel) ⟨Nat.le_of_ble_eq_true rfl, Nat.le_of_ble_eq_true rfl⟩) (pv_of hPc hK hDc (va_recv hK hPc (ci := 0) (q0 := 0) rfl rfl)) rfl rfl hl.1 rfl (lv_room (Nat.le_of_ble_eq_true rfl)) dX0_settle_47 ⟨Nat.zero_le _, Nat.zero_le _⟩) hS (fun q _ h => hFc q h) hFc (fun r_4 u t H locs ht hvm hw hB hz1 hk1 hS => ?_)
        obtain ⟨r_tried_3, rfl⟩ : ∃ z, z = u := ⟨_, rfl⟩
        obtain ⟨hP, hD⟩ := af_join (wr := [(h_from, .inl (cI, 6, .inl r_from)), (h_settled, .inl (cI, 6, .inl r_settled)), (h_takes, .inl (cI, 6, .inl r_takes)), (h_worth, .inl (cI, 6, .inl r_worth))]) (w1 := [(h, .inr (0, [.ref h_from, .ref h_takes, .ref h_worth, .ref h_settled, .ref h_tried, .int f_size, .int f_settledSize])), (h_tried, .inl (cI, 6, .inl r_tried_3))]) hB ht hP hD [0, 4] [1, 2, 3, 5] rfl rfl (by decide) (by decide) hk1 hFc
        have hP : va_P (dC, dI) vwCl [(h_from, .inl (cI, 6, .inl r_from)), (h_settled, .inl (cI, 6, .inl r_settled)), (h_takes, .inl (cI, 6, .inl r_takes)), (h_worth, .inl (cI, 6, .inl r_worth)), (h, .inr (0, [.ref h_from, .ref h_takes, .ref h_worth, .ref h_settled, .ref h_tried, .int f_size, .int f_settledSize])), (h_tried, .inl (cI, 6, .inl r_tried_3))] _ := hP
        have hD : va_D A [(h_from, .inl (cI, 6, .inl r_from)), (h_settled, .inl (cI, 6, .inl r_settled)), (h_takes, .inl (cI, 6, .inl r_takes)), (h_worth, .inl (cI, 6, .inl r_worth)), (h, .inr (0, [.ref h_from, .ref h_takes, .ref h_worth, .ref h_settled, .ref h_tried, .int f_size, .int f_settledSize])), (h_tried, .inl (cI, 6, .inl r_tried_3))] := hD
        refine lv_if_eq (tgt := 79) hx hb dX0_settle_50 (by decide) (fun c_5 => ?_) (fun c_5 => ?_)
        · have hw := hw.1 c_5
          refine lv_iload_n hx hb dX0_settle_79 rfl (lv_at hl 2 rfl) ?_
          have hP9 := hP.sub (ws' := (vX0_settle cI cZ h h_from h_takes h_worth h_settled h_tried f_size f_settledSize r_from r_settled r_takes r_tried_3 r_worth)) [4, 0, 1, 2, 5, 3] rfl
          have hD9 := hD.sub (ws' := (vX0_settle cI cZ h h_from h_takes h_worth h_settled h_tried f_size f_settledSize r_from r_settled r_takes r_tried_3 r_worth)) [4, 0, 1, 2, 5, 3] (by decide) rfl
          exact W.iret (v := x2) hx hb hr (fun t ht hW => ⟨⟨x2, (f_settledSize, r_settled, r_tried_3), rfl, hw, by rw [ht]; exact hP9, va_K.moved hW.alike hK, hD9⟩, hS.F ht⟩) hS.2.2 dX0_settle_80
        · have hw := hw.2 c_5
          refine lv_aload_n hx hb dX0_settle_53 rfl (lv_at hl 0 rfl) ?_
          refine lv_iload_n hx hb dX0_settle_54 rfl (lv_at hl 1 rfl) ?_
          have hPc := hP.sub (ws' := [(h, .inr (0, [.ref h_from, .ref h_takes, .ref h_worth, .ref h_settled, .ref h_tried, .int f_size, .int f_settledSize])), (h_from, .inl (cI, 6, .inl r_from)), (h_takes, .inl (cI, 6, .inl r_takes)), (h_tried, .inl (cI, 6, .inl r_tried_3)), (h_worth, .inl (cI, 6, .inl r_worth))]) [4, 0, 2, 5, 3] rfl
          have hDc := hD.sub (ws' := [(h, .inr (0, [.ref h_from, .ref h_takes, .ref h_worth, .ref h_settled, .ref h_tried, .int f_size, .int f_settledSize])), (h_from, .inl (cI, 6, .inl r_from)), (h_takes, .inl (cI, 6, .inl r_takes)), (h_tried, .inl (cI, 6, .inl r_tried_3)), (h_worth, .inl (cI, 6, .inl r_worth))]) [4, 0, 2, 5, 3] (by decide) rfl
          have hFc := va_free (wc := [(h, .inr (0, [.ref h_from, .ref h_takes, .ref h_worth, .ref h_settled, .ref h_tried, .int f_size, .int f_settledSize])), (h_from, .inl (cI, 6, .inl r_from)), (h_takes, .inl (cI, 6, .inl r_takes)), (h_tried, .inl (cI, 6, .inl r_tried_3)), (h_worth, .inl (cI, 6, .inl r_worth))]) hD hS hA [4, 0, 2, 5, 3] rfl
          refine va_calli (va_runV (As := [.int x1]) (rest := []) ⟨hx, hb, hml, hown, hts⟩ (kX0_waiting l dC dI cI cZ cO cW h h_from h_takes h_worth h_settled h_tried H.size f_settledSize f_size r_from r_takes r_tried_3 r_worth x1 _ hw) (cwV 1 hts (gV gw_30 gw_31 gw_32 gw_29 (gM gw_18)) rfl rfl rfl (by decide +kernel) ⟨Nat.le_of_ble_eq_true rfl, Nat.le_of_ble_eq_true rfl⟩) (pv_of hPc hK hDc (va_recv hK hPc (ci := 0) (q0 := 0) rfl rfl)) rfl rfl hl.1 rfl (lv_room (Nat.le_of_ble_eq_true rfl)) dX0_settle_55 ⟨Nat.zero_le _, Nat.zero_le _⟩) hS (fun q _ h => hFc q h) hFc (fun r_6 u t H locs ht hvm hw hB hz1 hk1 hS => ?_)
          obtain ⟨hP, hD⟩ := af_join (wr := [(h_settled, .inl (cI, 6, .inl r_settled))]) (w1 := [(h, .inr (0, [.ref h_from, .ref h_takes, .ref h_worth, .ref h_settled, .ref h_tried, .int f_size, .int f_settledSize])), (h_from, .inl (cI, 6, .inl r_from)), (h_takes, .inl (cI, 6, .inl r_takes)), (h_tried, .inl (cI, 6, .inl r_tried_3)), (h_worth, .inl (cI, 6, .inl r_worth))]) hB ht hP hD [4, 0, 2, 5, 3] [1] rfl rfl (by decide) (by decide) hk1 hFc
          have hP : va_P (dC, dI) vwCl [(h_settled, .inl (cI, 6, .inl r_settled)), (h, .inr (0, [.ref h_from, .ref h_takes, .ref h_worth, .ref h_settled, .ref h_tried, .int f_size, .int f_settledSize])), (h_from, .inl (cI, 6, .inl r_from)), (h_takes, .inl (cI, 6, .inl r_takes)), (h_tried, .inl (cI, 6, .inl r_tried_3)), (h_worth, .inl (cI, 6, .inl r_worth))] _ := hP
          have hD : va_D A [(h_settled, .inl (cI, 6, .inl r_settled)), (h, .inr (0, [.ref h_from, .ref h_takes, .ref h_worth, .ref h_settled, .ref h_tried, .int f_size, .int f_settledSize])), (h_from, .inl (cI, 6, .inl r_from)), (h_takes, .inl (cI, 6, .inl r_takes)), (h_tried, .inl (cI, 6, .inl r_tried_3)), (h_worth, .inl (cI, 6, .inl r_worth))] := hD
          refine lv_istore (lv' := [(4, .int r_6), (0, .ref h), (1, .int x1), (2, .int x2), (3, .int x3)]) hx hb dX0_settle_58 hl (by decide) rfl (fun ls hl => ?_)
          refine lv_iload hx hb dX0_settle_60 (lv_at hl 0 rfl) ?_
          refine lv_iload_n hx hb dX0_settle_62 rfl (lv_at hl 3 rfl) ?_
          refine lv_icmp_ge (tgt := 73) hx hb dX0_settle_63 (by decide) (fun c_7 => ?_) (fun c_7 => ?_)
          · have hw := hw.1 c_7
            exact tX0_settle_73 hC hK hA ih x1 x2 x3 f_size f_settledSize r_from r_settled r_takes r_tried_3 r_worth _ _ ls hw (hP.sub [1, 2, 0, 3, 4, 5] rfl) (hD.sub [1, 2, 0, 3, 4, 5] (by decide) rfl) hS (lv_sub hl [1, 2, 3, 4] rfl)
          · have hw := hw.2 c_7
            refine lv_iload hx hb dX0_settle_66 (lv_at hl 0 rfl) ?_
            refine lv_istore_n (lv' := [(2, .int r_6), (4, .int r_6), (0, .ref h), (1, .int x1), (3, .int x3)]) hx hb dX0_settle_68 rfl hl (by decide) rfl (fun ls hl => ?_)
            refine lv_aload_n hx hb dX0_settle_69 rfl (lv_at hl 2 rfl) ?_
            have hPc := hP.sub (ws' := [(h, .inr (0, [.ref h_from, .ref h_takes, .ref h_worth, .ref h_settled, .ref h_tried, .int f_size, .int f_settledSize])), (h_settled, .inl (cI, 6, .inl r_settled)), (h_tried, .inl (cI, 6, .inl r_tried_3))]) [1, 0, 4] rfl
            have hDc := hD.sub (ws' := [(h, .inr (0, [.ref h_from, .ref h_takes, .ref h_worth, .ref h_settled, .ref h_tried, .int f_size, .int f_settledSize])), (h_settled, .inl (cI, 6, .inl r_settled)), (h_tried, .inl (cI, 6, .inl r_tried_3))]) [1, 0, 4] (by decide) rfl
            have hFc := va_free (wc := [(h, .inr (0, [.ref h_from, .ref h_takes, .ref h_worth, .ref h_settled, .ref h_tried, .int f_size, .int f_settledSize])), (h_settled, .inl (cI, 6, .inl r_settled)), (h_tried, .inl (cI, 6, .inl r_tried_3))]) hD hS hA [1, 0, 4] rfl
            refine va_callv (va_runV (As := []) (rest := []) ⟨hx, hb, hml, hown, hts⟩ (kX0_keepTried l dC dI cI cZ cO cW h h_from h_takes h_worth h_settled h_tried H.size f_size f_settledSize r_settled r_tried_3 _ hw) (cwV 0 hts (gV gw_33 gw_34 gw_35 gw_29 (gM gw_23)) rfl rfl rfl (by decide +kernel) ⟨Nat.le_of_ble_eq_true rfl, Nat.le_of_ble_eq_true rfl⟩) (pv_of hPc hK hDc (va_recv hK hPc (ci := 0) (q0 := 0) rfl rfl)) rfl rfl hl.1 rfl (lv_room (Nat.le_of_ble_eq_true rfl)) dX0_settle_70 ⟨Nat.zero_le _, Nat.zero_le _⟩) hS (fun q _ h => hFc q h) hFc (fun u t H locs ht hvm hw hB hz1 hk1 hS => ?_)
            obtain ⟨f_settledSize_8, r_settled_9⟩ := u
            obtain ⟨hP, hD⟩ := af_join (wr := [(h_from, .inl (cI, 6, .inl r_from)), (h_takes, .inl (cI, 6, .inl r_takes)), (h_worth, .inl (cI, 6, .inl r_worth))]) (w1 := [(h, .inr (0, [.ref h_from, .ref h_takes, .ref h_worth, .ref h_settled, .ref h_tried, .int f_size, .int f_settledSize_8])), (h_settled, .inl (cI, 6, .inl r_settled_9)), (h_tried, .inl (cI, 6, .inl r_tried_3))]) hB ht hP hD [1, 0, 4] [2, 3, 5] rfl rfl (by decide) (by decide) hk1 hFc
            have hP : va_P (dC, dI) vwCl [(h_from, .inl (cI, 6, .inl r_from)), (h_takes, .inl (cI, 6, .inl r_takes)), (h_worth, .inl (cI, 6, .inl r_worth)), (h, .inr (0, [.ref h_from, .ref h_takes, .ref h_worth, .ref h_settled, .ref h_tried, .int f_size, .int f_settledSize_8])), (h_settled, .inl (cI, 6, .inl r_settled_9)), (h_tried, .inl (cI, 6, .inl r_tried_3))] _ := hP
            have hD : va_D A [(h_from, .inl (cI, 6, .inl r_from)), (h_takes, .inl (cI, 6, .inl r_takes)), (h_worth, .inl (cI, 6, .inl r_worth)), (h, .inr (0, [.ref h_from, .ref h_takes, .ref h_worth, .ref h_settled, .ref h_tried, .int f_size, .int f_settledSize_8])), (h_settled, .inl (cI, 6, .inl r_settled_9)), (h_tried, .inl (cI, 6, .inl r_tried_3))] := hD
            exact tX0_settle_73 hC hK hA ih x1 r_6 x3 f_size f_settledSize_8 r_from r_settled_9 r_takes r_tried_3 r_worth _ _ ls hw (hP.sub [3, 0, 4, 1, 5, 2] rfl) (hD.sub [3, 0, 4, 1, 5, 2] (by decide) rfl) hS (lv_sub hl [2, 3, 0, 4] rfl)
set_option maxHeartbeats 4000000 in
set_option maxRecDepth 100000 in
theorem tX0_settle_2 {p : Program} {l : Launch} {e : Env} {s : State} {m : MethodId} {args : Array Value} {below : List Frame} {meth : Method} {c : Code} {dC : Nat → ClassId} {dI : Nat → Nat → Nat} {cI cZ cO cW : ClassId} {A : Nat → Prop} {h h_from h_takes h_worth h_settled h_tried : Nat} {Q : Int32 → Int32 → (Nat → Int32) → (Nat → Int32) → Prop}  (hC : Cx p s m args meth c cX0_settle (some .int) 5 GW RX0) (hK : va_K (dC, dI) vwCl (tysA cI cZ cO cW) s) (hA : ∀ q : Nat, s.heap.size ≤ q → A q) :
    ∀ (n : Nat) (x1 : Int32) (x2 : Int32) (f_size : Int32) (f_settledSize : Int32) (r_from : (Nat → Int32)) (r_settled : (Nat → Int32)) (r_takes : (Nat → Int32)) (r_tried : (Nat → Int32)) (r_worth : (Nat → Int32)) (H : Heap) (locs : List Loc) (ls : Array Slot), wX0_settle_2 Q  n x1 x2 f_size f_settledSize r_from r_settled r_takes r_tried r_worth → va_P (dC, dI) vwCl (vX0_settle cI cZ h h_from h_takes h_worth h_settled h_tried f_size f_settledSize r_from r_settled r_takes r_tried r_worth) H → va_D A (vX0_settle cI cZ h h_from h_takes h_worth h_settled h_tried f_size f_settledSize r_from r_settled r_takes r_tried r_worth) → va_S A s.heap H locs → lv_has ls 5 [(0, .ref h), (1, .int x1), (2, .int x2)] → W p l e rmX0_settle s m args below meth c H locs 0 0 (MQ below (qX0_settle dC dI cI cZ cO cW h h_from h_takes h_worth h_settled h_tried f_size r_from r_takes r_worth Q A) args s 0 0 A) (F0 m 2 ls []) := by
  obtain ⟨hx, hb, hr, hml, hown, hts, hlocks⟩ := id hC
  intro n
  induction n with
  | zero =>
    intro  x1 x2 f_size f_settledSize r_from r_settled r_takes r_tried r_worth H locs ls hw
    exact hw.elim
  | succ n ih =>
    intro  x1 x2 f_size f_settledSize r_from r_settled r_takes r_tried r_worth H locs ls hw hP hD hS hl
    refine lv_iload_n hx hb dX0_settle_2 rfl (lv_at hl 2 rfl) ?_
    refine lv_aload_n hx hb dX0_settle_3 rfl (lv_at hl 0 rfl) ?_
    refine va_get (D := (dC, dI)) (ci := 0) (v := .int f_size) (C := RX0) (T := TX0) (N := 7) hx hb hts gu_X0 hown hK hP 0 rfl rfl 5 (by decide) (hts _ gw_10) (fun _ h9 => h9) rfl dX0_settle_4 ?_
    refine lv_icmp_ge (tgt := 23) hx hb dX0_settle_7 (by decide) (fun c_10 => ?_) (fun c_10 => ?_)
    · have hw := hw.1 c_10
      refine lv_aload_n hx hb dX0_settle_23 rfl (lv_at hl 0 rfl) ?_
      refine lv_iload_n hx hb dX0_settle_24 rfl (lv_at hl 1 rfl) ?_
      have hPc := hP.sub (ws' := [(h, .inr (0, [.ref h_from, .ref h_takes, .ref h_worth, .ref h_settled, .ref h_tried, .int f_size, .int f_settledSize])), (h_from, .inl (cI, 6, .inl r_from)), (h_takes, .inl (cI, 6, .inl r_takes)), (h_tried, .inl (cI, 6, .inl r_tried)), (h_worth, .inl (cI, 6, .inl r_worth))]) [0, 1, 3, 4, 5] rfl
      have hDc := hD.sub (ws' := [(h, .inr (0, [.ref h_from, .ref h_takes, .ref h_worth, .ref h_settled, .ref h_tried, .int f_size, .int f_settledSize])), (h_from, .inl (cI, 6, .inl r_from)), (h_takes, .inl (cI, 6, .inl r_takes)), (h_tried, .inl (cI, 6, .inl r_tried)), (h_worth, .inl (cI, 6, .inl r_worth))]) [0, 1, 3, 4, 5] (by decide) rfl
      have hFc := va_free (wc := [(h, .inr (0, [.ref h_from, .ref h_takes, .ref h_worth, .ref h_settled, .ref h_tried, .int f_size, .int f_settledSize])), (h_from, .inl (cI, 6, .inl r_from)), (h_takes, .inl (cI, 6, .inl r_takes)), (h_tried, .inl (cI, 6, .inl r_tried)), (h_worth, .inl (cI, 6, .inl r_worth))]) hD hS hA [0, 1, 3, 4, 5] rfl
      refine va_calli (va_runV (As := [.int x1]) (rest := []) ⟨hx, hb, hml, hown, hts⟩ (kX0_waiting l dC dI cI cZ cO cW h h_from h_takes h_worth h_settled h_tried H.size f_settledSize f_size r_from r_takes r_tried r_worth x1 _ hw) (cwV 1 hts (gV gw_30 gw_31 gw_32 gw_29 (gM gw_18)) rfl rfl rfl (by decide +kernel) ⟨Nat.le_of_ble_eq_true rfl, Nat.le_of_ble_eq_true rfl⟩) (pv_of hPc hK hDc (va_recv hK hPc (ci := 0) (q0 := 0) rfl rfl)) rfl rfl hl.1 rfl (lv_room (Nat.le_of_ble_eq_true rfl)) dX0_settle_25 ⟨Nat.zero_le _, Nat.zero_le _⟩) hS (fun q _ h => hFc q h) hFc (fun r_11 u t H locs ht hvm hw hB hz1 hk1 hS => ?_)
      obtain ⟨hP, hD⟩ := af_join (wr := [(h_settled, .inl (cI, 6, .inl r_settled))]) (w1 := [(h, .inr (0, [.ref h_from, .ref h_takes, .ref h_worth, .ref h_settled, .ref h_tried, .int f_size, .int f_settledSize])), (h_from, .inl (cI, 6, .inl r_from)), (h_takes, .inl (cI, 6, .inl r_takes)), (h_tried, .inl (cI, 6, .inl r_tried)), (h_worth, .inl (cI, 6, .inl r_worth))]) hB ht hP hD [0, 1, 3, 4, 5] [2] rfl rfl (by decide) (by decide) hk1 hFc
      have hP : va_P (dC, dI) vwCl [(h_settled, .inl (cI, 6, .inl r_settled)), (h, .inr (0, [.ref h_from, .ref h_takes, .ref h_worth, .ref h_settled, .ref h_tried, .int f_size, .int f_settledSize])), (h_from, .inl (cI, 6, .inl r_from)), (h_takes, .inl (cI, 6, .inl r_takes)), (h_tried, .inl (cI, 6, .inl r_tried)), (h_worth, .inl (cI, 6, .inl r_worth))] _ := hP
      have hD : va_D A [(h_settled, .inl (cI, 6, .inl r_settled)), (h, .inr (0, [.ref h_from, .ref h_takes, .ref h_worth, .ref h_settled, .ref h_tried, .int f_size, .int f_settledSize])), (h_from, .inl (cI, 6, .inl r_from)), (h_takes, .inl (cI, 6, .inl r_takes)), (h_tried, .inl (cI, 6, .inl r_tried)), (h_worth, .inl (cI, 6, .inl r_worth))] := hD
      refine lv_istore_n (lv' := [(2, .int r_11), (0, .ref h), (1, .int x1)]) hx hb dX0_settle_28 rfl hl (by decide) rfl (fun ls hl => ?_)
      refine lv_aload_n hx hb dX0_settle_29 rfl (lv_at hl 1 rfl) ?_
      have hPc := hP.sub (ws' := [(h, .inr (0, [.ref h_from, .ref h_takes, .ref h_worth, .ref h_settled, .ref h_tried, .int f_size, .int f_settledSize])), (h_settled, .inl (cI, 6, .inl r_settled)), (h_tried, .inl (cI, 6, .inl r_tried))]) [1, 0, 4] rfl
      have hDc := hD.sub (ws' := [(h, .inr (0, [.ref h_from, .ref h_takes, .ref h_worth, .ref h_settled, .ref h_tried, .int f_size, .int f_settledSize])), (h_settled, .inl (cI, 6, .inl r_settled)), (h_tried, .inl (cI, 6, .inl r_tried))]) [1, 0, 4] (by decide) rfl
      have hFc := va_free (wc := [(h, .inr (0, [.ref h_from, .ref h_takes, .ref h_worth, .ref h_settled, .ref h_tried, .int f_size, .int f_settledSize])), (h_settled, .inl (cI, 6, .inl r_settled)), (h_tried, .inl (cI, 6, .inl r_tried))]) hD hS hA [1, 0, 4] rfl
      refine va_callv (va_runV (As := []) (rest := []) ⟨hx, hb, hml, hown, hts⟩ (kX0_keepTried l dC dI cI cZ cO cW h h_from h_takes h_worth h_settled h_tried H.size f_size f_settledSize r_settled r_tried _ hw) (cwV 0 hts (gV gw_33 gw_34 gw_35 gw_29 (gM gw_23)) rfl rfl rfl (by decide +kernel) ⟨Nat.le_of_ble_eq_true rfl, Nat.le_of_ble_eq_true rfl⟩) (pv_of hPc hK hDc (va_recv hK hPc (ci := 0) (q0 := 0) rfl rfl)) rfl rfl hl.1 rfl (lv_room (Nat.le_of_ble_eq_true rfl)) dX0_settle_30 ⟨Nat.zero_le _, Nat.zero_le _⟩) hS (fun q _ h => hFc q h) hFc (fun u t H locs ht hvm hw hB hz1 hk1 hS => ?_)
      obtain ⟨f_settledSize_12, r_settled_13⟩ := u
      obtain ⟨hP, hD⟩ := af_join (wr := [(h_from, .inl (cI, 6, .inl r_from)), (h_takes, .inl (cI, 6, .inl r_takes)), (h_worth, .inl (cI, 6, .inl r_worth))]) (w1 := [(h, .inr (0, [.ref h_from, .ref h_takes, .ref h_worth, .ref h_settled, .ref h_tried, .int f_size, .int f_settledSize_12])), (h_settled, .inl (cI, 6, .inl r_settled_13)), (h_tried, .inl (cI, 6, .inl r_tried))]) hB ht hP hD [1, 0, 4] [2, 3, 5] rfl rfl (by decide) (by decide) hk1 hFc
      have hP : va_P (dC, dI) vwCl [(h_from, .inl (cI, 6, .inl r_from)), (h_takes, .inl (cI, 6, .inl r_takes)), (h_worth, .inl (cI, 6, .inl r_worth)), (h, .inr (0, [.ref h_from, .ref h_takes, .ref h_worth, .ref h_settled, .ref h_tried, .int f_size, .int f_settledSize_12])), (h_settled, .inl (cI, 6, .inl r_settled_13)), (h_tried, .inl (cI, 6, .inl r_tried))] _ := hP
      have hD : va_D A [(h_from, .inl (cI, 6, .inl r_from)), (h_takes, .inl (cI, 6, .inl r_takes)), (h_worth, .inl (cI, 6, .inl r_worth)), (h, .inr (0, [.ref h_from, .ref h_takes, .ref h_worth, .ref h_settled, .ref h_tried, .int f_size, .int f_settledSize_12])), (h_settled, .inl (cI, 6, .inl r_settled_13)), (h_tried, .inl (cI, 6, .inl r_tried))] := hD
      refine lv_iconst (v := (1 : Int32)) hx hb dX0_settle_33 (by decide) ?_
      refine lv_istore_n (lv' := [(3, .int (1 : Int32)), (2, .int r_11), (0, .ref h), (1, .int x1)]) hx hb dX0_settle_34 rfl hl (by decide) rfl (fun ls hl => ?_)
      obtain ⟨n_14, hw⟩ := hw
      exact tX0_settle_35 hC hK hA  n_14 x1 r_11 (1 : Int32) f_size f_settledSize_12 r_from r_settled_13 r_takes r_tried r_worth _ _ ls hw (hP.sub [3, 0, 4, 1, 5, 2] rfl) (hD.sub [3, 0, 4, 1, 5, 2] (by decide) rfl) hS (lv_sub hl [2, 3, 1, 0] rfl)
    · have hw := hw.2 c_10
      refine lv_aload_n hx hb dX0_settle_10 rfl (lv_at hl 0 rfl) ?_
      refine va_get (D := (dC, dI)) (ci := 0) (v := .ref h_tried) (C := RX0) (T := TX0) (N := 7) hx hb hts gu_X0 hown hK hP 0 rfl rfl 4 (by decide) (hts _ gw_9) (fun _ h9 => h9) rfl dX0_settle_11 ?_
      refine lv_iload_n hx hb dX0_settle_14 rfl (lv_at hl 2 rfl) ?_
      refine lv_iload_n hx hb dX0_settle_15 rfl (lv_at hl 2 rfl) ?_
      obtain ⟨h_15, hw⟩ := hw
      refine va_iast hx hb hK hP hD hS 4 0 rfl rfl h_15 dX0_settle_16 (fun H locs hP hD hS => ?_)
      have hP : va_P (dC, dI) vwCl [(h, .inr (0, [.ref h_from, .ref h_takes, .ref h_worth, .ref h_settled, .ref h_tried, .int f_size, .int f_settledSize])), (h_from, .inl (cI, 6, .inl r_from)), (h_settled, .inl (cI, 6, .inl r_settled)), (h_takes, .inl (cI, 6, .inl r_takes)), (h_tried, .inl (cI, 6, .inl (upd r_tried x2.toNatClampNeg x2))), (h_worth, .inl (cI, 6, .inl r_worth))] _ := hP
      have hD : va_D A [(h, .inr (0, [.ref h_from, .ref h_takes, .ref h_worth, .ref h_settled, .ref h_tried, .int f_size, .int f_settledSize])), (h_from, .inl (cI, 6, .inl r_from)), (h_settled, .inl (cI, 6, .inl r_settled)), (h_takes, .inl (cI, 6, .inl r_takes)), (h_tried, .inl (cI, 6, .inl (upd r_tried x2.toNatClampNeg x2))), (h_worth, .inl (cI, 6, .inl r_worth))] := hD
      refine lv_iinc (v := (x2 + (1 : Int32))) (lv' := [(2, .int (x2 + (1 : Int32))), (0, .ref h), (1, .int x1)]) hx hb dX0_settle_17 hl (k := 2) rfl rfl (by decide) rfl (fun ls hl => ?_)
      refine lv_goto (tgt := 2) hx hb dX0_settle_20 (by decide) ?_
      exact ih x1 (x2 + (1 : Int32)) f_size f_settledSize r_from r_settled r_takes (upd r_tried x2.toNatClampNeg x2) r_worth _ _ ls hw (hP.sub [0, 1, 2, 3, 4, 5] rfl) (hD.sub [0, 1, 2, 3, 4, 5] (by decide) rfl) hS (lv_sub hl [1, 2, 0] rfl)
set_option maxHeartbeats 4000000 in
set_option maxRecDepth 100000 in
theorem tX0_settle_e {p : Program} {l : Launch} {e : Env} {s : State} {m : MethodId} {args : Array Value} {below : List Frame} {meth : Method} {c : Code} {dC : Nat → ClassId} {dI : Nat → Nat → Nat} {cI cZ cO cW : ClassId} {A : Nat → Prop} {h h_from h_takes h_worth h_settled h_tried : Nat} {Q : Int32 → Int32 → (Nat → Int32) → (Nat → Int32) → Prop} (hC : Cx p s m args meth c cX0_settle (some .int) 5 GW RX0) (hK : va_K (dC, dI) vwCl (tysA cI cZ cO cW) s) (hA : ∀ q : Nat, s.heap.size ≤ q → A q) :
    ∀ (x1 : Int32) (f_size : Int32) (f_settledSize : Int32) (r_from : Nat → Int32) (r_settled : Nat → Int32) (r_takes : Nat → Int32) (r_tried : Nat → Int32) (r_worth : Nat → Int32) (H : Heap) (locs : List Loc) (ls : Array Slot), wX0_settle Q x1 f_size f_settledSize r_from r_settled r_takes r_tried r_worth → va_P (dC, dI) vwCl (vX0_settle cI cZ h h_from h_takes h_worth h_settled h_tried f_size f_settledSize r_from r_settled r_takes r_tried r_worth) H → va_D A (vX0_settle cI cZ h h_from h_takes h_worth h_settled h_tried f_size f_settledSize r_from r_settled r_takes r_tried r_worth) → va_S A s.heap H locs → lv_has ls 5 [(0, .ref h), (1, .int x1)] → W p l e rmX0_settle s m args below meth c H locs 0 0 (MQ below (qX0_settle dC dI cI cZ cO cW h h_from h_takes h_worth h_settled h_tried f_size r_from r_takes r_worth Q A) args s 0 0 A) (F0 m 0 ls []) := by
  obtain ⟨hx, hb, hr, hml, hown, hts, hlocks⟩ := id hC
  intro x1 f_size f_settledSize r_from r_settled r_takes r_tried r_worth H locs ls hw hP hD hS hl
  refine lv_iconst (v := (0 : Int32)) hx hb dX0_settle_0 (by decide) ?_
  refine lv_istore_n (lv' := [(2, .int (0 : Int32)), (0, .ref h), (1, .int x1)]) hx hb dX0_settle_1 rfl hl (by decide) rfl (fun ls hl => ?_)
  obtain ⟨n_16, hw⟩ := hw
  exact tX0_settle_2 hC hK hA  n_16 x1 (0 : Int32) f_size f_settledSize r_from r_settled r_takes r_tried r_worth _ _ ls hw (hP.sub [0, 1, 2, 3, 4, 5] rfl) (hD.sub [0, 1, 2, 3, 4, 5] (by decide) rfl) hS (lv_sub hl [1, 2, 0] rfl)
set_option maxHeartbeats 4000000 in
set_option maxRecDepth 100000 in
theorem kX0_settle (l : Launch) (dC : Nat → ClassId) (dI : Nat → Nat → Nat) (cI cZ cO cW : ClassId) (h h_from h_takes h_worth h_settled h_tried : Nat)  (sz : Nat) (f_size : Int32) (f_settledSize : Int32) (r_from : Nat → Int32) (r_settled : Nat → Int32) (r_takes : Nat → Int32) (r_tried : Nat → Int32) (r_worth : Nat → Int32) (x1 : Int32) (Q : Int32 → Int32 → (Nat → Int32) → (Nat → Int32) → Prop) (hw : wX0_settle Q x1 f_size f_settledSize r_from r_settled r_takes r_tried r_worth) : Met l yX0_settle zsX0_settle rmX0_settle (va_Pc [.ref h, .int x1] (fun U => U.heap.size = sz ∧ va_P (dC, dI) vwCl (vX0_settle cI cZ h h_from h_takes h_worth h_settled h_tried f_size f_settledSize r_from r_settled r_takes r_tried r_worth) U.heap ∧ va_K (dC, dI) vwCl (tysA cI cZ cO cW) U ∧ va_D (fun _ => True) (vX0_settle cI cZ h h_from h_takes h_worth h_settled h_tried f_size f_settledSize r_from r_settled r_takes r_tried r_worth))) (qX0_settle dC dI cI cZ cO cW h h_from h_takes h_worth h_settled h_tried f_size r_from r_takes r_worth Q (va_A (vX0_settle cI cZ h h_from h_takes h_worth h_settled h_tried f_size f_settledSize r_from r_settled r_takes r_tried r_worth) sz)) 0 0 (va_A (vX0_settle cI cZ h h_from h_takes h_worth h_settled h_tried f_size f_settledSize r_from r_settled r_takes r_tried r_worth) sz) := by
  refine Met.ofW (cc := cX0_settle) (maxL := 5) (ret := (some .int)) (by decide) rfl ?_
  intro p e s m args below meth c s₁ B hml hv
  obtain ⟨rfl, hsz, hP, hK, hD0⟩ := hv
  subst hsz
  have hC : Cx p s m ([.ref h, .int x1] : List Value).toArray meth c cX0_settle (some .int) 5 GW RX0 := ⟨B.exec, B.bytes, B.returns, hml, findClass_of_methodNamed B.named, fun w h => atoms_spec (ws := zsX0_settle) B.pre w (List.mem_cons_of_mem _ h), B.notSynchronized⟩
  have hD := hD0.self (sz := s.heap.size)
  generalize hAe : va_A (vX0_settle cI cZ h h_from h_takes h_worth h_settled h_tried f_size f_settledSize r_from r_settled r_takes r_tried r_worth) s.heap.size = A at hD ⊢
  have hA : ∀ q : Nat, s.heap.size ≤ q → A q := fun q h => by rw [← hAe]; exact Or.inr h
  have hl := lv_entry ([.ref h, .int x1]) (n := 5) (Nat.le_of_ble_eq_true rfl)
  rw [lg_entry_eq]
  generalize (lg_sl ([.ref h, .int x1]) ++ List.replicate (5 - (lg_sl ([.ref h, .int x1])).length) Slot.unset).toArray = ls at hl ⊢
  exact tX0_settle_e hC hK hA x1 f_size f_settledSize r_from r_settled r_takes r_tried r_worth _ _ ls hw hP hD va_S.rf hl

/-! X0_copy -/
def wX0_copy (Q : Int32 → Int32 → (Nat → Int32) → (Nat → Int32) → (Nat → Int32) → (Nat → Int32) → Prop)  (f_p1_size : Int32) (f_p1_settledSize : Int32) (f_size : Int32) (f_settledSize : Int32) (r_p1_from : Nat → Int32) (r_p1_settled : Nat → Int32) (r_p1_takes : Nat → Int32) (r_p1_worth : Nat → Int32) (r_from : Nat → Int32) (r_settled : Nat → Int32) (r_takes : Nat → Int32) (r_worth : Nat → Int32) : Prop :=
  (Q f_p1_size f_p1_settledSize (va_cpy r_p1_from r_from (0 : Int32).toNatClampNeg (0 : Int32).toNatClampNeg (6 : Int32).toNatClampNeg) (va_cpy r_p1_settled r_settled (0 : Int32).toNatClampNeg (0 : Int32).toNatClampNeg (6 : Int32).toNatClampNeg) (va_cpy r_p1_takes r_takes (0 : Int32).toNatClampNeg (0 : Int32).toNatClampNeg (6 : Int32).toNatClampNeg) (va_cpy r_p1_worth r_worth (0 : Int32).toNatClampNeg (0 : Int32).toNatClampNeg (6 : Int32).toNatClampNeg))
abbrev vX0_copy (cI cZ : ClassId) (h_p1 h_p1_from h_p1_takes h_p1_worth h_p1_settled h_p1_tried h h_from h_takes h_worth h_settled h_tried : Nat) (f_p1_size : Int32) (f_p1_settledSize : Int32) (f_size : Int32) (f_settledSize : Int32) (r_p1_from : Nat → Int32) (r_p1_settled : Nat → Int32) (r_p1_takes : Nat → Int32) (r_p1_worth : Nat → Int32) (r_from : Nat → Int32) (r_settled : Nat → Int32) (r_takes : Nat → Int32) (r_worth : Nat → Int32) : va_W := [(h_p1, .inr (0, [.ref h_p1_from, .ref h_p1_takes, .ref h_p1_worth, .ref h_p1_settled, .ref h_p1_tried, .int f_p1_size, .int f_p1_settledSize])), (h, .inr (0, [.ref h_from, .ref h_takes, .ref h_worth, .ref h_settled, .ref h_tried, .int f_size, .int f_settledSize])), (h_p1_from, .inl (cI, 6, .inl r_p1_from)), (h_p1_settled, .inl (cI, 6, .inl r_p1_settled)), (h_p1_takes, .inl (cI, 6, .inl r_p1_takes)), (h_p1_worth, .inl (cI, 6, .inl r_p1_worth)), (h_from, .inl (cI, 6, .inl r_from)), (h_settled, .inl (cI, 6, .inl r_settled)), (h_takes, .inl (cI, 6, .inl r_takes)), (h_worth, .inl (cI, 6, .inl r_worth))]
abbrev rmX0_copy : Room := { frames := 1, cells := 0, slots := 0, locals := 26 }
abbrev qX0_copy (dC : Nat → ClassId) (dI : Nat → Nat → Nat) (cI cZ cO cW : ClassId) (h_p1 h_p1_from h_p1_takes h_p1_worth h_p1_settled h_p1_tried h h_from h_takes h_worth h_settled h_tried : Nat) (f_p1_size : Int32) (f_p1_settledSize : Int32) (r_p1_from : Nat → Int32) (r_p1_settled : Nat → Int32) (r_p1_takes : Nat → Int32) (r_p1_worth : Nat → Int32) (Q : Int32 → Int32 → (Nat → Int32) → (Nat → Int32) → (Nat → Int32) → (Nat → Int32) → Prop) (A : Nat → Prop) : Array Value → State → Outcome → State → Prop := va_Qv (fun (u : Int32 × Int32 × (Nat → Int32) × (Nat → Int32) × (Nat → Int32) × (Nat → Int32)) => Q u.1 u.2.1 u.2.2.1 u.2.2.2.1 u.2.2.2.2.1 u.2.2.2.2.2) (fun (u : Int32 × Int32 × (Nat → Int32) × (Nat → Int32) × (Nat → Int32) × (Nat → Int32)) (t : State) => va_P (dC, dI) vwCl (vX0_copy cI cZ h_p1 h_p1_from h_p1_takes h_p1_worth h_p1_settled h_p1_tried h h_from h_takes h_worth h_settled h_tried f_p1_size f_p1_settledSize u.1 u.2.1 r_p1_from r_p1_settled r_p1_takes r_p1_worth u.2.2.1 u.2.2.2.1 u.2.2.2.2.1 u.2.2.2.2.2) t.heap ∧ va_K (dC, dI) vwCl (tysA cI cZ cO cW) t ∧ va_D A (vX0_copy cI cZ h_p1 h_p1_from h_p1_takes h_p1_worth h_p1_settled h_p1_tried h h_from h_takes h_worth h_settled h_tried f_p1_size f_p1_settledSize u.1 u.2.1 r_p1_from r_p1_settled r_p1_takes r_p1_worth u.2.2.1 u.2.2.2.1 u.2.2.2.2.1 u.2.2.2.2.2)) A
def zsX0_copy : List Cond := Cond.code yX0_copy cX0_copy 2 none :: GW
set_option maxHeartbeats 4000000 in
set_option maxRecDepth 100000 in
theorem tX0_copy_e {p : Program} {l : Launch} {e : Env} {s : State} {m : MethodId} {args : Array Value} {below : List Frame} {meth : Method} {c : Code} {dC : Nat → ClassId} {dI : Nat → Nat → Nat} {cI cZ cO cW : ClassId} {A : Nat → Prop} {h_p1 h_p1_from h_p1_takes h_p1_worth h_p1_settled h_p1_tried h h_from h_takes h_worth h_settled h_tried : Nat} {Q : Int32 → Int32 → (Nat → Int32) → (Nat → Int32) → (Nat → Int32) → (Nat → Int32) → Prop} (hC : Cx p s m args meth c cX0_copy none 2 GW RX0) (hK : va_K (dC, dI) vwCl (tysA cI cZ cO cW) s) (hA : ∀ q : Nat, s.heap.size ≤ q → A q) :
    ∀ (f_p1_size : Int32) (f_p1_settledSize : Int32) (f_size : Int32) (f_settledSize : Int32) (r_p1_from : Nat → Int32) (r_p1_settled : Nat → Int32) (r_p1_takes : Nat → Int32) (r_p1_worth : Nat → Int32) (r_from : Nat → Int32) (r_settled : Nat → Int32) (r_takes : Nat → Int32) (r_worth : Nat → Int32) (H : Heap) (locs : List Loc) (ls : Array Slot), wX0_copy Q  f_p1_size f_p1_settledSize f_size f_settledSize r_p1_from r_p1_settled r_p1_takes r_p1_worth r_from r_settled r_takes r_worth → va_P (dC, dI) vwCl (vX0_copy cI cZ h_p1 h_p1_from h_p1_takes h_p1_worth h_p1_settled h_p1_tried h h_from h_takes h_worth h_settled h_tried f_p1_size f_p1_settledSize f_size f_settledSize r_p1_from r_p1_settled r_p1_takes r_p1_worth r_from r_settled r_takes r_worth) H → va_D A (vX0_copy cI cZ h_p1 h_p1_from h_p1_takes h_p1_worth h_p1_settled h_p1_tried h h_from h_takes h_worth h_settled h_tried f_p1_size f_p1_settledSize f_size f_settledSize r_p1_from r_p1_settled r_p1_takes r_p1_worth r_from r_settled r_takes r_worth) → va_S A s.heap H locs → lv_has ls 2 [(0, .ref h), (1, .ref h_p1)] → W p l e rmX0_copy s m args below meth c H locs 0 0 (MQ below (qX0_copy dC dI cI cZ cO cW h_p1 h_p1_from h_p1_takes h_p1_worth h_p1_settled h_p1_tried h h_from h_takes h_worth h_settled h_tried f_p1_size f_p1_settledSize r_p1_from r_p1_settled r_p1_takes r_p1_worth Q A) args s 0 0 A) (F0 m 0 ls []) := by
  obtain ⟨hx, hb, hr, hml, hown, hts, hlocks⟩ := id hC
  intro  f_p1_size f_p1_settledSize f_size f_settledSize r_p1_from r_p1_settled r_p1_takes r_p1_worth r_from r_settled r_takes r_worth H locs ls hw hP hD hS hl
  refine lv_aload_n hx hb dX0_copy_0 rfl (lv_at hl 0 rfl) ?_
  refine lv_aload_n hx hb dX0_copy_1 rfl (lv_at hl 1 rfl) ?_
  refine va_get (D := (dC, dI)) (ci := 0) (v := .int f_p1_size) (C := RX0) (T := TX0) (N := 7) hx hb hts gu_X0 hown hK hP 0 rfl rfl 5 (by decide) (hts _ gw_10) (fun _ h9 => h9) rfl dX0_copy_2 ?_
  refine va_put (D := (dC, dI)) (ci := 0) (v := .int f_p1_size) (ty := .int) (C := RX0) (T := TX0) (N := 7) hx hb hts gu_X0 tyX0 tyX0_ok nmX0 hown hK hP hD hS 1 rfl rfl 5 (by decide) (hts _ gw_10) (fun _ h9 => h9) rfl (tyX0_ok 5 (by decide)) rfl rfl (Nat.le_of_ble_eq_true rfl) dX0_copy_5 (fun H locs hP hD hS => ?_)
  have hP : va_P (dC, dI) vwCl [(h_p1, .inr (0, [.ref h_p1_from, .ref h_p1_takes, .ref h_p1_worth, .ref h_p1_settled, .ref h_p1_tried, .int f_p1_size, .int f_p1_settledSize])), (h, .inr (0, [.ref h_from, .ref h_takes, .ref h_worth, .ref h_settled, .ref h_tried, .int f_p1_size, .int f_settledSize])), (h_p1_from, .inl (cI, 6, .inl r_p1_from)), (h_p1_settled, .inl (cI, 6, .inl r_p1_settled)), (h_p1_takes, .inl (cI, 6, .inl r_p1_takes)), (h_p1_worth, .inl (cI, 6, .inl r_p1_worth)), (h_from, .inl (cI, 6, .inl r_from)), (h_settled, .inl (cI, 6, .inl r_settled)), (h_takes, .inl (cI, 6, .inl r_takes)), (h_worth, .inl (cI, 6, .inl r_worth))] _ := hP
  have hD : va_D A [(h_p1, .inr (0, [.ref h_p1_from, .ref h_p1_takes, .ref h_p1_worth, .ref h_p1_settled, .ref h_p1_tried, .int f_p1_size, .int f_p1_settledSize])), (h, .inr (0, [.ref h_from, .ref h_takes, .ref h_worth, .ref h_settled, .ref h_tried, .int f_p1_size, .int f_settledSize])), (h_p1_from, .inl (cI, 6, .inl r_p1_from)), (h_p1_settled, .inl (cI, 6, .inl r_p1_settled)), (h_p1_takes, .inl (cI, 6, .inl r_p1_takes)), (h_p1_worth, .inl (cI, 6, .inl r_p1_worth)), (h_from, .inl (cI, 6, .inl r_from)), (h_settled, .inl (cI, 6, .inl r_settled)), (h_takes, .inl (cI, 6, .inl r_takes)), (h_worth, .inl (cI, 6, .inl r_worth))] := hD
  refine lv_aload_n hx hb dX0_copy_8 rfl (lv_at hl 0 rfl) ?_
  refine lv_aload_n hx hb dX0_copy_9 rfl (lv_at hl 1 rfl) ?_
  refine va_get (D := (dC, dI)) (ci := 0) (v := .int f_p1_settledSize) (C := RX0) (T := TX0) (N := 7) hx hb hts gu_X0 hown hK hP 0 rfl rfl 6 (by decide) (hts _ gw_11) (fun _ h9 => h9) rfl dX0_copy_10 ?_
  refine va_put (D := (dC, dI)) (ci := 0) (v := .int f_p1_settledSize) (ty := .int) (C := RX0) (T := TX0) (N := 7) hx hb hts gu_X0 tyX0 tyX0_ok nmX0 hown hK hP hD hS 1 rfl rfl 6 (by decide) (hts _ gw_11) (fun _ h9 => h9) rfl (tyX0_ok 6 (by decide)) rfl rfl (Nat.le_of_ble_eq_true rfl) dX0_copy_13 (fun H locs hP hD hS => ?_)
  have hP : va_P (dC, dI) vwCl [(h_p1, .inr (0, [.ref h_p1_from, .ref h_p1_takes, .ref h_p1_worth, .ref h_p1_settled, .ref h_p1_tried, .int f_p1_size, .int f_p1_settledSize])), (h, .inr (0, [.ref h_from, .ref h_takes, .ref h_worth, .ref h_settled, .ref h_tried, .int f_p1_size, .int f_p1_settledSize])), (h_p1_from, .inl (cI, 6, .inl r_p1_from)), (h_p1_settled, .inl (cI, 6, .inl r_p1_settled)), (h_p1_takes, .inl (cI, 6, .inl r_p1_takes)), (h_p1_worth, .inl (cI, 6, .inl r_p1_worth)), (h_from, .inl (cI, 6, .inl r_from)), (h_settled, .inl (cI, 6, .inl r_settled)), (h_takes, .inl (cI, 6, .inl r_takes)), (h_worth, .inl (cI, 6, .inl r_worth))] _ := hP
  have hD : va_D A [(h_p1, .inr (0, [.ref h_p1_from, .ref h_p1_takes, .ref h_p1_worth, .ref h_p1_settled, .ref h_p1_tried, .int f_p1_size, .int f_p1_settledSize])), (h, .inr (0, [.ref h_from, .ref h_takes, .ref h_worth, .ref h_settled, .ref h_tried, .int f_p1_size, .int f_p1_settledSize])), (h_p1_from, .inl (cI, 6, .inl r_p1_from)), (h_p1_settled, .inl (cI, 6, .inl r_p1_settled)), (h_p1_takes, .inl (cI, 6, .inl r_p1_takes)), (h_p1_worth, .inl (cI, 6, .inl r_p1_worth)), (h_from, .inl (cI, 6, .inl r_from)), (h_settled, .inl (cI, 6, .inl r_settled)), (h_takes, .inl (cI, 6, .inl r_takes)), (h_worth, .inl (cI, 6, .inl r_worth))] := hD
  refine lv_aload_n hx hb dX0_copy_16 rfl (lv_at hl 1 rfl) ?_
  refine va_get (D := (dC, dI)) (ci := 0) (v := .ref h_p1_from) (C := RX0) (T := TX0) (N := 7) hx hb hts gu_X0 hown hK hP 0 rfl rfl 0 (by decide) (hts _ gw_5) (fun _ h9 => h9) rfl dX0_copy_17 ?_
  refine lv_iconst (v := (0 : Int32)) hx hb dX0_copy_20 (by decide) ?_
  refine lv_aload_n hx hb dX0_copy_21 rfl (lv_at hl 0 rfl) ?_
  refine va_get (D := (dC, dI)) (ci := 0) (v := .ref h_from) (C := RX0) (T := TX0) (N := 7) hx hb hts gu_X0 hown hK hP 1 rfl rfl 0 (by decide) (hts _ gw_5) (fun _ h9 => h9) rfl dX0_copy_22 ?_
  refine lv_iconst (v := (0 : Int32)) hx hb dX0_copy_25 (by decide) ?_
  refine lv_bipush (v := (6 : Int32)) hx hb dX0_copy_26 (by decide) ?_
  refine va_copyi hx hb (hml.trans hl.1.symm) hown (hts _ gw_13) (hts _ gw_14) (hts _ gw_15) (hts _ gw_16) hK hP hD hS 2 6 0 0 rfl rfl rfl rfl rfl (by decide) (by decide) (by decide) (by decide) (by decide) (fun _ _ => rfl) (Nat.le_of_ble_eq_true rfl) (Nat.le_of_ble_eq_true rfl) dX0_copy_28 (fun H locs hP hD hS => ?_)
  have hP : va_P (dC, dI) vwCl [(h_p1, .inr (0, [.ref h_p1_from, .ref h_p1_takes, .ref h_p1_worth, .ref h_p1_settled, .ref h_p1_tried, .int f_p1_size, .int f_p1_settledSize])), (h, .inr (0, [.ref h_from, .ref h_takes, .ref h_worth, .ref h_settled, .ref h_tried, .int f_p1_size, .int f_p1_settledSize])), (h_p1_from, .inl (cI, 6, .inl r_p1_from)), (h_p1_settled, .inl (cI, 6, .inl r_p1_settled)), (h_p1_takes, .inl (cI, 6, .inl r_p1_takes)), (h_p1_worth, .inl (cI, 6, .inl r_p1_worth)), (h_from, .inl (cI, 6, .inl (va_cpy r_p1_from r_from (0 : Int32).toNatClampNeg (0 : Int32).toNatClampNeg (6 : Int32).toNatClampNeg))), (h_settled, .inl (cI, 6, .inl r_settled)), (h_takes, .inl (cI, 6, .inl r_takes)), (h_worth, .inl (cI, 6, .inl r_worth))] _ := hP
  have hD : va_D A [(h_p1, .inr (0, [.ref h_p1_from, .ref h_p1_takes, .ref h_p1_worth, .ref h_p1_settled, .ref h_p1_tried, .int f_p1_size, .int f_p1_settledSize])), (h, .inr (0, [.ref h_from, .ref h_takes, .ref h_worth, .ref h_settled, .ref h_tried, .int f_p1_size, .int f_p1_settledSize])), (h_p1_from, .inl (cI, 6, .inl r_p1_from)), (h_p1_settled, .inl (cI, 6, .inl r_p1_settled)), (h_p1_takes, .inl (cI, 6, .inl r_p1_takes)), (h_p1_worth, .inl (cI, 6, .inl r_p1_worth)), (h_from, .inl (cI, 6, .inl (va_cpy r_p1_from r_from (0 : Int32).toNatClampNeg (0 : Int32).toNatClampNeg (6 : Int32).toNatClampNeg))), (h_settled, .inl (cI, 6, .inl r_settled)), (h_takes, .inl (cI, 6, .inl r_takes)), (h_worth, .inl (cI, 6, .inl r_worth))] := hD
  refine lv_aload_n hx hb dX0_copy_31 rfl (lv_at hl 1 rfl) ?_
  refine va_get (D := (dC, dI)) (ci := 0) (v := .ref h_p1_takes) (C := RX0) (T := TX0) (N := 7) hx hb hts gu_X0 hown hK hP 0 rfl rfl 1 (by decide) (hts _ gw_6) (fun _ h9 => h9) rfl dX0_copy_32 ?_
  refine lv_iconst (v := (0 : Int32)) hx hb dX0_copy_35 (by decide) ?_
  refine lv_aload_n hx hb dX0_copy_36 rfl (lv_at hl 0 rfl) ?_
  refine va_get (D := (dC, dI)) (ci := 0) (v := .ref h_takes) (C := RX0) (T := TX0) (N := 7) hx hb hts gu_X0 hown hK hP 1 rfl rfl 1 (by decide) (hts _ gw_6) (fun _ h9 => h9) rfl dX0_copy_37 ?_
  refine lv_iconst (v := (0 : Int32)) hx hb dX0_copy_40 (by decide) ?_
  refine lv_bipush (v := (6 : Int32)) hx hb dX0_copy_41 (by decide) ?_
  refine va_copyi hx hb (hml.trans hl.1.symm) hown (hts _ gw_13) (hts _ gw_14) (hts _ gw_15) (hts _ gw_16) hK hP hD hS 4 8 0 0 rfl rfl rfl rfl rfl (by decide) (by decide) (by decide) (by decide) (by decide) (fun _ _ => rfl) (Nat.le_of_ble_eq_true rfl) (Nat.le_of_ble_eq_true rfl) dX0_copy_43 (fun H locs hP hD hS => ?_)
  have hP : va_P (dC, dI) vwCl [(h_p1, .inr (0, [.ref h_p1_from, .ref h_p1_takes, .ref h_p1_worth, .ref h_p1_settled, .ref h_p1_tried, .int f_p1_size, .int f_p1_settledSize])), (h, .inr (0, [.ref h_from, .ref h_takes, .ref h_worth, .ref h_settled, .ref h_tried, .int f_p1_size, .int f_p1_settledSize])), (h_p1_from, .inl (cI, 6, .inl r_p1_from)), (h_p1_settled, .inl (cI, 6, .inl r_p1_settled)), (h_p1_takes, .inl (cI, 6, .inl r_p1_takes)), (h_p1_worth, .inl (cI, 6, .inl r_p1_worth)), (h_from, .inl (cI, 6, .inl (va_cpy r_p1_from r_from (0 : Int32).toNatClampNeg (0 : Int32).toNatClampNeg (6 : Int32).toNatClampNeg))), (h_settled, .inl (cI, 6, .inl r_settled)), (h_takes, .inl (cI, 6, .inl (va_cpy r_p1_takes r_takes (0 : Int32).toNatClampNeg (0 : Int32).toNatClampNeg (6 : Int32).toNatClampNeg))), (h_worth, .inl (cI, 6, .inl r_worth))] _ := hP
  have hD : va_D A [(h_p1, .inr (0, [.ref h_p1_from, .ref h_p1_takes, .ref h_p1_worth, .ref h_p1_settled, .ref h_p1_tried, .int f_p1_size, .int f_p1_settledSize])), (h, .inr (0, [.ref h_from, .ref h_takes, .ref h_worth, .ref h_settled, .ref h_tried, .int f_p1_size, .int f_p1_settledSize])), (h_p1_from, .inl (cI, 6, .inl r_p1_from)), (h_p1_settled, .inl (cI, 6, .inl r_p1_settled)), (h_p1_takes, .inl (cI, 6, .inl r_p1_takes)), (h_p1_worth, .inl (cI, 6, .inl r_p1_worth)), (h_from, .inl (cI, 6, .inl (va_cpy r_p1_from r_from (0 : Int32).toNatClampNeg (0 : Int32).toNatClampNeg (6 : Int32).toNatClampNeg))), (h_settled, .inl (cI, 6, .inl r_settled)), (h_takes, .inl (cI, 6, .inl (va_cpy r_p1_takes r_takes (0 : Int32).toNatClampNeg (0 : Int32).toNatClampNeg (6 : Int32).toNatClampNeg))), (h_worth, .inl (cI, 6, .inl r_worth))] := hD
  refine lv_aload_n hx hb dX0_copy_46 rfl (lv_at hl 1 rfl) ?_
  refine va_get (D := (dC, dI)) (ci := 0) (v := .ref h_p1_worth) (C := RX0) (T := TX0) (N := 7) hx hb hts gu_X0 hown hK hP 0 rfl rfl 2 (by decide) (hts _ gw_7) (fun _ h9 => h9) rfl dX0_copy_47 ?_
  refine lv_iconst (v := (0 : Int32)) hx hb dX0_copy_50 (by decide) ?_
  refine lv_aload_n hx hb dX0_copy_51 rfl (lv_at hl 0 rfl) ?_
  refine va_get (D := (dC, dI)) (ci := 0) (v := .ref h_worth) (C := RX0) (T := TX0) (N := 7) hx hb hts gu_X0 hown hK hP 1 rfl rfl 2 (by decide) (hts _ gw_7) (fun _ h9 => h9) rfl dX0_copy_52 ?_
  refine lv_iconst (v := (0 : Int32)) hx hb dX0_copy_55 (by decide) ?_
  refine lv_bipush (v := (6 : Int32)) hx hb dX0_copy_56 (by decide) ?_
  refine va_copyi hx hb (hml.trans hl.1.symm) hown (hts _ gw_13) (hts _ gw_14) (hts _ gw_15) (hts _ gw_16) hK hP hD hS 5 9 0 0 rfl rfl rfl rfl rfl (by decide) (by decide) (by decide) (by decide) (by decide) (fun _ _ => rfl) (Nat.le_of_ble_eq_true rfl) (Nat.le_of_ble_eq_true rfl) dX0_copy_58 (fun H locs hP hD hS => ?_)
  have hP : va_P (dC, dI) vwCl [(h_p1, .inr (0, [.ref h_p1_from, .ref h_p1_takes, .ref h_p1_worth, .ref h_p1_settled, .ref h_p1_tried, .int f_p1_size, .int f_p1_settledSize])), (h, .inr (0, [.ref h_from, .ref h_takes, .ref h_worth, .ref h_settled, .ref h_tried, .int f_p1_size, .int f_p1_settledSize])), (h_p1_from, .inl (cI, 6, .inl r_p1_from)), (h_p1_settled, .inl (cI, 6, .inl r_p1_settled)), (h_p1_takes, .inl (cI, 6, .inl r_p1_takes)), (h_p1_worth, .inl (cI, 6, .inl r_p1_worth)), (h_from, .inl (cI, 6, .inl (va_cpy r_p1_from r_from (0 : Int32).toNatClampNeg (0 : Int32).toNatClampNeg (6 : Int32).toNatClampNeg))), (h_settled, .inl (cI, 6, .inl r_settled)), (h_takes, .inl (cI, 6, .inl (va_cpy r_p1_takes r_takes (0 : Int32).toNatClampNeg (0 : Int32).toNatClampNeg (6 : Int32).toNatClampNeg))), (h_worth, .inl (cI, 6, .inl (va_cpy r_p1_worth r_worth (0 : Int32).toNatClampNeg (0 : Int32).toNatClampNeg (6 : Int32).toNatClampNeg)))] _ := hP
  have hD : va_D A [(h_p1, .inr (0, [.ref h_p1_from, .ref h_p1_takes, .ref h_p1_worth, .ref h_p1_settled, .ref h_p1_tried, .int f_p1_size, .int f_p1_settledSize])), (h, .inr (0, [.ref h_from, .ref h_takes, .ref h_worth, .ref h_settled, .ref h_tried, .int f_p1_size, .int f_p1_settledSize])), (h_p1_from, .inl (cI, 6, .inl r_p1_from)), (h_p1_settled, .inl (cI, 6, .inl r_p1_settled)), (h_p1_takes, .inl (cI, 6, .inl r_p1_takes)), (h_p1_worth, .inl (cI, 6, .inl r_p1_worth)), (h_from, .inl (cI, 6, .inl (va_cpy r_p1_from r_from (0 : Int32).toNatClampNeg (0 : Int32).toNatClampNeg (6 : Int32).toNatClampNeg))), (h_settled, .inl (cI, 6, .inl r_settled)), (h_takes, .inl (cI, 6, .inl (va_cpy r_p1_takes r_takes (0 : Int32).toNatClampNeg (0 : Int32).toNatClampNeg (6 : Int32).toNatClampNeg))), (h_worth, .inl (cI, 6, .inl (va_cpy r_p1_worth r_worth (0 : Int32).toNatClampNeg (0 : Int32).toNatClampNeg (6 : Int32).toNatClampNeg)))] := hD
  refine lv_aload_n hx hb dX0_copy_61 rfl (lv_at hl 1 rfl) ?_
  refine va_get (D := (dC, dI)) (ci := 0) (v := .ref h_p1_settled) (C := RX0) (T := TX0) (N := 7) hx hb hts gu_X0 hown hK hP 0 rfl rfl 3 (by decide) (hts _ gw_8) (fun _ h9 => h9) rfl dX0_copy_62 ?_
  refine lv_iconst (v := (0 : Int32)) hx hb dX0_copy_65 (by decide) ?_
  refine lv_aload_n hx hb dX0_copy_66 rfl (lv_at hl 0 rfl) ?_
  refine va_get (D := (dC, dI)) (ci := 0) (v := .ref h_settled) (C := RX0) (T := TX0) (N := 7) hx hb hts gu_X0 hown hK hP 1 rfl rfl 3 (by decide) (hts _ gw_8) (fun _ h9 => h9) rfl dX0_copy_67 ?_
  refine lv_iconst (v := (0 : Int32)) hx hb dX0_copy_70 (by decide) ?_
  refine lv_bipush (v := (6 : Int32)) hx hb dX0_copy_71 (by decide) ?_
  refine va_copyi hx hb (hml.trans hl.1.symm) hown (hts _ gw_13) (hts _ gw_14) (hts _ gw_15) (hts _ gw_16) hK hP hD hS 3 7 0 0 rfl rfl rfl rfl rfl (by decide) (by decide) (by decide) (by decide) (by decide) (fun _ _ => rfl) (Nat.le_of_ble_eq_true rfl) (Nat.le_of_ble_eq_true rfl) dX0_copy_73 (fun H locs hP hD hS => ?_)
  have hP : va_P (dC, dI) vwCl [(h_p1, .inr (0, [.ref h_p1_from, .ref h_p1_takes, .ref h_p1_worth, .ref h_p1_settled, .ref h_p1_tried, .int f_p1_size, .int f_p1_settledSize])), (h, .inr (0, [.ref h_from, .ref h_takes, .ref h_worth, .ref h_settled, .ref h_tried, .int f_p1_size, .int f_p1_settledSize])), (h_p1_from, .inl (cI, 6, .inl r_p1_from)), (h_p1_settled, .inl (cI, 6, .inl r_p1_settled)), (h_p1_takes, .inl (cI, 6, .inl r_p1_takes)), (h_p1_worth, .inl (cI, 6, .inl r_p1_worth)), (h_from, .inl (cI, 6, .inl (va_cpy r_p1_from r_from (0 : Int32).toNatClampNeg (0 : Int32).toNatClampNeg (6 : Int32).toNatClampNeg))), (h_settled, .inl (cI, 6, .inl (va_cpy r_p1_settled r_settled (0 : Int32).toNatClampNeg (0 : Int32).toNatClampNeg (6 : Int32).toNatClampNeg))), (h_takes, .inl (cI, 6, .inl (va_cpy r_p1_takes r_takes (0 : Int32).toNatClampNeg (0 : Int32).toNatClampNeg (6 : Int32).toNatClampNeg))), (h_worth, .inl (cI, 6, .inl (va_cpy r_p1_worth r_worth (0 : Int32).toNatClampNeg (0 : Int32).toNatClampNeg (6 : Int32).toNatClampNeg)))] _ := hP
  have hD : va_D A [(h_p1, .inr (0, [.ref h_p1_from, .ref h_p1_takes, .ref h_p1_worth, .ref h_p1_settled, .ref h_p1_tried, .int f_p1_size, .int f_p1_settledSize])), (h, .inr (0, [.ref h_from, .ref h_takes, .ref h_worth, .ref h_settled, .ref h_tried, .int f_p1_size, .int f_p1_settledSize])), (h_p1_from, .inl (cI, 6, .inl r_p1_from)), (h_p1_settled, .inl (cI, 6, .inl r_p1_settled)), (h_p1_takes, .inl (cI, 6, .inl r_p1_takes)), (h_p1_worth, .inl (cI, 6, .inl r_p1_worth)), (h_from, .inl (cI, 6, .inl (va_cpy r_p1_from r_from (0 : Int32).toNatClampNeg (0 : Int32).toNatClampNeg (6 : Int32).toNatClampNeg))), (h_settled, .inl (cI, 6, .inl (va_cpy r_p1_settled r_settled (0 : Int32).toNatClampNeg (0 : Int32).toNatClampNeg (6 : Int32).toNatClampNeg))), (h_takes, .inl (cI, 6, .inl (va_cpy r_p1_takes r_takes (0 : Int32).toNatClampNeg (0 : Int32).toNatClampNeg (6 : Int32).toNatClampNeg))), (h_worth, .inl (cI, 6, .inl (va_cpy r_p1_worth r_worth (0 : Int32).toNatClampNeg (0 : Int32).toNatClampNeg (6 : Int32).toNatClampNeg)))] := hD
  have hP9 := hP.sub (ws' := (vX0_copy cI cZ h_p1 h_p1_from h_p1_takes h_p1_worth h_p1_settled h_p1_tried h h_from h_takes h_worth h_settled h_tried f_p1_size f_p1_settledSize f_p1_size f_p1_settledSize r_p1_from r_p1_settled r_p1_takes r_p1_worth (va_cpy r_p1_from r_from (0 : Int32).toNatClampNeg (0 : Int32).toNatClampNeg (6 : Int32).toNatClampNeg) (va_cpy r_p1_settled r_settled (0 : Int32).toNatClampNeg (0 : Int32).toNatClampNeg (6 : Int32).toNatClampNeg) (va_cpy r_p1_takes r_takes (0 : Int32).toNatClampNeg (0 : Int32).toNatClampNeg (6 : Int32).toNatClampNeg) (va_cpy r_p1_worth r_worth (0 : Int32).toNatClampNeg (0 : Int32).toNatClampNeg (6 : Int32).toNatClampNeg))) [0, 1, 2, 3, 4, 5, 6, 7, 8, 9] rfl
  have hD9 := hD.sub (ws' := (vX0_copy cI cZ h_p1 h_p1_from h_p1_takes h_p1_worth h_p1_settled h_p1_tried h h_from h_takes h_worth h_settled h_tried f_p1_size f_p1_settledSize f_p1_size f_p1_settledSize r_p1_from r_p1_settled r_p1_takes r_p1_worth (va_cpy r_p1_from r_from (0 : Int32).toNatClampNeg (0 : Int32).toNatClampNeg (6 : Int32).toNatClampNeg) (va_cpy r_p1_settled r_settled (0 : Int32).toNatClampNeg (0 : Int32).toNatClampNeg (6 : Int32).toNatClampNeg) (va_cpy r_p1_takes r_takes (0 : Int32).toNatClampNeg (0 : Int32).toNatClampNeg (6 : Int32).toNatClampNeg) (va_cpy r_p1_worth r_worth (0 : Int32).toNatClampNeg (0 : Int32).toNatClampNeg (6 : Int32).toNatClampNeg))) [0, 1, 2, 3, 4, 5, 6, 7, 8, 9] (by decide) rfl
  exact W.vret hx hb hr (fun t ht hW => ⟨⟨(f_p1_size, f_p1_settledSize, (va_cpy r_p1_from r_from (0 : Int32).toNatClampNeg (0 : Int32).toNatClampNeg (6 : Int32).toNatClampNeg), (va_cpy r_p1_settled r_settled (0 : Int32).toNatClampNeg (0 : Int32).toNatClampNeg (6 : Int32).toNatClampNeg), (va_cpy r_p1_takes r_takes (0 : Int32).toNatClampNeg (0 : Int32).toNatClampNeg (6 : Int32).toNatClampNeg), (va_cpy r_p1_worth r_worth (0 : Int32).toNatClampNeg (0 : Int32).toNatClampNeg (6 : Int32).toNatClampNeg)), rfl, hw, by rw [ht]; exact hP9, va_K.moved hW.alike hK, hD9⟩, hS.F ht⟩) hS.2.2 dX0_copy_76
set_option maxHeartbeats 4000000 in
set_option maxRecDepth 100000 in
theorem kX0_copy (l : Launch) (dC : Nat → ClassId) (dI : Nat → Nat → Nat) (cI cZ cO cW : ClassId) (h_p1 h_p1_from h_p1_takes h_p1_worth h_p1_settled h_p1_tried h h_from h_takes h_worth h_settled h_tried : Nat)  (sz : Nat) (f_p1_size : Int32) (f_p1_settledSize : Int32) (f_size : Int32) (f_settledSize : Int32) (r_p1_from : Nat → Int32) (r_p1_settled : Nat → Int32) (r_p1_takes : Nat → Int32) (r_p1_worth : Nat → Int32) (r_from : Nat → Int32) (r_settled : Nat → Int32) (r_takes : Nat → Int32) (r_worth : Nat → Int32)  (Q : Int32 → Int32 → (Nat → Int32) → (Nat → Int32) → (Nat → Int32) → (Nat → Int32) → Prop) (hw : wX0_copy Q  f_p1_size f_p1_settledSize f_size f_settledSize r_p1_from r_p1_settled r_p1_takes r_p1_worth r_from r_settled r_takes r_worth) : Met l yX0_copy zsX0_copy rmX0_copy (va_Pc [.ref h, .ref h_p1] (fun U => U.heap.size = sz ∧ va_P (dC, dI) vwCl (vX0_copy cI cZ h_p1 h_p1_from h_p1_takes h_p1_worth h_p1_settled h_p1_tried h h_from h_takes h_worth h_settled h_tried f_p1_size f_p1_settledSize f_size f_settledSize r_p1_from r_p1_settled r_p1_takes r_p1_worth r_from r_settled r_takes r_worth) U.heap ∧ va_K (dC, dI) vwCl (tysA cI cZ cO cW) U ∧ va_D (fun _ => True) (vX0_copy cI cZ h_p1 h_p1_from h_p1_takes h_p1_worth h_p1_settled h_p1_tried h h_from h_takes h_worth h_settled h_tried f_p1_size f_p1_settledSize f_size f_settledSize r_p1_from r_p1_settled r_p1_takes r_p1_worth r_from r_settled r_takes r_worth))) (qX0_copy dC dI cI cZ cO cW h_p1 h_p1_from h_p1_takes h_p1_worth h_p1_settled h_p1_tried h h_from h_takes h_worth h_settled h_tried f_p1_size f_p1_settledSize r_p1_from r_p1_settled r_p1_takes r_p1_worth Q (va_A (vX0_copy cI cZ h_p1 h_p1_from h_p1_takes h_p1_worth h_p1_settled h_p1_tried h h_from h_takes h_worth h_settled h_tried f_p1_size f_p1_settledSize f_size f_settledSize r_p1_from r_p1_settled r_p1_takes r_p1_worth r_from r_settled r_takes r_worth) sz)) 0 0 (va_A (vX0_copy cI cZ h_p1 h_p1_from h_p1_takes h_p1_worth h_p1_settled h_p1_tried h h_from h_takes h_worth h_settled h_tried f_p1_size f_p1_settledSize f_size f_settledSize r_p1_from r_p1_settled r_p1_takes r_p1_worth r_from r_settled r_takes r_worth) sz) := by
  refine Met.ofW (cc := cX0_copy) (maxL := 2) (ret := none) (by decide) rfl ?_
  intro p e s m args below meth c s₁ B hml hv
  obtain ⟨rfl, hsz, hP, hK, hD0⟩ := hv
  subst hsz
  have hC : Cx p s m ([.ref h, .ref h_p1] : List Value).toArray meth c cX0_copy none 2 GW RX0 := ⟨B.exec, B.bytes, B.returns, hml, findClass_of_methodNamed B.named, fun w h => atoms_spec (ws := zsX0_copy) B.pre w (List.mem_cons_of_mem _ h), B.notSynchronized⟩
  have hD := hD0.self (sz := s.heap.size)
  generalize hAe : va_A (vX0_copy cI cZ h_p1 h_p1_from h_p1_takes h_p1_worth h_p1_settled h_p1_tried h h_from h_takes h_worth h_settled h_tried f_p1_size f_p1_settledSize f_size f_settledSize r_p1_from r_p1_settled r_p1_takes r_p1_worth r_from r_settled r_takes r_worth) s.heap.size = A at hD ⊢
  have hA : ∀ q : Nat, s.heap.size ≤ q → A q := fun q h => by rw [← hAe]; exact Or.inr h
  have hl := lv_entry ([.ref h, .ref h_p1]) (n := 2) (Nat.le_of_ble_eq_true rfl)
  rw [lg_entry_eq]
  generalize (lg_sl ([.ref h, .ref h_p1]) ++ List.replicate (2 - (lg_sl ([.ref h, .ref h_p1])).length) Slot.unset).toArray = ls at hl ⊢
  exact tX0_copy_e hC hK hA  f_p1_size f_p1_settledSize f_size f_settledSize r_p1_from r_p1_settled r_p1_takes r_p1_worth r_from r_settled r_takes r_worth _ _ ls hw hP hD va_S.rf hl
