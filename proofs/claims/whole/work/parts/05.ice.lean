theorem dJ7_fill_53178_0 : decode cJ7_fill_53178 0 = .ok (.iconst 0, 1) := by decide +kernel
theorem dJ7_fill_53178_1 : decode cJ7_fill_53178 1 = .ok (.istore_n 2, 1) := by decide +kernel
theorem dJ7_fill_53178_2 : decode cJ7_fill_53178 2 = .ok (.aload_n 0, 1) := by decide +kernel
theorem dJ7_fill_53178_3 : decode cJ7_fill_53178 3 = .ok (.arraylength, 1) := by decide +kernel
theorem dJ7_fill_53178_4 : decode cJ7_fill_53178 4 = .ok (.istore_n 3, 1) := by decide +kernel
theorem dJ7_fill_53178_5 : decode cJ7_fill_53178 5 = .ok (.iload_n 2, 1) := by decide +kernel
theorem dJ7_fill_53178_6 : decode cJ7_fill_53178 6 = .ok (.iload_n 3, 1) := by decide +kernel
theorem dJ7_fill_53178_7 : decode cJ7_fill_53178 7 = .ok (.if_icmp .ge 13, 3) := by decide +kernel
theorem dJ7_fill_53178_10 : decode cJ7_fill_53178 10 = .ok (.aload_n 0, 1) := by decide +kernel
theorem dJ7_fill_53178_11 : decode cJ7_fill_53178 11 = .ok (.iload_n 2, 1) := by decide +kernel
theorem dJ7_fill_53178_12 : decode cJ7_fill_53178 12 = .ok (.iload_n 1, 1) := by decide +kernel
theorem dJ7_fill_53178_13 : decode cJ7_fill_53178 13 = .ok (.iastore, 1) := by decide +kernel
theorem dJ7_fill_53178_14 : decode cJ7_fill_53178 14 = .ok (.iinc 2 1, 3) := by decide +kernel
theorem dJ7_fill_53178_17 : decode cJ7_fill_53178 17 = .ok (.goto (-12), 3) := by decide +kernel
theorem dJ7_fill_53178_20 : decode cJ7_fill_53178 20 = .ok (.return_, 1) := by decide +kernel

theorem dX3_empty_0 : decode cX3_empty 0 = .ok (.aload_n 0, 1) := by decide +kernel
theorem dX3_empty_1 : decode cX3_empty 1 = .ok (.getfield 9, 3) := by decide +kernel
theorem dX3_empty_4 : decode cX3_empty 4 = .ok (.iload_n 1, 1) := by decide +kernel
theorem dX3_empty_5 : decode cX3_empty 5 = .ok (.iload_n 2, 1) := by decide +kernel
theorem dX3_empty_6 : decode cX3_empty 6 = .ok (.bastore, 1) := by decide +kernel
theorem dX3_empty_7 : decode cX3_empty 7 = .ok (.aload_n 0, 1) := by decide +kernel
theorem dX3_empty_8 : decode cX3_empty 8 = .ok (.getfield 15, 3) := by decide +kernel
theorem dX3_empty_11 : decode cX3_empty 11 = .ok (.iload_n 1, 1) := by decide +kernel
theorem dX3_empty_12 : decode cX3_empty 12 = .ok (.iconst 0, 1) := by decide +kernel
theorem dX3_empty_13 : decode cX3_empty 13 = .ok (.bastore, 1) := by decide +kernel
theorem dX3_empty_14 : decode cX3_empty 14 = .ok (.aload_n 0, 1) := by decide +kernel
theorem dX3_empty_15 : decode cX3_empty 15 = .ok (.getfield 18, 3) := by decide +kernel
theorem dX3_empty_18 : decode cX3_empty 18 = .ok (.iload_n 1, 1) := by decide +kernel
theorem dX3_empty_19 : decode cX3_empty 19 = .ok (.iconst 0, 1) := by decide +kernel
theorem dX3_empty_20 : decode cX3_empty 20 = .ok (.iastore, 1) := by decide +kernel
theorem dX3_empty_21 : decode cX3_empty 21 = .ok (.aload_n 0, 1) := by decide +kernel
theorem dX3_empty_22 : decode cX3_empty 22 = .ok (.getfield 22, 3) := by decide +kernel
theorem dX3_empty_25 : decode cX3_empty 25 = .ok (.iload_n 1, 1) := by decide +kernel
theorem dX3_empty_26 : decode cX3_empty 26 = .ok (.iconst 0, 1) := by decide +kernel
theorem dX3_empty_27 : decode cX3_empty 27 = .ok (.iastore, 1) := by decide +kernel
theorem dX3_empty_28 : decode cX3_empty 28 = .ok (.aload_n 0, 1) := by decide +kernel
theorem dX3_empty_29 : decode cX3_empty 29 = .ok (.getfield 25, 3) := by decide +kernel
theorem dX3_empty_32 : decode cX3_empty 32 = .ok (.iload_n 1, 1) := by decide +kernel
theorem dX3_empty_33 : decode cX3_empty 33 = .ok (.iconst (-1), 1) := by decide +kernel
theorem dX3_empty_34 : decode cX3_empty 34 = .ok (.iastore, 1) := by decide +kernel
theorem dX3_empty_35 : decode cX3_empty 35 = .ok (.return_, 1) := by decide +kernel

theorem dX3_begin_0 : decode cX3_begin 0 = .ok (.aload_n 0, 1) := by decide +kernel
theorem dX3_begin_1 : decode cX3_begin 1 = .ok (.iload_n 1, 1) := by decide +kernel
theorem dX3_begin_2 : decode cX3_begin 2 = .ok (.putfield 31, 3) := by decide +kernel
theorem dX3_begin_5 : decode cX3_begin 5 = .ok (.aload_n 0, 1) := by decide +kernel
theorem dX3_begin_6 : decode cX3_begin 6 = .ok (.iload_n 2, 1) := by decide +kernel
theorem dX3_begin_7 : decode cX3_begin 7 = .ok (.putfield 35, 3) := by decide +kernel
theorem dX3_begin_10 : decode cX3_begin 10 = .ok (.aload_n 0, 1) := by decide +kernel
theorem dX3_begin_11 : decode cX3_begin 11 = .ok (.iconst 0, 1) := by decide +kernel
theorem dX3_begin_12 : decode cX3_begin 12 = .ok (.putfield 38, 3) := by decide +kernel
theorem dX3_begin_15 : decode cX3_begin 15 = .ok (.aload_n 0, 1) := by decide +kernel
theorem dX3_begin_16 : decode cX3_begin 16 = .ok (.iconst 0, 1) := by decide +kernel
theorem dX3_begin_17 : decode cX3_begin 17 = .ok (.putfield 41, 3) := by decide +kernel
theorem dX3_begin_20 : decode cX3_begin 20 = .ok (.aload_n 0, 1) := by decide +kernel
theorem dX3_begin_21 : decode cX3_begin 21 = .ok (.iconst 0, 1) := by decide +kernel
theorem dX3_begin_22 : decode cX3_begin 22 = .ok (.putfield 44, 3) := by decide +kernel
theorem dX3_begin_25 : decode cX3_begin 25 = .ok (.iconst 0, 1) := by decide +kernel
theorem dX3_begin_26 : decode cX3_begin 26 = .ok (.istore_n 3, 1) := by decide +kernel
theorem dX3_begin_27 : decode cX3_begin 27 = .ok (.iload_n 3, 1) := by decide +kernel
theorem dX3_begin_28 : decode cX3_begin 28 = .ok (.bipush 64, 2) := by decide +kernel
theorem dX3_begin_30 : decode cX3_begin 30 = .ok (.if_icmp .ge 41, 3) := by decide +kernel
theorem dX3_begin_33 : decode cX3_begin 33 = .ok (.aload_n 0, 1) := by decide +kernel
theorem dX3_begin_34 : decode cX3_begin 34 = .ok (.iload_n 3, 1) := by decide +kernel
theorem dX3_begin_35 : decode cX3_begin 35 = .ok (.iload_n 3, 1) := by decide +kernel
theorem dX3_begin_36 : decode cX3_begin 36 = .ok (.bipush 8, 2) := by decide +kernel
theorem dX3_begin_38 : decode cX3_begin 38 = .ok (.idiv, 1) := by decide +kernel
theorem dX3_begin_39 : decode cX3_begin 39 = .ok (.aload_n 0, 1) := by decide +kernel
theorem dX3_begin_40 : decode cX3_begin 40 = .ok (.getfield 31, 3) := by decide +kernel
theorem dX3_begin_43 : decode cX3_begin 43 = .ok (.if_icmp .ge 18, 3) := by decide +kernel
theorem dX3_begin_46 : decode cX3_begin 46 = .ok (.iload_n 3, 1) := by decide +kernel
theorem dX3_begin_47 : decode cX3_begin 47 = .ok (.bipush 8, 2) := by decide +kernel
theorem dX3_begin_49 : decode cX3_begin 49 = .ok (.irem, 1) := by decide +kernel
theorem dX3_begin_50 : decode cX3_begin 50 = .ok (.aload_n 0, 1) := by decide +kernel
theorem dX3_begin_51 : decode cX3_begin 51 = .ok (.getfield 35, 3) := by decide +kernel
theorem dX3_begin_54 : decode cX3_begin 54 = .ok (.if_icmp .ge 7, 3) := by decide +kernel
theorem dX3_begin_57 : decode cX3_begin 57 = .ok (.iconst 1, 1) := by decide +kernel
theorem dX3_begin_58 : decode cX3_begin 58 = .ok (.goto 4, 3) := by decide +kernel
theorem dX3_begin_61 : decode cX3_begin 61 = .ok (.iconst 0, 1) := by decide +kernel
theorem dX3_begin_62 : decode cX3_begin 62 = .ok (.invokevirtual 47, 3) := by decide +kernel
theorem dX3_begin_65 : decode cX3_begin 65 = .ok (.iinc 3 1, 3) := by decide +kernel
theorem dX3_begin_68 : decode cX3_begin 68 = .ok (.goto (-41), 3) := by decide +kernel
theorem dX3_begin_71 : decode cX3_begin 71 = .ok (.return_, 1) := by decide +kernel

theorem dX3_copy_0 : decode cX3_copy 0 = .ok (.aload_n 0, 1) := by decide +kernel
theorem dX3_copy_1 : decode cX3_copy 1 = .ok (.aload_n 1, 1) := by decide +kernel
theorem dX3_copy_2 : decode cX3_copy 2 = .ok (.getfield 31, 3) := by decide +kernel
theorem dX3_copy_5 : decode cX3_copy 5 = .ok (.putfield 31, 3) := by decide +kernel
theorem dX3_copy_8 : decode cX3_copy 8 = .ok (.aload_n 0, 1) := by decide +kernel
theorem dX3_copy_9 : decode cX3_copy 9 = .ok (.aload_n 1, 1) := by decide +kernel
theorem dX3_copy_10 : decode cX3_copy 10 = .ok (.getfield 35, 3) := by decide +kernel
theorem dX3_copy_13 : decode cX3_copy 13 = .ok (.putfield 35, 3) := by decide +kernel
theorem dX3_copy_16 : decode cX3_copy 16 = .ok (.aload_n 0, 1) := by decide +kernel
theorem dX3_copy_17 : decode cX3_copy 17 = .ok (.aload_n 1, 1) := by decide +kernel
theorem dX3_copy_18 : decode cX3_copy 18 = .ok (.getfield 38, 3) := by decide +kernel
theorem dX3_copy_21 : decode cX3_copy 21 = .ok (.putfield 38, 3) := by decide +kernel
theorem dX3_copy_24 : decode cX3_copy 24 = .ok (.aload_n 0, 1) := by decide +kernel
theorem dX3_copy_25 : decode cX3_copy 25 = .ok (.aload_n 1, 1) := by decide +kernel
theorem dX3_copy_26 : decode cX3_copy 26 = .ok (.getfield 41, 3) := by decide +kernel
theorem dX3_copy_29 : decode cX3_copy 29 = .ok (.putfield 41, 3) := by decide +kernel
theorem dX3_copy_32 : decode cX3_copy 32 = .ok (.aload_n 0, 1) := by decide +kernel
theorem dX3_copy_33 : decode cX3_copy 33 = .ok (.aload_n 1, 1) := by decide +kernel
theorem dX3_copy_34 : decode cX3_copy 34 = .ok (.getfield 44, 3) := by decide +kernel
theorem dX3_copy_37 : decode cX3_copy 37 = .ok (.putfield 44, 3) := by decide +kernel
theorem dX3_copy_40 : decode cX3_copy 40 = .ok (.aload_n 1, 1) := by decide +kernel
theorem dX3_copy_41 : decode cX3_copy 41 = .ok (.getfield 9, 3) := by decide +kernel
theorem dX3_copy_44 : decode cX3_copy 44 = .ok (.iconst 0, 1) := by decide +kernel
theorem dX3_copy_45 : decode cX3_copy 45 = .ok (.aload_n 0, 1) := by decide +kernel
theorem dX3_copy_46 : decode cX3_copy 46 = .ok (.getfield 9, 3) := by decide +kernel
theorem dX3_copy_49 : decode cX3_copy 49 = .ok (.iconst 0, 1) := by decide +kernel
theorem dX3_copy_50 : decode cX3_copy 50 = .ok (.bipush 64, 2) := by decide +kernel
theorem dX3_copy_52 : decode cX3_copy 52 = .ok (.invokestatic 51, 3) := by decide +kernel
theorem dX3_copy_55 : decode cX3_copy 55 = .ok (.aload_n 1, 1) := by decide +kernel
theorem dX3_copy_56 : decode cX3_copy 56 = .ok (.getfield 15, 3) := by decide +kernel
theorem dX3_copy_59 : decode cX3_copy 59 = .ok (.iconst 0, 1) := by decide +kernel
theorem dX3_copy_60 : decode cX3_copy 60 = .ok (.aload_n 0, 1) := by decide +kernel
theorem dX3_copy_61 : decode cX3_copy 61 = .ok (.getfield 15, 3) := by decide +kernel
theorem dX3_copy_64 : decode cX3_copy 64 = .ok (.iconst 0, 1) := by decide +kernel
theorem dX3_copy_65 : decode cX3_copy 65 = .ok (.bipush 64, 2) := by decide +kernel
theorem dX3_copy_67 : decode cX3_copy 67 = .ok (.invokestatic 51, 3) := by decide +kernel
theorem dX3_copy_70 : decode cX3_copy 70 = .ok (.aload_n 1, 1) := by decide +kernel
theorem dX3_copy_71 : decode cX3_copy 71 = .ok (.getfield 18, 3) := by decide +kernel
theorem dX3_copy_74 : decode cX3_copy 74 = .ok (.iconst 0, 1) := by decide +kernel
theorem dX3_copy_75 : decode cX3_copy 75 = .ok (.aload_n 0, 1) := by decide +kernel
theorem dX3_copy_76 : decode cX3_copy 76 = .ok (.getfield 18, 3) := by decide +kernel
theorem dX3_copy_79 : decode cX3_copy 79 = .ok (.iconst 0, 1) := by decide +kernel
theorem dX3_copy_80 : decode cX3_copy 80 = .ok (.bipush 64, 2) := by decide +kernel
theorem dX3_copy_82 : decode cX3_copy 82 = .ok (.invokestatic 51, 3) := by decide +kernel
theorem dX3_copy_85 : decode cX3_copy 85 = .ok (.aload_n 1, 1) := by decide +kernel
theorem dX3_copy_86 : decode cX3_copy 86 = .ok (.getfield 22, 3) := by decide +kernel
theorem dX3_copy_89 : decode cX3_copy 89 = .ok (.iconst 0, 1) := by decide +kernel
theorem dX3_copy_90 : decode cX3_copy 90 = .ok (.aload_n 0, 1) := by decide +kernel
theorem dX3_copy_91 : decode cX3_copy 91 = .ok (.getfield 22, 3) := by decide +kernel
theorem dX3_copy_94 : decode cX3_copy 94 = .ok (.iconst 0, 1) := by decide +kernel
theorem dX3_copy_95 : decode cX3_copy 95 = .ok (.bipush 64, 2) := by decide +kernel
theorem dX3_copy_97 : decode cX3_copy 97 = .ok (.invokestatic 51, 3) := by decide +kernel
theorem dX3_copy_100 : decode cX3_copy 100 = .ok (.aload_n 1, 1) := by decide +kernel
theorem dX3_copy_101 : decode cX3_copy 101 = .ok (.getfield 25, 3) := by decide +kernel
theorem dX3_copy_104 : decode cX3_copy 104 = .ok (.iconst 0, 1) := by decide +kernel
theorem dX3_copy_105 : decode cX3_copy 105 = .ok (.aload_n 0, 1) := by decide +kernel
theorem dX3_copy_106 : decode cX3_copy 106 = .ok (.getfield 25, 3) := by decide +kernel
theorem dX3_copy_109 : decode cX3_copy 109 = .ok (.iconst 0, 1) := by decide +kernel
theorem dX3_copy_110 : decode cX3_copy 110 = .ok (.bipush 64, 2) := by decide +kernel
theorem dX3_copy_112 : decode cX3_copy 112 = .ok (.invokestatic 51, 3) := by decide +kernel
theorem dX3_copy_115 : decode cX3_copy 115 = .ok (.return_, 1) := by decide +kernel

theorem dX3_lay_0 : decode cX3_lay 0 = .ok (.aload_n 0, 1) := by decide +kernel
theorem dX3_lay_1 : decode cX3_lay 1 = .ok (.dup, 1) := by decide +kernel
theorem dX3_lay_2 : decode cX3_lay 2 = .ok (.getfield 38, 3) := by decide +kernel
theorem dX3_lay_5 : decode cX3_lay 5 = .ok (.iload_n 2, 1) := by decide +kernel
theorem dX3_lay_6 : decode cX3_lay 6 = .ok (.iload_n 3, 1) := by decide +kernel
theorem dX3_lay_7 : decode cX3_lay 7 = .ok (.iadd, 1) := by decide +kernel
theorem dX3_lay_8 : decode cX3_lay 8 = .ok (.aload_n 0, 1) := by decide +kernel
theorem dX3_lay_9 : decode cX3_lay 9 = .ok (.getfield 18, 3) := by decide +kernel
theorem dX3_lay_12 : decode cX3_lay 12 = .ok (.iload_n 1, 1) := by decide +kernel
theorem dX3_lay_13 : decode cX3_lay 13 = .ok (.iaload, 1) := by decide +kernel
theorem dX3_lay_14 : decode cX3_lay 14 = .ok (.isub, 1) := by decide +kernel
theorem dX3_lay_15 : decode cX3_lay 15 = .ok (.aload_n 0, 1) := by decide +kernel
theorem dX3_lay_16 : decode cX3_lay 16 = .ok (.getfield 22, 3) := by decide +kernel
theorem dX3_lay_19 : decode cX3_lay 19 = .ok (.iload_n 1, 1) := by decide +kernel
theorem dX3_lay_20 : decode cX3_lay 20 = .ok (.iaload, 1) := by decide +kernel
theorem dX3_lay_21 : decode cX3_lay 21 = .ok (.isub, 1) := by decide +kernel
theorem dX3_lay_22 : decode cX3_lay 22 = .ok (.iadd, 1) := by decide +kernel
theorem dX3_lay_23 : decode cX3_lay 23 = .ok (.putfield 38, 3) := by decide +kernel
theorem dX3_lay_26 : decode cX3_lay 26 = .ok (.aload_n 0, 1) := by decide +kernel
theorem dX3_lay_27 : decode cX3_lay 27 = .ok (.getfield 18, 3) := by decide +kernel
theorem dX3_lay_30 : decode cX3_lay 30 = .ok (.iload_n 1, 1) := by decide +kernel
theorem dX3_lay_31 : decode cX3_lay 31 = .ok (.iload_n 2, 1) := by decide +kernel
theorem dX3_lay_32 : decode cX3_lay 32 = .ok (.iastore, 1) := by decide +kernel
theorem dX3_lay_33 : decode cX3_lay 33 = .ok (.aload_n 0, 1) := by decide +kernel
theorem dX3_lay_34 : decode cX3_lay 34 = .ok (.getfield 22, 3) := by decide +kernel
theorem dX3_lay_37 : decode cX3_lay 37 = .ok (.iload_n 1, 1) := by decide +kernel
theorem dX3_lay_38 : decode cX3_lay 38 = .ok (.iload_n 3, 1) := by decide +kernel
theorem dX3_lay_39 : decode cX3_lay 39 = .ok (.iastore, 1) := by decide +kernel
theorem dX3_lay_40 : decode cX3_lay 40 = .ok (.aload_n 0, 1) := by decide +kernel
theorem dX3_lay_41 : decode cX3_lay 41 = .ok (.getfield 25, 3) := by decide +kernel
theorem dX3_lay_44 : decode cX3_lay 44 = .ok (.iload_n 1, 1) := by decide +kernel
theorem dX3_lay_45 : decode cX3_lay 45 = .ok (.iconst (-1), 1) := by decide +kernel
theorem dX3_lay_46 : decode cX3_lay 46 = .ok (.iastore, 1) := by decide +kernel
theorem dX3_lay_47 : decode cX3_lay 47 = .ok (.return_, 1) := by decide +kernel

theorem dX3_find_0 : decode cX3_find 0 = .ok (.iload_n 1, 1) := by decide +kernel
theorem dX3_find_1 : decode cX3_find 1 = .ok (.ifCond .lt 23, 3) := by decide +kernel
theorem dX3_find_4 : decode cX3_find 4 = .ok (.iload_n 1, 1) := by decide +kernel
theorem dX3_find_5 : decode cX3_find 5 = .ok (.aload_n 0, 1) := by decide +kernel
theorem dX3_find_6 : decode cX3_find 6 = .ok (.getfield 31, 3) := by decide +kernel
theorem dX3_find_9 : decode cX3_find 9 = .ok (.if_icmp .ge 15, 3) := by decide +kernel
theorem dX3_find_12 : decode cX3_find 12 = .ok (.iload_n 2, 1) := by decide +kernel
theorem dX3_find_13 : decode cX3_find 13 = .ok (.ifCond .lt 11, 3) := by decide +kernel
theorem dX3_find_16 : decode cX3_find 16 = .ok (.iload_n 2, 1) := by decide +kernel
theorem dX3_find_17 : decode cX3_find 17 = .ok (.aload_n 0, 1) := by decide +kernel
theorem dX3_find_18 : decode cX3_find 18 = .ok (.getfield 35, 3) := by decide +kernel
theorem dX3_find_21 : decode cX3_find 21 = .ok (.if_icmp .lt 5, 3) := by decide +kernel
theorem dX3_find_24 : decode cX3_find 24 = .ok (.iconst (-1), 1) := by decide +kernel
theorem dX3_find_25 : decode cX3_find 25 = .ok (.ireturn, 1) := by decide +kernel
theorem dX3_find_26 : decode cX3_find 26 = .ok (.iload_n 1, 1) := by decide +kernel
theorem dX3_find_27 : decode cX3_find 27 = .ok (.bipush 8, 2) := by decide +kernel
theorem dX3_find_29 : decode cX3_find 29 = .ok (.imul, 1) := by decide +kernel
theorem dX3_find_30 : decode cX3_find 30 = .ok (.iload_n 2, 1) := by decide +kernel
theorem dX3_find_31 : decode cX3_find 31 = .ok (.iadd, 1) := by decide +kernel
theorem dX3_find_32 : decode cX3_find 32 = .ok (.ireturn, 1) := by decide +kernel

theorem dX3_next_0 : decode cX3_next 0 = .ok (.iload_n 1, 1) := by decide +kernel
theorem dX3_next_1 : decode cX3_next 1 = .ok (.bipush 8, 2) := by decide +kernel
theorem dX3_next_3 : decode cX3_next 3 = .ok (.idiv, 1) := by decide +kernel
theorem dX3_next_4 : decode cX3_next 4 = .ok (.istore_n 3, 1) := by decide +kernel
theorem dX3_next_5 : decode cX3_next 5 = .ok (.iload_n 1, 1) := by decide +kernel
theorem dX3_next_6 : decode cX3_next 6 = .ok (.bipush 8, 2) := by decide +kernel
theorem dX3_next_8 : decode cX3_next 8 = .ok (.irem, 1) := by decide +kernel
theorem dX3_next_9 : decode cX3_next 9 = .ok (.istore 4, 2) := by decide +kernel
theorem dX3_next_11 : decode cX3_next 11 = .ok (.iload_n 2, 1) := by decide +kernel
theorem dX3_next_12 : decode cX3_next 12 = .ok (.tableswitch 72 0 3 #[32, 42, 52, 62], 32) := by decide +kernel
theorem dX3_next_44 : decode cX3_next 44 = .ok (.aload_n 0, 1) := by decide +kernel
theorem dX3_next_45 : decode cX3_next 45 = .ok (.iload_n 3, 1) := by decide +kernel
theorem dX3_next_46 : decode cX3_next 46 = .ok (.iconst 1, 1) := by decide +kernel
theorem dX3_next_47 : decode cX3_next 47 = .ok (.isub, 1) := by decide +kernel
theorem dX3_next_48 : decode cX3_next 48 = .ok (.iload 4, 2) := by decide +kernel
theorem dX3_next_50 : decode cX3_next 50 = .ok (.invokevirtual 57, 3) := by decide +kernel
theorem dX3_next_53 : decode cX3_next 53 = .ok (.ireturn, 1) := by decide +kernel
theorem dX3_next_54 : decode cX3_next 54 = .ok (.aload_n 0, 1) := by decide +kernel
theorem dX3_next_55 : decode cX3_next 55 = .ok (.iload_n 3, 1) := by decide +kernel
theorem dX3_next_56 : decode cX3_next 56 = .ok (.iload 4, 2) := by decide +kernel
theorem dX3_next_58 : decode cX3_next 58 = .ok (.iconst 1, 1) := by decide +kernel
theorem dX3_next_59 : decode cX3_next 59 = .ok (.iadd, 1) := by decide +kernel
theorem dX3_next_60 : decode cX3_next 60 = .ok (.invokevirtual 57, 3) := by decide +kernel
theorem dX3_next_63 : decode cX3_next 63 = .ok (.ireturn, 1) := by decide +kernel
theorem dX3_next_64 : decode cX3_next 64 = .ok (.aload_n 0, 1) := by decide +kernel
theorem dX3_next_65 : decode cX3_next 65 = .ok (.iload_n 3, 1) := by decide +kernel
theorem dX3_next_66 : decode cX3_next 66 = .ok (.iconst 1, 1) := by decide +kernel
theorem dX3_next_67 : decode cX3_next 67 = .ok (.iadd, 1) := by decide +kernel
theorem dX3_next_68 : decode cX3_next 68 = .ok (.iload 4, 2) := by decide +kernel
theorem dX3_next_70 : decode cX3_next 70 = .ok (.invokevirtual 57, 3) := by decide +kernel
theorem dX3_next_73 : decode cX3_next 73 = .ok (.ireturn, 1) := by decide +kernel
theorem dX3_next_74 : decode cX3_next 74 = .ok (.aload_n 0, 1) := by decide +kernel
theorem dX3_next_75 : decode cX3_next 75 = .ok (.iload_n 3, 1) := by decide +kernel
theorem dX3_next_76 : decode cX3_next 76 = .ok (.iload 4, 2) := by decide +kernel
theorem dX3_next_78 : decode cX3_next 78 = .ok (.iconst 1, 1) := by decide +kernel
theorem dX3_next_79 : decode cX3_next 79 = .ok (.isub, 1) := by decide +kernel
theorem dX3_next_80 : decode cX3_next 80 = .ok (.invokevirtual 57, 3) := by decide +kernel
theorem dX3_next_83 : decode cX3_next 83 = .ok (.ireturn, 1) := by decide +kernel
theorem dX3_next_84 : decode cX3_next 84 = .ok (.iconst (-1), 1) := by decide +kernel
theorem dX3_next_85 : decode cX3_next 85 = .ok (.ireturn, 1) := by decide +kernel

theorem dX3_burden_0 : decode cX3_burden 0 = .ok (.aload_n 0, 1) := by decide +kernel
theorem dX3_burden_1 : decode cX3_burden 1 = .ok (.getfield 25, 3) := by decide +kernel
theorem dX3_burden_4 : decode cX3_burden 4 = .ok (.iload_n 1, 1) := by decide +kernel
theorem dX3_burden_5 : decode cX3_burden 5 = .ok (.iaload, 1) := by decide +kernel
theorem dX3_burden_6 : decode cX3_burden 6 = .ok (.iconst (-1), 1) := by decide +kernel
theorem dX3_burden_7 : decode cX3_burden 7 = .ok (.if_icmp .ne 21, 3) := by decide +kernel
theorem dX3_burden_10 : decode cX3_burden 10 = .ok (.aload_n 0, 1) := by decide +kernel
theorem dX3_burden_11 : decode cX3_burden 11 = .ok (.getfield 18, 3) := by decide +kernel
theorem dX3_burden_14 : decode cX3_burden 14 = .ok (.iload_n 1, 1) := by decide +kernel
theorem dX3_burden_15 : decode cX3_burden 15 = .ok (.iaload, 1) := by decide +kernel
theorem dX3_burden_16 : decode cX3_burden 16 = .ok (.iconst 2, 1) := by decide +kernel
theorem dX3_burden_17 : decode cX3_burden 17 = .ok (.idiv, 1) := by decide +kernel
theorem dX3_burden_18 : decode cX3_burden 18 = .ok (.aload_n 0, 1) := by decide +kernel
theorem dX3_burden_19 : decode cX3_burden 19 = .ok (.getfield 22, 3) := by decide +kernel
theorem dX3_burden_22 : decode cX3_burden 22 = .ok (.iload_n 1, 1) := by decide +kernel
theorem dX3_burden_23 : decode cX3_burden 23 = .ok (.iaload, 1) := by decide +kernel
theorem dX3_burden_24 : decode cX3_burden 24 = .ok (.iadd, 1) := by decide +kernel
theorem dX3_burden_25 : decode cX3_burden 25 = .ok (.goto 4, 3) := by decide +kernel
theorem dX3_burden_28 : decode cX3_burden 28 = .ok (.iconst 0, 1) := by decide +kernel
theorem dX3_burden_29 : decode cX3_burden 29 = .ok (.ireturn, 1) := by decide +kernel

theorem dX3_sumOf_0 : decode cX3_sumOf 0 = .ok (.iconst 0, 1) := by decide +kernel
theorem dX3_sumOf_1 : decode cX3_sumOf 1 = .ok (.istore_n 2, 1) := by decide +kernel
theorem dX3_sumOf_2 : decode cX3_sumOf 2 = .ok (.iconst 0, 1) := by decide +kernel
theorem dX3_sumOf_3 : decode cX3_sumOf 3 = .ok (.istore_n 3, 1) := by decide +kernel
theorem dX3_sumOf_4 : decode cX3_sumOf 4 = .ok (.iload_n 3, 1) := by decide +kernel
theorem dX3_sumOf_5 : decode cX3_sumOf 5 = .ok (.bipush 64, 2) := by decide +kernel
theorem dX3_sumOf_7 : decode cX3_sumOf 7 = .ok (.if_icmp .ge 15, 3) := by decide +kernel
theorem dX3_sumOf_10 : decode cX3_sumOf 10 = .ok (.iload_n 2, 1) := by decide +kernel
theorem dX3_sumOf_11 : decode cX3_sumOf 11 = .ok (.aload_n 1, 1) := by decide +kernel
theorem dX3_sumOf_12 : decode cX3_sumOf 12 = .ok (.iload_n 3, 1) := by decide +kernel
theorem dX3_sumOf_13 : decode cX3_sumOf 13 = .ok (.iaload, 1) := by decide +kernel
theorem dX3_sumOf_14 : decode cX3_sumOf 14 = .ok (.iadd, 1) := by decide +kernel
theorem dX3_sumOf_15 : decode cX3_sumOf 15 = .ok (.istore_n 2, 1) := by decide +kernel
theorem dX3_sumOf_16 : decode cX3_sumOf 16 = .ok (.iinc 3 1, 3) := by decide +kernel
theorem dX3_sumOf_19 : decode cX3_sumOf 19 = .ok (.goto (-15), 3) := by decide +kernel
theorem dX3_sumOf_22 : decode cX3_sumOf 22 = .ok (.iload_n 2, 1) := by decide +kernel
theorem dX3_sumOf_23 : decode cX3_sumOf 23 = .ok (.ireturn, 1) := by decide +kernel

theorem dX3_allLevel_0 : decode cX3_allLevel 0 = .ok (.aload_n 0, 1) := by decide +kernel
theorem dX3_allLevel_1 : decode cX3_allLevel 1 = .ok (.aload_n 0, 1) := by decide +kernel
theorem dX3_allLevel_2 : decode cX3_allLevel 2 = .ok (.getfield 18, 3) := by decide +kernel
theorem dX3_allLevel_5 : decode cX3_allLevel 5 = .ok (.invokevirtual 61, 3) := by decide +kernel
theorem dX3_allLevel_8 : decode cX3_allLevel 8 = .ok (.ireturn, 1) := by decide +kernel

theorem dX3_allRidged_0 : decode cX3_allRidged 0 = .ok (.aload_n 0, 1) := by decide +kernel
theorem dX3_allRidged_1 : decode cX3_allRidged 1 = .ok (.aload_n 0, 1) := by decide +kernel
theorem dX3_allRidged_2 : decode cX3_allRidged 2 = .ok (.getfield 22, 3) := by decide +kernel
theorem dX3_allRidged_5 : decode cX3_allRidged 5 = .ok (.invokevirtual 61, 3) := by decide +kernel
theorem dX3_allRidged_8 : decode cX3_allRidged 8 = .ok (.ireturn, 1) := by decide +kernel

theorem dX3_grow_0 : decode cX3_grow 0 = .ok (.iconst 0, 1) := by decide +kernel
theorem dX3_grow_1 : decode cX3_grow 1 = .ok (.istore_n 2, 1) := by decide +kernel
theorem dX3_grow_2 : decode cX3_grow 2 = .ok (.iload_n 2, 1) := by decide +kernel
theorem dX3_grow_3 : decode cX3_grow 3 = .ok (.aload_n 0, 1) := by decide +kernel
theorem dX3_grow_4 : decode cX3_grow 4 = .ok (.getfield 31, 3) := by decide +kernel
theorem dX3_grow_7 : decode cX3_grow 7 = .ok (.bipush 8, 2) := by decide +kernel
theorem dX3_grow_9 : decode cX3_grow 9 = .ok (.imul, 1) := by decide +kernel
theorem dX3_grow_10 : decode cX3_grow 10 = .ok (.if_icmp .ge 54, 3) := by decide +kernel
theorem dX3_grow_13 : decode cX3_grow 13 = .ok (.aload_n 0, 1) := by decide +kernel
theorem dX3_grow_14 : decode cX3_grow 14 = .ok (.getfield 9, 3) := by decide +kernel
theorem dX3_grow_17 : decode cX3_grow 17 = .ok (.iload_n 2, 1) := by decide +kernel
theorem dX3_grow_18 : decode cX3_grow 18 = .ok (.baload, 1) := by decide +kernel
theorem dX3_grow_19 : decode cX3_grow 19 = .ok (.ifCond .eq 39, 3) := by decide +kernel
theorem dX3_grow_22 : decode cX3_grow 22 = .ok (.bipush 100, 2) := by decide +kernel
theorem dX3_grow_24 : decode cX3_grow 24 = .ok (.aload_n 0, 1) := by decide +kernel
theorem dX3_grow_25 : decode cX3_grow 25 = .ok (.getfield 18, 3) := by decide +kernel
theorem dX3_grow_28 : decode cX3_grow 28 = .ok (.iload_n 2, 1) := by decide +kernel
theorem dX3_grow_29 : decode cX3_grow 29 = .ok (.iaload, 1) := by decide +kernel
theorem dX3_grow_30 : decode cX3_grow 30 = .ok (.isub, 1) := by decide +kernel
theorem dX3_grow_31 : decode cX3_grow 31 = .ok (.iload_n 1, 1) := by decide +kernel
theorem dX3_grow_32 : decode cX3_grow 32 = .ok (.imul, 1) := by decide +kernel
theorem dX3_grow_33 : decode cX3_grow 33 = .ok (.sipush 400, 3) := by decide +kernel
theorem dX3_grow_36 : decode cX3_grow 36 = .ok (.idiv, 1) := by decide +kernel
theorem dX3_grow_37 : decode cX3_grow 37 = .ok (.istore_n 3, 1) := by decide +kernel
theorem dX3_grow_38 : decode cX3_grow 38 = .ok (.aload_n 0, 1) := by decide +kernel
theorem dX3_grow_39 : decode cX3_grow 39 = .ok (.getfield 18, 3) := by decide +kernel
theorem dX3_grow_42 : decode cX3_grow 42 = .ok (.iload_n 2, 1) := by decide +kernel
theorem dX3_grow_43 : decode cX3_grow 43 = .ok (.dup2, 1) := by decide +kernel
theorem dX3_grow_44 : decode cX3_grow 44 = .ok (.iaload, 1) := by decide +kernel
theorem dX3_grow_45 : decode cX3_grow 45 = .ok (.iload_n 3, 1) := by decide +kernel
theorem dX3_grow_46 : decode cX3_grow 46 = .ok (.iadd, 1) := by decide +kernel
theorem dX3_grow_47 : decode cX3_grow 47 = .ok (.iastore, 1) := by decide +kernel
theorem dX3_grow_48 : decode cX3_grow 48 = .ok (.aload_n 0, 1) := by decide +kernel
theorem dX3_grow_49 : decode cX3_grow 49 = .ok (.dup, 1) := by decide +kernel
theorem dX3_grow_50 : decode cX3_grow 50 = .ok (.getfield 41, 3) := by decide +kernel
theorem dX3_grow_53 : decode cX3_grow 53 = .ok (.iload_n 3, 1) := by decide +kernel
theorem dX3_grow_54 : decode cX3_grow 54 = .ok (.iadd, 1) := by decide +kernel
theorem dX3_grow_55 : decode cX3_grow 55 = .ok (.putfield 41, 3) := by decide +kernel
theorem dX3_grow_58 : decode cX3_grow 58 = .ok (.iinc 2 1, 3) := by decide +kernel
theorem dX3_grow_61 : decode cX3_grow 61 = .ok (.goto (-59), 3) := by decide +kernel
theorem dX3_grow_64 : decode cX3_grow 64 = .ok (.return_, 1) := by decide +kernel

theorem dX3_melt_0 : decode cX3_melt 0 = .ok (.iconst 0, 1) := by decide +kernel
theorem dX3_melt_1 : decode cX3_melt 1 = .ok (.istore_n 2, 1) := by decide +kernel
theorem dX3_melt_2 : decode cX3_melt 2 = .ok (.iload_n 2, 1) := by decide +kernel
theorem dX3_melt_3 : decode cX3_melt 3 = .ok (.aload_n 0, 1) := by decide +kernel
theorem dX3_melt_4 : decode cX3_melt 4 = .ok (.getfield 31, 3) := by decide +kernel
theorem dX3_melt_7 : decode cX3_melt 7 = .ok (.bipush 8, 2) := by decide +kernel
theorem dX3_melt_9 : decode cX3_melt 9 = .ok (.imul, 1) := by decide +kernel
theorem dX3_melt_10 : decode cX3_melt 10 = .ok (.if_icmp .ge 79, 3) := by decide +kernel
theorem dX3_melt_13 : decode cX3_melt 13 = .ok (.aload_n 0, 1) := by decide +kernel
theorem dX3_melt_14 : decode cX3_melt 14 = .ok (.getfield 9, 3) := by decide +kernel
theorem dX3_melt_17 : decode cX3_melt 17 = .ok (.iload_n 2, 1) := by decide +kernel
theorem dX3_melt_18 : decode cX3_melt 18 = .ok (.baload, 1) := by decide +kernel
theorem dX3_melt_19 : decode cX3_melt 19 = .ok (.ifCond .eq 64, 3) := by decide +kernel
theorem dX3_melt_22 : decode cX3_melt 22 = .ok (.aload_n 0, 1) := by decide +kernel
theorem dX3_melt_23 : decode cX3_melt 23 = .ok (.getfield 18, 3) := by decide +kernel
theorem dX3_melt_26 : decode cX3_melt 26 = .ok (.iload_n 2, 1) := by decide +kernel
theorem dX3_melt_27 : decode cX3_melt 27 = .ok (.iaload, 1) := by decide +kernel
theorem dX3_melt_28 : decode cX3_melt 28 = .ok (.iload_n 1, 1) := by decide +kernel
theorem dX3_melt_29 : decode cX3_melt 29 = .ok (.imul, 1) := by decide +kernel
theorem dX3_melt_30 : decode cX3_melt 30 = .ok (.sipush 400, 3) := by decide +kernel
theorem dX3_melt_33 : decode cX3_melt 33 = .ok (.idiv, 1) := by decide +kernel
theorem dX3_melt_34 : decode cX3_melt 34 = .ok (.istore_n 3, 1) := by decide +kernel
theorem dX3_melt_35 : decode cX3_melt 35 = .ok (.aload_n 0, 1) := by decide +kernel
theorem dX3_melt_36 : decode cX3_melt 36 = .ok (.getfield 22, 3) := by decide +kernel
theorem dX3_melt_39 : decode cX3_melt 39 = .ok (.iload_n 2, 1) := by decide +kernel
theorem dX3_melt_40 : decode cX3_melt 40 = .ok (.iaload, 1) := by decide +kernel
theorem dX3_melt_41 : decode cX3_melt 41 = .ok (.iload_n 1, 1) := by decide +kernel
theorem dX3_melt_42 : decode cX3_melt 42 = .ok (.imul, 1) := by decide +kernel
theorem dX3_melt_43 : decode cX3_melt 43 = .ok (.sipush 800, 3) := by decide +kernel
theorem dX3_melt_46 : decode cX3_melt 46 = .ok (.idiv, 1) := by decide +kernel
theorem dX3_melt_47 : decode cX3_melt 47 = .ok (.istore 4, 2) := by decide +kernel
theorem dX3_melt_49 : decode cX3_melt 49 = .ok (.aload_n 0, 1) := by decide +kernel
theorem dX3_melt_50 : decode cX3_melt 50 = .ok (.getfield 18, 3) := by decide +kernel
theorem dX3_melt_53 : decode cX3_melt 53 = .ok (.iload_n 2, 1) := by decide +kernel
theorem dX3_melt_54 : decode cX3_melt 54 = .ok (.dup2, 1) := by decide +kernel
theorem dX3_melt_55 : decode cX3_melt 55 = .ok (.iaload, 1) := by decide +kernel
theorem dX3_melt_56 : decode cX3_melt 56 = .ok (.iload_n 3, 1) := by decide +kernel
theorem dX3_melt_57 : decode cX3_melt 57 = .ok (.isub, 1) := by decide +kernel
theorem dX3_melt_58 : decode cX3_melt 58 = .ok (.iastore, 1) := by decide +kernel
theorem dX3_melt_59 : decode cX3_melt 59 = .ok (.aload_n 0, 1) := by decide +kernel
theorem dX3_melt_60 : decode cX3_melt 60 = .ok (.getfield 22, 3) := by decide +kernel
theorem dX3_melt_63 : decode cX3_melt 63 = .ok (.iload_n 2, 1) := by decide +kernel
theorem dX3_melt_64 : decode cX3_melt 64 = .ok (.dup2, 1) := by decide +kernel
theorem dX3_melt_65 : decode cX3_melt 65 = .ok (.iaload, 1) := by decide +kernel
theorem dX3_melt_66 : decode cX3_melt 66 = .ok (.iload 4, 2) := by decide +kernel
theorem dX3_melt_68 : decode cX3_melt 68 = .ok (.isub, 1) := by decide +kernel
theorem dX3_melt_69 : decode cX3_melt 69 = .ok (.iastore, 1) := by decide +kernel
theorem dX3_melt_70 : decode cX3_melt 70 = .ok (.aload_n 0, 1) := by decide +kernel
theorem dX3_melt_71 : decode cX3_melt 71 = .ok (.dup, 1) := by decide +kernel
theorem dX3_melt_72 : decode cX3_melt 72 = .ok (.getfield 44, 3) := by decide +kernel
theorem dX3_melt_75 : decode cX3_melt 75 = .ok (.iload_n 3, 1) := by decide +kernel
theorem dX3_melt_76 : decode cX3_melt 76 = .ok (.iload 4, 2) := by decide +kernel
theorem dX3_melt_78 : decode cX3_melt 78 = .ok (.iadd, 1) := by decide +kernel
theorem dX3_melt_79 : decode cX3_melt 79 = .ok (.iadd, 1) := by decide +kernel
theorem dX3_melt_80 : decode cX3_melt 80 = .ok (.putfield 44, 3) := by decide +kernel
theorem dX3_melt_83 : decode cX3_melt 83 = .ok (.iinc 2 1, 3) := by decide +kernel
theorem dX3_melt_86 : decode cX3_melt 86 = .ok (.goto (-84), 3) := by decide +kernel
theorem dX3_melt_89 : decode cX3_melt 89 = .ok (.return_, 1) := by decide +kernel

theorem dX3_send_0 : decode cX3_send 0 = .ok (.iload_n 2, 1) := by decide +kernel
theorem dX3_send_1 : decode cX3_send 1 = .ok (.iconst (-1), 1) := by decide +kernel
theorem dX3_send_2 : decode cX3_send 2 = .ok (.if_icmp .eq 32, 3) := by decide +kernel
theorem dX3_send_5 : decode cX3_send 5 = .ok (.aload_n 0, 1) := by decide +kernel
theorem dX3_send_6 : decode cX3_send 6 = .ok (.getfield 9, 3) := by decide +kernel
theorem dX3_send_9 : decode cX3_send 9 = .ok (.iload_n 2, 1) := by decide +kernel
theorem dX3_send_10 : decode cX3_send 10 = .ok (.baload, 1) := by decide +kernel
theorem dX3_send_11 : decode cX3_send 11 = .ok (.ifCond .eq 23, 3) := by decide +kernel
theorem dX3_send_14 : decode cX3_send 14 = .ok (.aload_n 0, 1) := by decide +kernel
theorem dX3_send_15 : decode cX3_send 15 = .ok (.getfield 18, 3) := by decide +kernel
theorem dX3_send_18 : decode cX3_send 18 = .ok (.iload_n 1, 1) := by decide +kernel
theorem dX3_send_19 : decode cX3_send 19 = .ok (.dup2, 1) := by decide +kernel
theorem dX3_send_20 : decode cX3_send 20 = .ok (.iaload, 1) := by decide +kernel
theorem dX3_send_21 : decode cX3_send 21 = .ok (.iload_n 3, 1) := by decide +kernel
theorem dX3_send_22 : decode cX3_send 22 = .ok (.isub, 1) := by decide +kernel
theorem dX3_send_23 : decode cX3_send 23 = .ok (.iastore, 1) := by decide +kernel
theorem dX3_send_24 : decode cX3_send 24 = .ok (.aload_n 0, 1) := by decide +kernel
theorem dX3_send_25 : decode cX3_send 25 = .ok (.getfield 28, 3) := by decide +kernel
theorem dX3_send_28 : decode cX3_send 28 = .ok (.iload_n 2, 1) := by decide +kernel
theorem dX3_send_29 : decode cX3_send 29 = .ok (.dup2, 1) := by decide +kernel
theorem dX3_send_30 : decode cX3_send 30 = .ok (.iaload, 1) := by decide +kernel
theorem dX3_send_31 : decode cX3_send 31 = .ok (.iload_n 3, 1) := by decide +kernel
theorem dX3_send_32 : decode cX3_send 32 = .ok (.iadd, 1) := by decide +kernel
theorem dX3_send_33 : decode cX3_send 33 = .ok (.iastore, 1) := by decide +kernel
theorem dX3_send_34 : decode cX3_send 34 = .ok (.return_, 1) := by decide +kernel

theorem dX3_drift_0 : decode cX3_drift 0 = .ok (.aload_n 0, 1) := by decide +kernel
theorem dX3_drift_1 : decode cX3_drift 1 = .ok (.getfield 28, 3) := by decide +kernel
theorem dX3_drift_4 : decode cX3_drift 4 = .ok (.iconst 0, 1) := by decide +kernel
theorem dX3_drift_5 : decode cX3_drift 5 = .ok (.invokestatic 65, 3) := by decide +kernel
theorem dX3_drift_8 : decode cX3_drift 8 = .ok (.iload_n 2, 1) := by decide +kernel
theorem dX3_drift_9 : decode cX3_drift 9 = .ok (.ifCond .gt 4, 3) := by decide +kernel
theorem dX3_drift_12 : decode cX3_drift 12 = .ok (.return_, 1) := by decide +kernel
theorem dX3_drift_13 : decode cX3_drift 13 = .ok (.iconst 0, 1) := by decide +kernel
theorem dX3_drift_14 : decode cX3_drift 14 = .ok (.istore_n 3, 1) := by decide +kernel
theorem dX3_drift_15 : decode cX3_drift 15 = .ok (.iload_n 3, 1) := by decide +kernel
theorem dX3_drift_16 : decode cX3_drift 16 = .ok (.aload_n 0, 1) := by decide +kernel
theorem dX3_drift_17 : decode cX3_drift 17 = .ok (.getfield 31, 3) := by decide +kernel
theorem dX3_drift_20 : decode cX3_drift 20 = .ok (.bipush 8, 2) := by decide +kernel
theorem dX3_drift_22 : decode cX3_drift 22 = .ok (.imul, 1) := by decide +kernel
theorem dX3_drift_23 : decode cX3_drift 23 = .ok (.if_icmp .ge 50, 3) := by decide +kernel
theorem dX3_drift_26 : decode cX3_drift 26 = .ok (.aload_n 0, 1) := by decide +kernel
theorem dX3_drift_27 : decode cX3_drift 27 = .ok (.getfield 9, 3) := by decide +kernel
theorem dX3_drift_30 : decode cX3_drift 30 = .ok (.iload_n 3, 1) := by decide +kernel
theorem dX3_drift_31 : decode cX3_drift 31 = .ok (.baload, 1) := by decide +kernel
theorem dX3_drift_32 : decode cX3_drift 32 = .ok (.ifCond .eq 35, 3) := by decide +kernel
theorem dX3_drift_35 : decode cX3_drift 35 = .ok (.aload_n 0, 1) := by decide +kernel
theorem dX3_drift_36 : decode cX3_drift 36 = .ok (.getfield 15, 3) := by decide +kernel
theorem dX3_drift_39 : decode cX3_drift 39 = .ok (.iload_n 3, 1) := by decide +kernel
theorem dX3_drift_40 : decode cX3_drift 40 = .ok (.baload, 1) := by decide +kernel
theorem dX3_drift_41 : decode cX3_drift 41 = .ok (.ifCond .ne 26, 3) := by decide +kernel
theorem dX3_drift_44 : decode cX3_drift 44 = .ok (.aload_n 0, 1) := by decide +kernel
theorem dX3_drift_45 : decode cX3_drift 45 = .ok (.iload_n 3, 1) := by decide +kernel
theorem dX3_drift_46 : decode cX3_drift 46 = .ok (.aload_n 0, 1) := by decide +kernel
theorem dX3_drift_47 : decode cX3_drift 47 = .ok (.iload_n 3, 1) := by decide +kernel
theorem dX3_drift_48 : decode cX3_drift 48 = .ok (.iload_n 1, 1) := by decide +kernel
theorem dX3_drift_49 : decode cX3_drift 49 = .ok (.invokevirtual 71, 3) := by decide +kernel
theorem dX3_drift_52 : decode cX3_drift 52 = .ok (.aload_n 0, 1) := by decide +kernel
theorem dX3_drift_53 : decode cX3_drift 53 = .ok (.getfield 18, 3) := by decide +kernel
theorem dX3_drift_56 : decode cX3_drift 56 = .ok (.iload_n 3, 1) := by decide +kernel
theorem dX3_drift_57 : decode cX3_drift 57 = .ok (.iaload, 1) := by decide +kernel
theorem dX3_drift_58 : decode cX3_drift 58 = .ok (.iload_n 2, 1) := by decide +kernel
theorem dX3_drift_59 : decode cX3_drift 59 = .ok (.imul, 1) := by decide +kernel
theorem dX3_drift_60 : decode cX3_drift 60 = .ok (.sipush 200, 3) := by decide +kernel
theorem dX3_drift_63 : decode cX3_drift 63 = .ok (.idiv, 1) := by decide +kernel
theorem dX3_drift_64 : decode cX3_drift 64 = .ok (.invokevirtual 74, 3) := by decide +kernel
theorem dX3_drift_67 : decode cX3_drift 67 = .ok (.iinc 3 1, 3) := by decide +kernel
theorem dX3_drift_70 : decode cX3_drift 70 = .ok (.goto (-55), 3) := by decide +kernel
theorem dX3_drift_73 : decode cX3_drift 73 = .ok (.iconst 0, 1) := by decide +kernel
theorem dX3_drift_74 : decode cX3_drift 74 = .ok (.istore_n 3, 1) := by decide +kernel
theorem dX3_drift_75 : decode cX3_drift 75 = .ok (.iload_n 3, 1) := by decide +kernel
theorem dX3_drift_76 : decode cX3_drift 76 = .ok (.aload_n 0, 1) := by decide +kernel
theorem dX3_drift_77 : decode cX3_drift 77 = .ok (.getfield 31, 3) := by decide +kernel
theorem dX3_drift_80 : decode cX3_drift 80 = .ok (.bipush 8, 2) := by decide +kernel
theorem dX3_drift_82 : decode cX3_drift 82 = .ok (.imul, 1) := by decide +kernel
theorem dX3_drift_83 : decode cX3_drift 83 = .ok (.if_icmp .ge 55, 3) := by decide +kernel
theorem dX3_drift_86 : decode cX3_drift 86 = .ok (.aload_n 0, 1) := by decide +kernel
theorem dX3_drift_87 : decode cX3_drift 87 = .ok (.getfield 18, 3) := by decide +kernel
theorem dX3_drift_90 : decode cX3_drift 90 = .ok (.iload_n 3, 1) := by decide +kernel
theorem dX3_drift_91 : decode cX3_drift 91 = .ok (.iaload, 1) := by decide +kernel
theorem dX3_drift_92 : decode cX3_drift 92 = .ok (.aload_n 0, 1) := by decide +kernel
theorem dX3_drift_93 : decode cX3_drift 93 = .ok (.getfield 28, 3) := by decide +kernel
theorem dX3_drift_96 : decode cX3_drift 96 = .ok (.iload_n 3, 1) := by decide +kernel
theorem dX3_drift_97 : decode cX3_drift 97 = .ok (.iaload, 1) := by decide +kernel
theorem dX3_drift_98 : decode cX3_drift 98 = .ok (.iadd, 1) := by decide +kernel
theorem dX3_drift_99 : decode cX3_drift 99 = .ok (.istore 4, 2) := by decide +kernel
theorem dX3_drift_101 : decode cX3_drift 101 = .ok (.aload_n 0, 1) := by decide +kernel
theorem dX3_drift_102 : decode cX3_drift 102 = .ok (.getfield 18, 3) := by decide +kernel
theorem dX3_drift_105 : decode cX3_drift 105 = .ok (.iload_n 3, 1) := by decide +kernel
theorem dX3_drift_106 : decode cX3_drift 106 = .ok (.iload 4, 2) := by decide +kernel
theorem dX3_drift_108 : decode cX3_drift 108 = .ok (.bipush 100, 2) := by decide +kernel
theorem dX3_drift_110 : decode cX3_drift 110 = .ok (.invokestatic 78, 3) := by decide +kernel
theorem dX3_drift_113 : decode cX3_drift 113 = .ok (.iastore, 1) := by decide +kernel
theorem dX3_drift_114 : decode cX3_drift 114 = .ok (.aload_n 0, 1) := by decide +kernel
theorem dX3_drift_115 : decode cX3_drift 115 = .ok (.getfield 22, 3) := by decide +kernel
theorem dX3_drift_118 : decode cX3_drift 118 = .ok (.iload_n 3, 1) := by decide +kernel
theorem dX3_drift_119 : decode cX3_drift 119 = .ok (.dup2, 1) := by decide +kernel
theorem dX3_drift_120 : decode cX3_drift 120 = .ok (.iaload, 1) := by decide +kernel
theorem dX3_drift_121 : decode cX3_drift 121 = .ok (.iload 4, 2) := by decide +kernel
theorem dX3_drift_123 : decode cX3_drift 123 = .ok (.aload_n 0, 1) := by decide +kernel
theorem dX3_drift_124 : decode cX3_drift 124 = .ok (.getfield 18, 3) := by decide +kernel
theorem dX3_drift_127 : decode cX3_drift 127 = .ok (.iload_n 3, 1) := by decide +kernel
theorem dX3_drift_128 : decode cX3_drift 128 = .ok (.iaload, 1) := by decide +kernel
theorem dX3_drift_129 : decode cX3_drift 129 = .ok (.isub, 1) := by decide +kernel
theorem dX3_drift_130 : decode cX3_drift 130 = .ok (.iadd, 1) := by decide +kernel
theorem dX3_drift_131 : decode cX3_drift 131 = .ok (.iastore, 1) := by decide +kernel
theorem dX3_drift_132 : decode cX3_drift 132 = .ok (.iinc 3 1, 3) := by decide +kernel
theorem dX3_drift_135 : decode cX3_drift 135 = .ok (.goto (-60), 3) := by decide +kernel
theorem dX3_drift_138 : decode cX3_drift 138 = .ok (.return_, 1) := by decide +kernel

theorem dX3_closeChannels_0 : decode cX3_closeChannels 0 = .ok (.iconst 0, 1) := by decide +kernel
theorem dX3_closeChannels_1 : decode cX3_closeChannels 1 = .ok (.istore_n 2, 1) := by decide +kernel
theorem dX3_closeChannels_2 : decode cX3_closeChannels 2 = .ok (.iload_n 2, 1) := by decide +kernel
theorem dX3_closeChannels_3 : decode cX3_closeChannels 3 = .ok (.aload_n 0, 1) := by decide +kernel
theorem dX3_closeChannels_4 : decode cX3_closeChannels 4 = .ok (.getfield 31, 3) := by decide +kernel
theorem dX3_closeChannels_7 : decode cX3_closeChannels 7 = .ok (.bipush 8, 2) := by decide +kernel
theorem dX3_closeChannels_9 : decode cX3_closeChannels 9 = .ok (.imul, 1) := by decide +kernel
theorem dX3_closeChannels_10 : decode cX3_closeChannels 10 = .ok (.if_icmp .ge 35, 3) := by decide +kernel
theorem dX3_closeChannels_13 : decode cX3_closeChannels 13 = .ok (.aload_n 0, 1) := by decide +kernel
theorem dX3_closeChannels_14 : decode cX3_closeChannels 14 = .ok (.getfield 28, 3) := by decide +kernel
theorem dX3_closeChannels_17 : decode cX3_closeChannels 17 = .ok (.iload_n 2, 1) := by decide +kernel
theorem dX3_closeChannels_18 : decode cX3_closeChannels 18 = .ok (.iaload, 1) := by decide +kernel
theorem dX3_closeChannels_19 : decode cX3_closeChannels 19 = .ok (.ifCond .gt 13, 3) := by decide +kernel
theorem dX3_closeChannels_22 : decode cX3_closeChannels 22 = .ok (.aload_n 0, 1) := by decide +kernel
theorem dX3_closeChannels_23 : decode cX3_closeChannels 23 = .ok (.getfield 25, 3) := by decide +kernel
theorem dX3_closeChannels_26 : decode cX3_closeChannels 26 = .ok (.iload_n 2, 1) := by decide +kernel
theorem dX3_closeChannels_27 : decode cX3_closeChannels 27 = .ok (.iaload, 1) := by decide +kernel
theorem dX3_closeChannels_28 : decode cX3_closeChannels 28 = .ok (.iload_n 1, 1) := by decide +kernel
theorem dX3_closeChannels_29 : decode cX3_closeChannels 29 = .ok (.if_icmp .gt 10, 3) := by decide +kernel
theorem dX3_closeChannels_32 : decode cX3_closeChannels 32 = .ok (.aload_n 0, 1) := by decide +kernel
theorem dX3_closeChannels_33 : decode cX3_closeChannels 33 = .ok (.getfield 25, 3) := by decide +kernel
theorem dX3_closeChannels_36 : decode cX3_closeChannels 36 = .ok (.iload_n 2, 1) := by decide +kernel
theorem dX3_closeChannels_37 : decode cX3_closeChannels 37 = .ok (.iconst (-1), 1) := by decide +kernel
theorem dX3_closeChannels_38 : decode cX3_closeChannels 38 = .ok (.iastore, 1) := by decide +kernel
theorem dX3_closeChannels_39 : decode cX3_closeChannels 39 = .ok (.iinc 2 1, 3) := by decide +kernel
theorem dX3_closeChannels_42 : decode cX3_closeChannels 42 = .ok (.goto (-40), 3) := by decide +kernel
theorem dX3_closeChannels_45 : decode cX3_closeChannels 45 = .ok (.return_, 1) := by decide +kernel

/-! J7_fill_53178 -/
def wJ7_fill_53178_5 (Q : (Nat → Int32) → Prop)  (n_p0 : Nat) : Nat → Int32 → Int32 → Int32 → (Nat → Int32) → Prop
  | 0, _, _, _, _ => False
  | n + 1, x1, x2, x3, r_p0 => ((x3 ≤ x2 → (Q r_p0)) ∧ (¬ x3 ≤ x2 → (vp_in x2 n_p0 ∧ (wJ7_fill_53178_5 Q n_p0 n x1 (x2 + (1 : Int32)) x3 (upd r_p0 x2.toNatClampNeg x1)))))
def wJ7_fill_53178 (Q : (Nat → Int32) → Prop) (x1 : Int32) (n_p0 : Nat) (r_p0 : Nat → Int32) : Prop :=
  (∃ j_, wJ7_fill_53178_5 Q n_p0 j_ x1 (0 : Int32) (Int32.ofNat n_p0) r_p0)
abbrev vJ7_fill_53178 (cI cZ : ClassId) (h_p0 : Nat) (n_p0 : Nat) (r_p0 : Nat → Int32) : va_W := [(h_p0, .inl (cI, n_p0, .inl r_p0))]
abbrev rmJ7_fill_53178 : Room := { frames := 0, cells := 0, slots := 0, locals := 0 }
abbrev qJ7_fill_53178 (dC : Nat → ClassId) (dI : Nat → Nat → Nat) (cI cZ cO cW : ClassId) (h_p0 : Nat) (n_p0 : Nat) (Q : (Nat → Int32) → Prop) (A : Nat → Prop) : Array Value → State → Outcome → State → Prop := va_Qv (fun (u : (Nat → Int32)) => Q u) (fun (u : (Nat → Int32)) (t : State) => va_P (dC, dI) vwCl (vJ7_fill_53178 cI cZ h_p0 n_p0 u) t.heap ∧ va_K (dC, dI) vwCl (tysA cI cZ cO cW) t ∧ va_D A (vJ7_fill_53178 cI cZ h_p0 n_p0 u)) A
def zsJ7_fill_53178 : List Cond := Cond.code yJ7_fill_53178 cJ7_fill_53178 4 none :: GW
set_option maxHeartbeats 4000000 in
set_option maxRecDepth 100000 in
theorem tJ7_fill_53178_5 {p : Program} {l : Launch} {e : Env} {s : State} {m : MethodId} {args : Array Value} {below : List Frame} {meth : Method} {c : Code} {dC : Nat → ClassId} {dI : Nat → Nat → Nat} {cI cZ cO cW : ClassId} {A : Nat → Prop} {h_p0 : Nat} {n_p0 : Nat} {Q : (Nat → Int32) → Prop}  (hC : Cx p s m args meth c cJ7_fill_53178 none 4 GW RJ7) (hK : va_K (dC, dI) vwCl (tysA cI cZ cO cW) s) (hA : ∀ q : Nat, s.heap.size ≤ q → A q) :
    ∀ (n : Nat) (x1 : Int32) (x2 : Int32) (x3 : Int32) (r_p0 : (Nat → Int32)) (H : Heap) (locs : List Loc) (ls : Array Slot), wJ7_fill_53178_5 Q n_p0 n x1 x2 x3 r_p0 → va_P (dC, dI) vwCl (vJ7_fill_53178 cI cZ h_p0 n_p0 r_p0) H → va_D A (vJ7_fill_53178 cI cZ h_p0 n_p0 r_p0) → va_S A s.heap H locs → lv_has ls 4 [(0, .ref h_p0), (1, .int x1), (2, .int x2), (3, .int x3)] → W p l e rmJ7_fill_53178 s m args below meth c H locs 0 0 (MQ below (qJ7_fill_53178 dC dI cI cZ cO cW h_p0 n_p0 Q A) args s 0 0 A) (F0 m 5 ls []) := by
  obtain ⟨hx, hb, hr, hml, hown, hts, hlocks⟩ := id hC
  intro n
  induction n with
  | zero =>
    intro  x1 x2 x3 r_p0 H locs ls hw
    exact hw.elim
  | succ n ih =>
    intro  x1 x2 x3 r_p0 H locs ls hw hP hD hS hl
    refine lv_iload_n hx hb dJ7_fill_53178_5 rfl (lv_at hl 2 rfl) ?_
    refine lv_iload_n hx hb dJ7_fill_53178_6 rfl (lv_at hl 3 rfl) ?_
    refine lv_icmp_ge (tgt := 20) hx hb dJ7_fill_53178_7 (by decide) (fun c_1 => ?_) (fun c_1 => ?_)
    · have hw := hw.1 c_1
      have hP9 := hP.sub (ws' := (vJ7_fill_53178 cI cZ h_p0 n_p0 r_p0)) [0] rfl
      have hD9 := hD.sub (ws' := (vJ7_fill_53178 cI cZ h_p0 n_p0 r_p0)) [0] (by decide) rfl
      exact W.vret hx hb hr (fun t ht hW => ⟨⟨r_p0, rfl, hw, by rw [ht]; exact hP9, va_K.moved hW.alike hK, hD9⟩, hS.F ht⟩) hS.2.2 dJ7_fill_53178_20
    · have hw := hw.2 c_1
      refine lv_aload_n hx hb dJ7_fill_53178_10 rfl (lv_at hl 0 rfl) ?_
      refine lv_iload_n hx hb dJ7_fill_53178_11 rfl (lv_at hl 2 rfl) ?_
      refine lv_iload_n hx hb dJ7_fill_53178_12 rfl (lv_at hl 1 rfl) ?_
      obtain ⟨h_2, hw⟩ := hw
      refine va_iast hx hb hK hP hD hS 0 0 rfl rfl h_2 dJ7_fill_53178_13 (fun H locs hP hD hS => ?_)
      have hP : va_P (dC, dI) vwCl [(h_p0, .inl (cI, n_p0, .inl (upd r_p0 x2.toNatClampNeg x1)))] _ := hP
      have hD : va_D A [(h_p0, .inl (cI, n_p0, .inl (upd r_p0 x2.toNatClampNeg x1)))] := hD
      refine lv_iinc (v := (x2 + (1 : Int32))) (lv' := [(2, .int (x2 + (1 : Int32))), (0, .ref h_p0), (1, .int x1), (3, .int x3)]) hx hb dJ7_fill_53178_14 hl (k := 2) rfl rfl (by decide) rfl (fun ls hl => ?_)
      refine lv_goto (tgt := 5) hx hb dJ7_fill_53178_17 (by decide) ?_
      exact ih x1 (x2 + (1 : Int32)) x3 (upd r_p0 x2.toNatClampNeg x1) _ _ ls hw (hP.sub [0] rfl) (hD.sub [0] (by decide) rfl) hS (lv_sub hl [1, 2, 0, 3] rfl)
set_option maxHeartbeats 4000000 in
set_option maxRecDepth 100000 in
theorem tJ7_fill_53178_e {p : Program} {l : Launch} {e : Env} {s : State} {m : MethodId} {args : Array Value} {below : List Frame} {meth : Method} {c : Code} {dC : Nat → ClassId} {dI : Nat → Nat → Nat} {cI cZ cO cW : ClassId} {A : Nat → Prop} {h_p0 : Nat} {n_p0 : Nat} {Q : (Nat → Int32) → Prop} (hC : Cx p s m args meth c cJ7_fill_53178 none 4 GW RJ7) (hK : va_K (dC, dI) vwCl (tysA cI cZ cO cW) s) (hA : ∀ q : Nat, s.heap.size ≤ q → A q) :
    ∀ (x1 : Int32) (r_p0 : Nat → Int32) (H : Heap) (locs : List Loc) (ls : Array Slot), wJ7_fill_53178 Q x1 n_p0 r_p0 → va_P (dC, dI) vwCl (vJ7_fill_53178 cI cZ h_p0 n_p0 r_p0) H → va_D A (vJ7_fill_53178 cI cZ h_p0 n_p0 r_p0) → va_S A s.heap H locs → lv_has ls 4 [(0, .ref h_p0), (1, .int x1)] → W p l e rmJ7_fill_53178 s m args below meth c H locs 0 0 (MQ below (qJ7_fill_53178 dC dI cI cZ cO cW h_p0 n_p0 Q A) args s 0 0 A) (F0 m 0 ls []) := by
  obtain ⟨hx, hb, hr, hml, hown, hts, hlocks⟩ := id hC
  intro x1 r_p0 H locs ls hw hP hD hS hl
  refine lv_iconst (v := (0 : Int32)) hx hb dJ7_fill_53178_0 (by decide) ?_
  refine lv_istore_n (lv' := [(2, .int (0 : Int32)), (0, .ref h_p0), (1, .int x1)]) hx hb dJ7_fill_53178_1 rfl hl (by decide) rfl (fun ls hl => ?_)
  refine lv_aload_n hx hb dJ7_fill_53178_2 rfl (lv_at hl 1 rfl) ?_
  refine va_alen (v := (Int32.ofNat n_p0)) hx hb hK hP 0 0 rfl rfl rfl dJ7_fill_53178_3 ?_
  refine lv_istore_n (lv' := [(3, .int (Int32.ofNat n_p0)), (2, .int (0 : Int32)), (0, .ref h_p0), (1, .int x1)]) hx hb dJ7_fill_53178_4 rfl hl (by decide) rfl (fun ls hl => ?_)
  obtain ⟨n_3, hw⟩ := hw
  exact tJ7_fill_53178_5 hC hK hA  n_3 x1 (0 : Int32) (Int32.ofNat n_p0) r_p0 _ _ ls hw (hP.sub [0] rfl) (hD.sub [0] (by decide) rfl) hS (lv_sub hl [2, 3, 1, 0] rfl)
set_option maxHeartbeats 4000000 in
set_option maxRecDepth 100000 in
theorem kJ7_fill_53178 (l : Launch) (dC : Nat → ClassId) (dI : Nat → Nat → Nat) (cI cZ cO cW : ClassId) (h_p0 : Nat)  (sz : Nat) (n_p0 : Nat) (r_p0 : Nat → Int32) (x1 : Int32) (Q : (Nat → Int32) → Prop) (hw : wJ7_fill_53178 Q x1 n_p0 r_p0) : Met l yJ7_fill_53178 zsJ7_fill_53178 rmJ7_fill_53178 (va_Pc [.ref h_p0, .int x1] (fun U => U.heap.size = sz ∧ va_P (dC, dI) vwCl (vJ7_fill_53178 cI cZ h_p0 n_p0 r_p0) U.heap ∧ va_K (dC, dI) vwCl (tysA cI cZ cO cW) U ∧ va_D (fun _ => True) (vJ7_fill_53178 cI cZ h_p0 n_p0 r_p0))) (qJ7_fill_53178 dC dI cI cZ cO cW h_p0 n_p0 Q (va_A (vJ7_fill_53178 cI cZ h_p0 n_p0 r_p0) sz)) 0 0 (va_A (vJ7_fill_53178 cI cZ h_p0 n_p0 r_p0) sz) := by
  refine Met.ofW (cc := cJ7_fill_53178) (maxL := 4) (ret := none) (by decide) rfl ?_
  intro p e s m args below meth c s₁ B hml hv
  obtain ⟨rfl, hsz, hP, hK, hD0⟩ := hv
  subst hsz
  have hC : Cx p s m ([.ref h_p0, .int x1] : List Value).toArray meth c cJ7_fill_53178 none 4 GW RJ7 := ⟨B.exec, B.bytes, B.returns, hml, findClass_of_methodNamed B.named, fun w h => atoms_spec (ws := zsJ7_fill_53178) B.pre w (List.mem_cons_of_mem _ h), B.notSynchronized⟩
  have hD := hD0.self (sz := s.heap.size)
  generalize hAe : va_A (vJ7_fill_53178 cI cZ h_p0 n_p0 r_p0) s.heap.size = A at hD ⊢
  have hA : ∀ q : Nat, s.heap.size ≤ q → A q := fun q h => by rw [← hAe]; exact Or.inr h
  have hl := lv_entry ([.ref h_p0, .int x1]) (n := 4) (Nat.le_of_ble_eq_true rfl)
  rw [lg_entry_eq]
  generalize (lg_sl ([.ref h_p0, .int x1]) ++ List.replicate (4 - (lg_sl ([.ref h_p0, .int x1])).length) Slot.unset).toArray = ls at hl ⊢
  exact tJ7_fill_53178_e hC hK hA x1 r_p0 _ _ ls hw hP hD va_S.rf hl

/-! X3_empty -/
def wX3_empty (Q : (Nat → Int32) → (Nat → Int32) → (Nat → Int32) → (Nat → Int32) → (Nat → Int32) → Prop) (x1 : Int32) (x2 : Int32) (r_channel : Nat → Int32) (r_fast : Nat → Int32) (r_level : Nat → Int32) (r_ridged : Nat → Int32) (r_sea : Nat → Int32) : Prop :=
  (vp_in x1 64 ∧ (vp_in x1 64 ∧ (vp_in x1 64 ∧ (vp_in x1 64 ∧ (vp_in x1 64 ∧ (Q (upd r_channel x1.toNatClampNeg (-1 : Int32)) (upd r_fast x1.toNatClampNeg (vp_nar .boolean (0 : Int32))) (upd r_level x1.toNatClampNeg (0 : Int32)) (upd r_ridged x1.toNatClampNeg (0 : Int32)) (upd r_sea x1.toNatClampNeg (vp_nar .boolean x2))))))))
abbrev vX3_empty (cI cZ : ClassId) (h h_sea h_fast h_level h_ridged h_channel h_arrived : Nat) (f_rows : Int32) (f_columns : Int32) (f_laid : Int32) (f_grown : Int32) (f_melted : Int32) (r_channel : Nat → Int32) (r_fast : Nat → Int32) (r_level : Nat → Int32) (r_ridged : Nat → Int32) (r_sea : Nat → Int32) : va_W := [(h, .inr (3, [.ref h_sea, .ref h_fast, .ref h_level, .ref h_ridged, .ref h_channel, .ref h_arrived, .int f_rows, .int f_columns, .int f_laid, .int f_grown, .int f_melted])), (h_channel, .inl (cI, 64, .inl r_channel)), (h_fast, .inl (cZ, 64, .inl r_fast)), (h_level, .inl (cI, 64, .inl r_level)), (h_ridged, .inl (cI, 64, .inl r_ridged)), (h_sea, .inl (cZ, 64, .inl r_sea))]
abbrev rmX3_empty : Room := { frames := 0, cells := 0, slots := 0, locals := 0 }
abbrev qX3_empty (dC : Nat → ClassId) (dI : Nat → Nat → Nat) (cI cZ cO cW : ClassId) (h h_sea h_fast h_level h_ridged h_channel h_arrived : Nat) (f_rows : Int32) (f_columns : Int32) (f_laid : Int32) (f_grown : Int32) (f_melted : Int32) (Q : (Nat → Int32) → (Nat → Int32) → (Nat → Int32) → (Nat → Int32) → (Nat → Int32) → Prop) (A : Nat → Prop) : Array Value → State → Outcome → State → Prop := va_Qv (fun (u : (Nat → Int32) × (Nat → Int32) × (Nat → Int32) × (Nat → Int32) × (Nat → Int32)) => Q u.1 u.2.1 u.2.2.1 u.2.2.2.1 u.2.2.2.2) (fun (u : (Nat → Int32) × (Nat → Int32) × (Nat → Int32) × (Nat → Int32) × (Nat → Int32)) (t : State) => va_P (dC, dI) vwCl (vX3_empty cI cZ h h_sea h_fast h_level h_ridged h_channel h_arrived f_rows f_columns f_laid f_grown f_melted u.1 u.2.1 u.2.2.1 u.2.2.2.1 u.2.2.2.2) t.heap ∧ va_K (dC, dI) vwCl (tysA cI cZ cO cW) t ∧ va_D A (vX3_empty cI cZ h h_sea h_fast h_level h_ridged h_channel h_arrived f_rows f_columns f_laid f_grown f_melted u.1 u.2.1 u.2.2.1 u.2.2.2.1 u.2.2.2.2)) A
def zsX3_empty : List Cond := Cond.code yX3_empty cX3_empty 3 none :: GW
set_option maxHeartbeats 4000000 in
set_option maxRecDepth 100000 in
theorem tX3_empty_e {p : Program} {l : Launch} {e : Env} {s : State} {m : MethodId} {args : Array Value} {below : List Frame} {meth : Method} {c : Code} {dC : Nat → ClassId} {dI : Nat → Nat → Nat} {cI cZ cO cW : ClassId} {A : Nat → Prop} {h h_sea h_fast h_level h_ridged h_channel h_arrived : Nat} {f_rows f_columns f_laid f_grown f_melted : Int32} {Q : (Nat → Int32) → (Nat → Int32) → (Nat → Int32) → (Nat → Int32) → (Nat → Int32) → Prop} (hC : Cx p s m args meth c cX3_empty none 3 GW RX3) (hK : va_K (dC, dI) vwCl (tysA cI cZ cO cW) s) (hA : ∀ q : Nat, s.heap.size ≤ q → A q) :
    ∀ (x1 : Int32) (x2 : Int32) (r_channel : Nat → Int32) (r_fast : Nat → Int32) (r_level : Nat → Int32) (r_ridged : Nat → Int32) (r_sea : Nat → Int32) (H : Heap) (locs : List Loc) (ls : Array Slot), wX3_empty Q x1 x2 r_channel r_fast r_level r_ridged r_sea → va_P (dC, dI) vwCl (vX3_empty cI cZ h h_sea h_fast h_level h_ridged h_channel h_arrived f_rows f_columns f_laid f_grown f_melted r_channel r_fast r_level r_ridged r_sea) H → va_D A (vX3_empty cI cZ h h_sea h_fast h_level h_ridged h_channel h_arrived f_rows f_columns f_laid f_grown f_melted r_channel r_fast r_level r_ridged r_sea) → va_S A s.heap H locs → lv_has ls 3 [(0, .ref h), (1, .int x1), (2, .int x2)] → W p l e rmX3_empty s m args below meth c H locs 0 0 (MQ below (qX3_empty dC dI cI cZ cO cW h h_sea h_fast h_level h_ridged h_channel h_arrived f_rows f_columns f_laid f_grown f_melted Q A) args s 0 0 A) (F0 m 0 ls []) := by
  obtain ⟨hx, hb, hr, hml, hown, hts, hlocks⟩ := id hC
  intro x1 x2 r_channel r_fast r_level r_ridged r_sea H locs ls hw hP hD hS hl
  refine lv_aload_n hx hb dX3_empty_0 rfl (lv_at hl 0 rfl) ?_
  refine va_get (D := (dC, dI)) (ci := 3) (v := .ref h_sea) (C := RX3) (T := TX3) (N := 11) hx hb hts gu_X3 hown hK hP 0 rfl rfl 0 (by decide) (hts _ gw_75) (fun _ h9 => h9) rfl dX3_empty_1 ?_
  refine lv_iload_n hx hb dX3_empty_4 rfl (lv_at hl 1 rfl) ?_
  refine lv_iload_n hx hb dX3_empty_5 rfl (lv_at hl 2 rfl) ?_
  obtain ⟨h_1, hw⟩ := hw
  refine va_zast hx hb hK hP hD hS 5 1 rfl rfl h_1 dX3_empty_6 (fun H locs hP hD hS => ?_)
  have hP : va_P (dC, dI) vwCl [(h, .inr (3, [.ref h_sea, .ref h_fast, .ref h_level, .ref h_ridged, .ref h_channel, .ref h_arrived, .int f_rows, .int f_columns, .int f_laid, .int f_grown, .int f_melted])), (h_channel, .inl (cI, 64, .inl r_channel)), (h_fast, .inl (cZ, 64, .inl r_fast)), (h_level, .inl (cI, 64, .inl r_level)), (h_ridged, .inl (cI, 64, .inl r_ridged)), (h_sea, .inl (cZ, 64, .inl (upd r_sea x1.toNatClampNeg (vp_nar .boolean x2))))] _ := hP
  have hD : va_D A [(h, .inr (3, [.ref h_sea, .ref h_fast, .ref h_level, .ref h_ridged, .ref h_channel, .ref h_arrived, .int f_rows, .int f_columns, .int f_laid, .int f_grown, .int f_melted])), (h_channel, .inl (cI, 64, .inl r_channel)), (h_fast, .inl (cZ, 64, .inl r_fast)), (h_level, .inl (cI, 64, .inl r_level)), (h_ridged, .inl (cI, 64, .inl r_ridged)), (h_sea, .inl (cZ, 64, .inl (upd r_sea x1.toNatClampNeg (vp_nar .boolean x2))))] := hD
  refine lv_aload_n hx hb dX3_empty_7 rfl (lv_at hl 0 rfl) ?_
  refine va_get (D := (dC, dI)) (ci := 3) (v := .ref h_fast) (C := RX3) (T := TX3) (N := 11) hx hb hts gu_X3 hown hK hP 0 rfl rfl 1 (by decide) (hts _ gw_76) (fun _ h9 => h9) rfl dX3_empty_8 ?_
  refine lv_iload_n hx hb dX3_empty_11 rfl (lv_at hl 1 rfl) ?_
  refine lv_iconst (v := (0 : Int32)) hx hb dX3_empty_12 (by decide) ?_
  obtain ⟨h_2, hw⟩ := hw
  refine va_zast hx hb hK hP hD hS 2 1 rfl rfl h_2 dX3_empty_13 (fun H locs hP hD hS => ?_)
  have hP : va_P (dC, dI) vwCl [(h, .inr (3, [.ref h_sea, .ref h_fast, .ref h_level, .ref h_ridged, .ref h_channel, .ref h_arrived, .int f_rows, .int f_columns, .int f_laid, .int f_grown, .int f_melted])), (h_channel, .inl (cI, 64, .inl r_channel)), (h_fast, .inl (cZ, 64, .inl (upd r_fast x1.toNatClampNeg (vp_nar .boolean (0 : Int32))))), (h_level, .inl (cI, 64, .inl r_level)), (h_ridged, .inl (cI, 64, .inl r_ridged)), (h_sea, .inl (cZ, 64, .inl (upd r_sea x1.toNatClampNeg (vp_nar .boolean x2))))] _ := hP
  have hD : va_D A [(h, .inr (3, [.ref h_sea, .ref h_fast, .ref h_level, .ref h_ridged, .ref h_channel, .ref h_arrived, .int f_rows, .int f_columns, .int f_laid, .int f_grown, .int f_melted])), (h_channel, .inl (cI, 64, .inl r_channel)), (h_fast, .inl (cZ, 64, .inl (upd r_fast x1.toNatClampNeg (vp_nar .boolean (0 : Int32))))), (h_level, .inl (cI, 64, .inl r_level)), (h_ridged, .inl (cI, 64, .inl r_ridged)), (h_sea, .inl (cZ, 64, .inl (upd r_sea x1.toNatClampNeg (vp_nar .boolean x2))))] := hD
  refine lv_aload_n hx hb dX3_empty_14 rfl (lv_at hl 0 rfl) ?_
  refine va_get (D := (dC, dI)) (ci := 3) (v := .ref h_level) (C := RX3) (T := TX3) (N := 11) hx hb hts gu_X3 hown hK hP 0 rfl rfl 2 (by decide) (hts _ gw_77) (fun _ h9 => h9) rfl dX3_empty_15 ?_
  refine lv_iload_n hx hb dX3_empty_18 rfl (lv_at hl 1 rfl) ?_
  refine lv_iconst (v := (0 : Int32)) hx hb dX3_empty_19 (by decide) ?_
  obtain ⟨h_3, hw⟩ := hw
  refine va_iast hx hb hK hP hD hS 3 0 rfl rfl h_3 dX3_empty_20 (fun H locs hP hD hS => ?_)
  have hP : va_P (dC, dI) vwCl [(h, .inr (3, [.ref h_sea, .ref h_fast, .ref h_level, .ref h_ridged, .ref h_channel, .ref h_arrived, .int f_rows, .int f_columns, .int f_laid, .int f_grown, .int f_melted])), (h_channel, .inl (cI, 64, .inl r_channel)), (h_fast, .inl (cZ, 64, .inl (upd r_fast x1.toNatClampNeg (vp_nar .boolean (0 : Int32))))), (h_level, .inl (cI, 64, .inl (upd r_level x1.toNatClampNeg (0 : Int32)))), (h_ridged, .inl (cI, 64, .inl r_ridged)), (h_sea, .inl (cZ, 64, .inl (upd r_sea x1.toNatClampNeg (vp_nar .boolean x2))))] _ := hP
  have hD : va_D A [(h, .inr (3, [.ref h_sea, .ref h_fast, .ref h_level, .ref h_ridged, .ref h_channel, .ref h_arrived, .int f_rows, .int f_columns, .int f_laid, .int f_grown, .int f_melted])), (h_channel, .inl (cI, 64, .inl r_channel)), (h_fast, .inl (cZ, 64, .inl (upd r_fast x1.toNatClampNeg (vp_nar .boolean (0 : Int32))))), (h_level, .inl (cI, 64, .inl (upd r_level x1.toNatClampNeg (0 : Int32)))), (h_ridged, .inl (cI, 64, .inl r_ridged)), (h_sea, .inl (cZ, 64, .inl (upd r_sea x1.toNatClampNeg (vp_nar .boolean x2))))] := hD
  refine lv_aload_n hx hb dX3_empty_21 rfl (lv_at hl 0 rfl) ?_
  refine va_get (D := (dC, dI)) (ci := 3) (v := .ref h_ridged) (C := RX3) (T := TX3) (N := 11) hx hb hts gu_X3 hown hK hP 0 rfl rfl 3 (by decide) (hts _ gw_78) (fun _ h9 => h9) rfl dX3_empty_22 ?_
  refine lv_iload_n hx hb dX3_empty_25 rfl (lv_at hl 1 rfl) ?_
  refine lv_iconst (v := (0 : Int32)) hx hb dX3_empty_26 (by decide) ?_
  obtain ⟨h_4, hw⟩ := hw
  refine va_iast hx hb hK hP hD hS 4 0 rfl rfl h_4 dX3_empty_27 (fun H locs hP hD hS => ?_)
  have hP : va_P (dC, dI) vwCl [(h, .inr (3, [.ref h_sea, .ref h_fast, .ref h_level, .ref h_ridged, .ref h_channel, .ref h_arrived, .int f_rows, .int f_columns, .int f_laid, .int f_grown, .int f_melted])), (h_channel, .inl (cI, 64, .inl r_channel)), (h_fast, .inl (cZ, 64, .inl (upd r_fast x1.toNatClampNeg (vp_nar .boolean (0 : Int32))))), (h_level, .inl (cI, 64, .inl (upd r_level x1.toNatClampNeg (0 : Int32)))), (h_ridged, .inl (cI, 64, .inl (upd r_ridged x1.toNatClampNeg (0 : Int32)))), (h_sea, .inl (cZ, 64, .inl (upd r_sea x1.toNatClampNeg (vp_nar .boolean x2))))] _ := hP
  have hD : va_D A [(h, .inr (3, [.ref h_sea, .ref h_fast, .ref h_level, .ref h_ridged, .ref h_channel, .ref h_arrived, .int f_rows, .int f_columns, .int f_laid, .int f_grown, .int f_melted])), (h_channel, .inl (cI, 64, .inl r_channel)), (h_fast, .inl (cZ, 64, .inl (upd r_fast x1.toNatClampNeg (vp_nar .boolean (0 : Int32))))), (h_level, .inl (cI, 64, .inl (upd r_level x1.toNatClampNeg (0 : Int32)))), (h_ridged, .inl (cI, 64, .inl (upd r_ridged x1.toNatClampNeg (0 : Int32)))), (h_sea, .inl (cZ, 64, .inl (upd r_sea x1.toNatClampNeg (vp_nar .boolean x2))))] := hD
  refine lv_aload_n hx hb dX3_empty_28 rfl (lv_at hl 0 rfl) ?_
  refine va_get (D := (dC, dI)) (ci := 3) (v := .ref h_channel) (C := RX3) (T := TX3) (N := 11) hx hb hts gu_X3 hown hK hP 0 rfl rfl 4 (by decide) (hts _ gw_79) (fun _ h9 => h9) rfl dX3_empty_29 ?_
  refine lv_iload_n hx hb dX3_empty_32 rfl (lv_at hl 1 rfl) ?_
  refine lv_iconst (v := (-1 : Int32)) hx hb dX3_empty_33 (by decide) ?_
  obtain ⟨h_5, hw⟩ := hw
  refine va_iast hx hb hK hP hD hS 1 0 rfl rfl h_5 dX3_empty_34 (fun H locs hP hD hS => ?_)
  have hP : va_P (dC, dI) vwCl [(h, .inr (3, [.ref h_sea, .ref h_fast, .ref h_level, .ref h_ridged, .ref h_channel, .ref h_arrived, .int f_rows, .int f_columns, .int f_laid, .int f_grown, .int f_melted])), (h_channel, .inl (cI, 64, .inl (upd r_channel x1.toNatClampNeg (-1 : Int32)))), (h_fast, .inl (cZ, 64, .inl (upd r_fast x1.toNatClampNeg (vp_nar .boolean (0 : Int32))))), (h_level, .inl (cI, 64, .inl (upd r_level x1.toNatClampNeg (0 : Int32)))), (h_ridged, .inl (cI, 64, .inl (upd r_ridged x1.toNatClampNeg (0 : Int32)))), (h_sea, .inl (cZ, 64, .inl (upd r_sea x1.toNatClampNeg (vp_nar .boolean x2))))] _ := hP
  have hD : va_D A [(h, .inr (3, [.ref h_sea, .ref h_fast, .ref h_level, .ref h_ridged, .ref h_channel, .ref h_arrived, .int f_rows, .int f_columns, .int f_laid, .int f_grown, .int f_melted])), (h_channel, .inl (cI, 64, .inl (upd r_channel x1.toNatClampNeg (-1 : Int32)))), (h_fast, .inl (cZ, 64, .inl (upd r_fast x1.toNatClampNeg (vp_nar .boolean (0 : Int32))))), (h_level, .inl (cI, 64, .inl (upd r_level x1.toNatClampNeg (0 : Int32)))), (h_ridged, .inl (cI, 64, .inl (upd r_ridged x1.toNatClampNeg (0 : Int32)))), (h_sea, .inl (cZ, 64, .inl (upd r_sea x1.toNatClampNeg (vp_nar .boolean x2))))] := hD
  have hP9 := hP.sub (ws' := (vX3_empty cI cZ h h_sea h_fast h_level h_ridged h_channel h_arrived f_rows f_columns f_laid f_grown f_melted (upd r_channel x1.toNatClampNeg (-1 : Int32)) (upd r_fast x1.toNatClampNeg (vp_nar .boolean (0 : Int32))) (upd r_level x1.toNatClampNeg (0 : Int32)) (upd r_ridged x1.toNatClampNeg (0 : Int32)) (upd r_sea x1.toNatClampNeg (vp_nar .boolean x2)))) [0, 1, 2, 3, 4, 5] rfl
  have hD9 := hD.sub (ws' := (vX3_empty cI cZ h h_sea h_fast h_level h_ridged h_channel h_arrived f_rows f_columns f_laid f_grown f_melted (upd r_channel x1.toNatClampNeg (-1 : Int32)) (upd r_fast x1.toNatClampNeg (vp_nar .boolean (0 : Int32))) (upd r_level x1.toNatClampNeg (0 : Int32)) (upd r_ridged x1.toNatClampNeg (0 : Int32)) (upd r_sea x1.toNatClampNeg (vp_nar .boolean x2)))) [0, 1, 2, 3, 4, 5] (by decide) rfl
  exact W.vret hx hb hr (fun t ht hW => ⟨⟨((upd r_channel x1.toNatClampNeg (-1 : Int32)), (upd r_fast x1.toNatClampNeg (vp_nar .boolean (0 : Int32))), (upd r_level x1.toNatClampNeg (0 : Int32)), (upd r_ridged x1.toNatClampNeg (0 : Int32)), (upd r_sea x1.toNatClampNeg (vp_nar .boolean x2))), rfl, hw, by rw [ht]; exact hP9, va_K.moved hW.alike hK, hD9⟩, hS.F ht⟩) hS.2.2 dX3_empty_35
set_option maxHeartbeats 4000000 in
set_option maxRecDepth 100000 in
theorem kX3_empty (l : Launch) (dC : Nat → ClassId) (dI : Nat → Nat → Nat) (cI cZ cO cW : ClassId) (h h_sea h_fast h_level h_ridged h_channel h_arrived : Nat)  (sz : Nat) (f_rows : Int32) (f_columns : Int32) (f_laid : Int32) (f_grown : Int32) (f_melted : Int32) (r_channel : Nat → Int32) (r_fast : Nat → Int32) (r_level : Nat → Int32) (r_ridged : Nat → Int32) (r_sea : Nat → Int32) (x1 : Int32) (x2 : Int32) (Q : (Nat → Int32) → (Nat → Int32) → (Nat → Int32) → (Nat → Int32) → (Nat → Int32) → Prop) (hw : wX3_empty Q x1 x2 r_channel r_fast r_level r_ridged r_sea) : Met l yX3_empty zsX3_empty rmX3_empty (va_Pc [.ref h, .int x1, .int x2] (fun U => U.heap.size = sz ∧ va_P (dC, dI) vwCl (vX3_empty cI cZ h h_sea h_fast h_level h_ridged h_channel h_arrived f_rows f_columns f_laid f_grown f_melted r_channel r_fast r_level r_ridged r_sea) U.heap ∧ va_K (dC, dI) vwCl (tysA cI cZ cO cW) U ∧ va_D (fun _ => True) (vX3_empty cI cZ h h_sea h_fast h_level h_ridged h_channel h_arrived f_rows f_columns f_laid f_grown f_melted r_channel r_fast r_level r_ridged r_sea))) (qX3_empty dC dI cI cZ cO cW h h_sea h_fast h_level h_ridged h_channel h_arrived f_rows f_columns f_laid f_grown f_melted Q (va_A (vX3_empty cI cZ h h_sea h_fast h_level h_ridged h_channel h_arrived f_rows f_columns f_laid f_grown f_melted r_channel r_fast r_level r_ridged r_sea) sz)) 0 0 (va_A (vX3_empty cI cZ h h_sea h_fast h_level h_ridged h_channel h_arrived f_rows f_columns f_laid f_grown f_melted r_channel r_fast r_level r_ridged r_sea) sz) := by
  refine Met.ofW (cc := cX3_empty) (maxL := 3) (ret := none) (by decide) rfl ?_
  intro p e s m args below meth c s₁ B hml hv
  obtain ⟨rfl, hsz, hP, hK, hD0⟩ := hv
  subst hsz
  have hC : Cx p s m ([.ref h, .int x1, .int x2] : List Value).toArray meth c cX3_empty none 3 GW RX3 := ⟨B.exec, B.bytes, B.returns, hml, findClass_of_methodNamed B.named, fun w h => atoms_spec (ws := zsX3_empty) B.pre w (List.mem_cons_of_mem _ h), B.notSynchronized⟩
  have hD := hD0.self (sz := s.heap.size)
  generalize hAe : va_A (vX3_empty cI cZ h h_sea h_fast h_level h_ridged h_channel h_arrived f_rows f_columns f_laid f_grown f_melted r_channel r_fast r_level r_ridged r_sea) s.heap.size = A at hD ⊢
  have hA : ∀ q : Nat, s.heap.size ≤ q → A q := fun q h => by rw [← hAe]; exact Or.inr h
  have hl := lv_entry ([.ref h, .int x1, .int x2]) (n := 3) (Nat.le_of_ble_eq_true rfl)
  rw [lg_entry_eq]
  generalize (lg_sl ([.ref h, .int x1, .int x2]) ++ List.replicate (3 - (lg_sl ([.ref h, .int x1, .int x2])).length) Slot.unset).toArray = ls at hl ⊢
  exact tX3_empty_e hC hK hA x1 x2 r_channel r_fast r_level r_ridged r_sea _ _ ls hw hP hD va_S.rf hl

/-! X3_begin -/
def wX3_begin_62 (Q : Int32 → Int32 → Int32 → Int32 → Int32 → (Nat → Int32) → (Nat → Int32) → (Nat → Int32) → (Nat → Int32) → (Nat → Int32) → Prop) (K_27 : Int32 → Int32 → Int32 → Int32 → Int32 → Int32 → (Nat → Int32) → (Nat → Int32) → (Nat → Int32) → (Nat → Int32) → (Nat → Int32) → Prop)  (x3 : Int32) (s1 : Int32) (s2 : Int32) (f_rows : Int32) (f_columns : Int32) (f_laid : Int32) (f_grown : Int32) (f_melted : Int32) (r_channel : (Nat → Int32)) (r_fast : (Nat → Int32)) (r_level : (Nat → Int32)) (r_ridged : (Nat → Int32)) (r_sea : (Nat → Int32)) : Prop :=
  (wX3_empty (fun r_channel_1 r_fast_2 r_level_3 r_ridged_4 r_sea_5 => (K_27 (x3 + (1 : Int32)) f_rows f_columns f_laid f_grown f_melted r_channel_1 r_fast_2 r_level_3 r_ridged_4 r_sea_5)) s1 s2 r_channel r_fast r_level r_ridged r_sea)
def wX3_begin_61 (Q : Int32 → Int32 → Int32 → Int32 → Int32 → (Nat → Int32) → (Nat → Int32) → (Nat → Int32) → (Nat → Int32) → (Nat → Int32) → Prop) (K_27 : Int32 → Int32 → Int32 → Int32 → Int32 → Int32 → (Nat → Int32) → (Nat → Int32) → (Nat → Int32) → (Nat → Int32) → (Nat → Int32) → Prop)  (x3 : Int32) (s1 : Int32) (f_rows : Int32) (f_columns : Int32) (f_laid : Int32) (f_grown : Int32) (f_melted : Int32) (r_channel : (Nat → Int32)) (r_fast : (Nat → Int32)) (r_level : (Nat → Int32)) (r_ridged : (Nat → Int32)) (r_sea : (Nat → Int32)) : Prop :=
  (wX3_begin_62 Q K_27 x3 s1 (0 : Int32) f_rows f_columns f_laid f_grown f_melted r_channel r_fast r_level r_ridged r_sea)
def wX3_begin_27 (Q : Int32 → Int32 → Int32 → Int32 → Int32 → (Nat → Int32) → (Nat → Int32) → (Nat → Int32) → (Nat → Int32) → (Nat → Int32) → Prop)   : Nat → Int32 → Int32 → Int32 → Int32 → Int32 → Int32 → (Nat → Int32) → (Nat → Int32) → (Nat → Int32) → (Nat → Int32) → (Nat → Int32) → Prop
  | 0, _, _, _, _, _, _, _, _, _, _, _ => False
  | n + 1, x3, f_rows, f_columns, f_laid, f_grown, f_melted, r_channel, r_fast, r_level, r_ridged, r_sea => (((64 : Int32) ≤ x3 → (Q f_rows f_columns f_laid f_grown f_melted r_channel r_fast r_level r_ridged r_sea)) ∧ (¬ (64 : Int32) ≤ x3 → ((f_rows ≤ (x3 / (8 : Int32)) → (wX3_begin_61 Q (wX3_begin_27 Q n) x3 x3 f_rows f_columns f_laid f_grown f_melted r_channel r_fast r_level r_ridged r_sea)) ∧ (¬ f_rows ≤ (x3 / (8 : Int32)) → ((f_columns ≤ (x3 - x3 / (8 : Int32) * (8 : Int32)) → (wX3_begin_61 Q (wX3_begin_27 Q n) x3 x3 f_rows f_columns f_laid f_grown f_melted r_channel r_fast r_level r_ridged r_sea)) ∧ (¬ f_columns ≤ (x3 - x3 / (8 : Int32) * (8 : Int32)) → (wX3_begin_62 Q (wX3_begin_27 Q n) x3 x3 (1 : Int32) f_rows f_columns f_laid f_grown f_melted r_channel r_fast r_level r_ridged r_sea)))))))
def wX3_begin (Q : Int32 → Int32 → Int32 → Int32 → Int32 → (Nat → Int32) → (Nat → Int32) → (Nat → Int32) → (Nat → Int32) → (Nat → Int32) → Prop) (x1 : Int32) (x2 : Int32) (f_rows : Int32) (f_columns : Int32) (f_laid : Int32) (f_grown : Int32) (f_melted : Int32) (r_channel : Nat → Int32) (r_fast : Nat → Int32) (r_level : Nat → Int32) (r_ridged : Nat → Int32) (r_sea : Nat → Int32) : Prop :=
  (∃ j_, wX3_begin_27 Q j_ (0 : Int32) x1 x2 (0 : Int32) (0 : Int32) (0 : Int32) r_channel r_fast r_level r_ridged r_sea)
abbrev vX3_begin (cI cZ : ClassId) (h h_sea h_fast h_level h_ridged h_channel h_arrived : Nat) (f_rows : Int32) (f_columns : Int32) (f_laid : Int32) (f_grown : Int32) (f_melted : Int32) (r_channel : Nat → Int32) (r_fast : Nat → Int32) (r_level : Nat → Int32) (r_ridged : Nat → Int32) (r_sea : Nat → Int32) : va_W := [(h, .inr (3, [.ref h_sea, .ref h_fast, .ref h_level, .ref h_ridged, .ref h_channel, .ref h_arrived, .int f_rows, .int f_columns, .int f_laid, .int f_grown, .int f_melted])), (h_channel, .inl (cI, 64, .inl r_channel)), (h_fast, .inl (cZ, 64, .inl r_fast)), (h_level, .inl (cI, 64, .inl r_level)), (h_ridged, .inl (cI, 64, .inl r_ridged)), (h_sea, .inl (cZ, 64, .inl r_sea))]
abbrev rmX3_begin : Room := { frames := 1, cells := 0, slots := 0, locals := 22 }
abbrev qX3_begin (dC : Nat → ClassId) (dI : Nat → Nat → Nat) (cI cZ cO cW : ClassId) (h h_sea h_fast h_level h_ridged h_channel h_arrived : Nat)  (Q : Int32 → Int32 → Int32 → Int32 → Int32 → (Nat → Int32) → (Nat → Int32) → (Nat → Int32) → (Nat → Int32) → (Nat → Int32) → Prop) (A : Nat → Prop) : Array Value → State → Outcome → State → Prop := va_Qv (fun (u : Int32 × Int32 × Int32 × Int32 × Int32 × (Nat → Int32) × (Nat → Int32) × (Nat → Int32) × (Nat → Int32) × (Nat → Int32)) => Q u.1 u.2.1 u.2.2.1 u.2.2.2.1 u.2.2.2.2.1 u.2.2.2.2.2.1 u.2.2.2.2.2.2.1 u.2.2.2.2.2.2.2.1 u.2.2.2.2.2.2.2.2.1 u.2.2.2.2.2.2.2.2.2) (fun (u : Int32 × Int32 × Int32 × Int32 × Int32 × (Nat → Int32) × (Nat → Int32) × (Nat → Int32) × (Nat → Int32) × (Nat → Int32)) (t : State) => va_P (dC, dI) vwCl (vX3_begin cI cZ h h_sea h_fast h_level h_ridged h_channel h_arrived u.1 u.2.1 u.2.2.1 u.2.2.2.1 u.2.2.2.2.1 u.2.2.2.2.2.1 u.2.2.2.2.2.2.1 u.2.2.2.2.2.2.2.1 u.2.2.2.2.2.2.2.2.1 u.2.2.2.2.2.2.2.2.2) t.heap ∧ va_K (dC, dI) vwCl (tysA cI cZ cO cW) t ∧ va_D A (vX3_begin cI cZ h h_sea h_fast h_level h_ridged h_channel h_arrived u.1 u.2.1 u.2.2.1 u.2.2.2.1 u.2.2.2.2.1 u.2.2.2.2.2.1 u.2.2.2.2.2.2.1 u.2.2.2.2.2.2.2.1 u.2.2.2.2.2.2.2.2.1 u.2.2.2.2.2.2.2.2.2)) A
def zsX3_begin : List Cond := Cond.code yX3_begin cX3_begin 4 none :: GW
set_option maxHeartbeats 4000000 in
set_option maxRecDepth 100000 in
theorem tX3_begin_62 {p : Program} {l : Launch} {e : Env} {s : State} {m : MethodId} {args : Array Value} {below : List Frame} {meth : Method} {c : Code} {dC : Nat → ClassId} {dI : Nat → Nat → Nat} {cI cZ cO cW : ClassId} {A : Nat → Prop} {h h_sea h_fast h_level h_ridged h_channel h_arrived : Nat} {Q : Int32 → Int32 → Int32 → Int32 → Int32 → (Nat → Int32) → (Nat → Int32) → (Nat → Int32) → (Nat → Int32) → (Nat → Int32) → Prop} {K_27 : Int32 → Int32 → Int32 → Int32 → Int32 → Int32 → (Nat → Int32) → (Nat → Int32) → (Nat → Int32) → (Nat → Int32) → (Nat → Int32) → Prop} (hC : Cx p s m args meth c cX3_begin none 4 GW RX3) (hK : va_K (dC, dI) vwCl (tysA cI cZ cO cW) s) (hA : ∀ q : Nat, s.heap.size ≤ q → A q) (hk_27 : ∀ (x3 : Int32) (f_rows : Int32) (f_columns : Int32) (f_laid : Int32) (f_grown : Int32) (f_melted : Int32) (r_channel : (Nat → Int32)) (r_fast : (Nat → Int32)) (r_level : (Nat → Int32)) (r_ridged : (Nat → Int32)) (r_sea : (Nat → Int32)) (H : Heap) (locs : List Loc) (ls : Array Slot), K_27 x3 f_rows f_columns f_laid f_grown f_melted r_channel r_fast r_level r_ridged r_sea → va_P (dC, dI) vwCl (vX3_begin cI cZ h h_sea h_fast h_level h_ridged h_channel h_arrived f_rows f_columns f_laid f_grown f_melted r_channel r_fast r_level r_ridged r_sea) H → va_D A (vX3_begin cI cZ h h_sea h_fast h_level h_ridged h_channel h_arrived f_rows f_columns f_laid f_grown f_melted r_channel r_fast r_level r_ridged r_sea) → va_S A s.heap H locs → lv_has ls 4 [(0, .ref h), (3, .int x3)] → W p l e rmX3_begin s m args below meth c H locs 0 0 (MQ below (qX3_begin dC dI cI cZ cO cW h h_sea h_fast h_level h_ridged h_channel h_arrived Q A) args s 0 0 A) (F0 m 27 ls [])) :
    ∀ (x3 : Int32) (s1 : Int32) (s2 : Int32) (f_rows : Int32) (f_columns : Int32) (f_laid : Int32) (f_grown : Int32) (f_melted : Int32) (r_channel : (Nat → Int32)) (r_fast : (Nat → Int32)) (r_level : (Nat → Int32)) (r_ridged : (Nat → Int32)) (r_sea : (Nat → Int32)) (H : Heap) (locs : List Loc) (ls : Array Slot), wX3_begin_62 Q K_27 x3 s1 s2 f_rows f_columns f_laid f_grown f_melted r_channel r_fast r_level r_ridged r_sea → va_P (dC, dI) vwCl (vX3_begin cI cZ h h_sea h_fast h_level h_ridged h_channel h_arrived f_rows f_columns f_laid f_grown f_melted r_channel r_fast r_level r_ridged r_sea) H → va_D A (vX3_begin cI cZ h h_sea h_fast h_level h_ridged h_channel h_arrived f_rows f_columns f_laid f_grown f_melted r_channel r_fast r_level r_ridged r_sea) → va_S A s.heap H locs → lv_has ls 4 [(0, .ref h), (3, .int x3)] → W p l e rmX3_begin s m args below meth c H locs 0 0 (MQ below (qX3_begin dC dI cI cZ cO cW h h_sea h_fast h_level h_ridged h_channel h_arrived Q A) args s 0 0 A) (F0 m 62 ls [.int s2, .int s1, .ref h]) := by
  obtain ⟨hx, hb, hr, hml, hown, hts, hlocks⟩ := id hC
  intro x3 s1 s2 f_rows f_columns f_laid f_grown f_melted r_channel r_fast r_level r_ridged r_sea H locs ls hw hP hD hS hl
  have hPc := hP.sub (ws' := [(h, .inr (3, [.ref h_sea, .ref h_fast, .ref h_level, .ref h_ridged, .ref h_channel, .ref h_arrived, .int f_rows, .int f_columns, .int f_laid, .int f_grown, .int f_melted])), (h_channel, .inl (cI, 64, .inl r_channel)), (h_fast, .inl (cZ, 64, .inl r_fast)), (h_level, .inl (cI, 64, .inl r_level)), (h_ridged, .inl (cI, 64, .inl r_ridged)), (h_sea, .inl (cZ, 64, .inl r_sea))]) [0, 1, 2, 3, 4, 5] rfl
  have hDc := hD.sub (ws' := [(h, .inr (3, [.ref h_sea, .ref h_fast, .ref h_level, .ref h_ridged, .ref h_channel, .ref h_arrived, .int f_rows, .int f_columns, .int f_laid, .int f_grown, .int f_melted])), (h_channel, .inl (cI, 64, .inl r_channel)), (h_fast, .inl (cZ, 64, .inl r_fast)), (h_level, .inl (cI, 64, .inl r_level)), (h_ridged, .inl (cI, 64, .inl r_ridged)), (h_sea, .inl (cZ, 64, .inl r_sea))]) [0, 1, 2, 3, 4, 5] (by decide) rfl
  have hFc := va_free (wc := [(h, .inr (3, [.ref h_sea, .ref h_fast, .ref h_level, .ref h_ridged, .ref h_channel, .ref h_arrived, .int f_rows, .int f_columns, .int f_laid, .int f_grown, .int f_melted])), (h_channel, .inl (cI, 64, .inl r_channel)), (h_fast, .inl (cZ, 64, .inl r_fast)), (h_level, .inl (cI, 64, .inl r_level)), (h_ridged, .inl (cI, 64, .inl r_ridged)), (h_sea, .inl (cZ, 64, .inl r_sea))]) hD hS hA [0, 1, 2, 3, 4, 5] rfl
  refine va_callv (va_runV (As := [.int s1, .int s2]) (rest := []) ⟨hx, hb, hml, hown, hts⟩ (kX3_empty l dC dI cI cZ cO cW h h_sea h_fast h_level h_ridged h_channel h_arrived H.size f_rows f_columns f_laid f_grown f_melted r_channel r_fast r_level r_ridged r_sea s1 s2 _ hw) (cwV 2 hts (gV gw_101 gw_102 gw_103 gw_89 (gM gw_99)) rfl rfl rfl (by decide +kernel) ⟨Nat.le_of_ble_eq_true rfl, Nat.le_of_ble_eq_true rfl⟩) (pv_of hPc hK hDc (va_recv hK hPc (ci := 3) (q0 := 0) rfl rfl)) rfl rfl hl.1 rfl (lv_room (Nat.le_of_ble_eq_true rfl)) dX3_begin_62 ⟨Nat.zero_le _, Nat.zero_le _⟩) hS (fun q _ h => hFc q h) hFc (fun u t H locs ht hvm hw hB hz1 hk1 hS => ?_)
  obtain ⟨r_channel_1, r_fast_2, r_level_3, r_ridged_4, r_sea_5⟩ := u
  obtain ⟨hP, hD⟩ := af_join (wr := []) (w1 := [(h, .inr (3, [.ref h_sea, .ref h_fast, .ref h_level, .ref h_ridged, .ref h_channel, .ref h_arrived, .int f_rows, .int f_columns, .int f_laid, .int f_grown, .int f_melted])), (h_channel, .inl (cI, 64, .inl r_channel_1)), (h_fast, .inl (cZ, 64, .inl r_fast_2)), (h_level, .inl (cI, 64, .inl r_level_3)), (h_ridged, .inl (cI, 64, .inl r_ridged_4)), (h_sea, .inl (cZ, 64, .inl r_sea_5))]) hB ht hP hD [0, 1, 2, 3, 4, 5] [] rfl rfl (by decide) (by decide) hk1 hFc
  have hP : va_P (dC, dI) vwCl [(h, .inr (3, [.ref h_sea, .ref h_fast, .ref h_level, .ref h_ridged, .ref h_channel, .ref h_arrived, .int f_rows, .int f_columns, .int f_laid, .int f_grown, .int f_melted])), (h_channel, .inl (cI, 64, .inl r_channel_1)), (h_fast, .inl (cZ, 64, .inl r_fast_2)), (h_level, .inl (cI, 64, .inl r_level_3)), (h_ridged, .inl (cI, 64, .inl r_ridged_4)), (h_sea, .inl (cZ, 64, .inl r_sea_5))] _ := hP
  have hD : va_D A [(h, .inr (3, [.ref h_sea, .ref h_fast, .ref h_level, .ref h_ridged, .ref h_channel, .ref h_arrived, .int f_rows, .int f_columns, .int f_laid, .int f_grown, .int f_melted])), (h_channel, .inl (cI, 64, .inl r_channel_1)), (h_fast, .inl (cZ, 64, .inl r_fast_2)), (h_level, .inl (cI, 64, .inl r_level_3)), (h_ridged, .inl (cI, 64, .inl r_ridged_4)), (h_sea, .inl (cZ, 64, .inl r_sea_5))] := hD
  refine lv_iinc (v := (x3 + (1 : Int32))) (lv' := [(3, .int (x3 + (1 : Int32))), (0, .ref h)]) hx hb dX3_begin_65 hl (k := 1) rfl rfl (by decide) rfl (fun ls hl => ?_)
  refine lv_goto (tgt := 27) hx hb dX3_begin_68 (by decide) ?_
  exact hk_27 (x3 + (1 : Int32)) f_rows f_columns f_laid f_grown f_melted r_channel_1 r_fast_2 r_level_3 r_ridged_4 r_sea_5 _ _ ls hw (hP.sub [0, 1, 2, 3, 4, 5] rfl) (hD.sub [0, 1, 2, 3, 4, 5] (by decide) rfl) hS (lv_sub hl [1, 0] rfl)
set_option maxHeartbeats 4000000 in
set_option maxRecDepth 100000 in
theorem tX3_begin_61 {p : Program} {l : Launch} {e : Env} {s : State} {m : MethodId} {args : Array Value} {below : List Frame} {meth : Method} {c : Code} {dC : Nat → ClassId} {dI : Nat → Nat → Nat} {cI cZ cO cW : ClassId} {A : Nat → Prop} {h h_sea h_fast h_level h_ridged h_channel h_arrived : Nat} {Q : Int32 → Int32 → Int32 → Int32 → Int32 → (Nat → Int32) → (Nat → Int32) → (Nat → Int32) → (Nat → Int32) → (Nat → Int32) → Prop} {K_27 : Int32 → Int32 → Int32 → Int32 → Int32 → Int32 → (Nat → Int32) → (Nat → Int32) → (Nat → Int32) → (Nat → Int32) → (Nat → Int32) → Prop} (hC : Cx p s m args meth c cX3_begin none 4 GW RX3) (hK : va_K (dC, dI) vwCl (tysA cI cZ cO cW) s) (hA : ∀ q : Nat, s.heap.size ≤ q → A q) (hk_27 : ∀ (x3 : Int32) (f_rows : Int32) (f_columns : Int32) (f_laid : Int32) (f_grown : Int32) (f_melted : Int32) (r_channel : (Nat → Int32)) (r_fast : (Nat → Int32)) (r_level : (Nat → Int32)) (r_ridged : (Nat → Int32)) (r_sea : (Nat → Int32)) (H : Heap) (locs : List Loc) (ls : Array Slot), K_27 x3 f_rows f_columns f_laid f_grown f_melted r_channel r_fast r_level r_ridged r_sea → va_P (dC, dI) vwCl (vX3_begin cI cZ h h_sea h_fast h_level h_ridged h_channel h_arrived f_rows f_columns f_laid f_grown f_melted r_channel r_fast r_level r_ridged r_sea) H → va_D A (vX3_begin cI cZ h h_sea h_fast h_level h_ridged h_channel h_arrived f_rows f_columns f_laid f_grown f_melted r_channel r_fast r_level r_ridged r_sea) → va_S A s.heap H locs → lv_has ls 4 [(0, .ref h), (3, .int x3)] → W p l e rmX3_begin s m args below meth c H locs 0 0 (MQ below (qX3_begin dC dI cI cZ cO cW h h_sea h_fast h_level h_ridged h_channel h_arrived Q A) args s 0 0 A) (F0 m 27 ls [])) :
    ∀ (x3 : Int32) (s1 : Int32) (f_rows : Int32) (f_columns : Int32) (f_laid : Int32) (f_grown : Int32) (f_melted : Int32) (r_channel : (Nat → Int32)) (r_fast : (Nat → Int32)) (r_level : (Nat → Int32)) (r_ridged : (Nat → Int32)) (r_sea : (Nat → Int32)) (H : Heap) (locs : List Loc) (ls : Array Slot), wX3_begin_61 Q K_27 x3 s1 f_rows f_columns f_laid f_grown f_melted r_channel r_fast r_level r_ridged r_sea → va_P (dC, dI) vwCl (vX3_begin cI cZ h h_sea h_fast h_level h_ridged h_channel h_arrived f_rows f_columns f_laid f_grown f_melted r_channel r_fast r_level r_ridged r_sea) H → va_D A (vX3_begin cI cZ h h_sea h_fast h_level h_ridged h_channel h_arrived f_rows f_columns f_laid f_grown f_melted r_channel r_fast r_level r_ridged r_sea) → va_S A s.heap H locs → lv_has ls 4 [(0, .ref h), (3, .int x3)] → W p l e rmX3_begin s m args below meth c H locs 0 0 (MQ below (qX3_begin dC dI cI cZ cO cW h h_sea h_fast h_level h_ridged h_channel h_arrived Q A) args s 0 0 A) (F0 m 61 ls [.int s1, .ref h]) := by
  obtain ⟨hx, hb, hr, hml, hown, hts, hlocks⟩ := id hC
  intro x3 s1 f_rows f_columns f_laid f_grown f_melted r_channel r_fast r_level r_ridged r_sea H locs ls hw hP hD hS hl
  refine lv_iconst (v := (0 : Int32)) hx hb dX3_begin_61 (by decide) ?_
  exact tX3_begin_62 hC hK hA hk_27 x3 s1 (0 : Int32) f_rows f_columns f_laid f_grown f_melted r_channel r_fast r_level r_ridged r_sea _ _ ls hw (hP.sub [0, 1, 2, 3, 4, 5] rfl) (hD.sub [0, 1, 2, 3, 4, 5] (by decide) rfl) hS (lv_sub hl [0, 1] rfl)
set_option maxHeartbeats 4000000 in
set_option maxRecDepth 100000 in
theorem tX3_begin_27 {p : Program} {l : Launch} {e : Env} {s : State} {m : MethodId} {args : Array Value} {below : List Frame} {meth : Method} {c : Code} {dC : Nat → ClassId} {dI : Nat → Nat → Nat} {cI cZ cO cW : ClassId} {A : Nat → Prop} {h h_sea h_fast h_level h_ridged h_channel h_arrived : Nat} {Q : Int32 → Int32 → Int32 → Int32 → Int32 → (Nat → Int32) → (Nat → Int32) → (Nat → Int32) → (Nat → Int32) → (Nat → Int32) → Prop}  (hC : Cx p s m args meth c cX3_begin none 4 GW RX3) (hK : va_K (dC, dI) vwCl (tysA cI cZ cO cW) s) (hA : ∀ q : Nat, s.heap.size ≤ q → A q) :
    ∀ (n : Nat) (x3 : Int32) (f_rows : Int32) (f_columns : Int32) (f_laid : Int32) (f_grown : Int32) (f_melted : Int32) (r_channel : (Nat → Int32)) (r_fast : (Nat → Int32)) (r_level : (Nat → Int32)) (r_ridged : (Nat → Int32)) (r_sea : (Nat → Int32)) (H : Heap) (locs : List Loc) (ls : Array Slot), wX3_begin_27 Q  n x3 f_rows f_columns f_laid f_grown f_melted r_channel r_fast r_level r_ridged r_sea → va_P (dC, dI) vwCl (vX3_begin cI cZ h h_sea h_fast h_level h_ridged h_channel h_arrived f_rows f_columns f_laid f_grown f_melted r_channel r_fast r_level r_ridged r_sea) H → va_D A (vX3_begin cI cZ h h_sea h_fast h_level h_ridged h_channel h_arrived f_rows f_columns f_laid f_grown f_melted r_channel r_fast r_level r_ridged r_sea) → va_S A s.heap H locs → lv_has ls 4 [(0, .ref h), (3, .int x3)] → W p l e rmX3_begin s m args below meth c H locs 0 0 (MQ below (qX3_begin dC dI cI cZ cO cW h h_sea h_fast h_level h_ridged h_channel h_arrived Q A) args s 0 0 A) (F0 m 27 ls []) := by
  obtain ⟨hx, hb, hr, hml, hown, hts, hlocks⟩ := id hC
  intro n
  induction n with
  | zero =>
    intro  x3 f_rows f_columns f_laid f_grown f_melted r_channel r_fast r_level r_ridged r_sea H locs ls hw
    exact hw.elim
  | succ n ih =>
    intro  x3 f_rows f_columns f_laid f_grown f_melted r_channel r_fast r_level r_ridged r_sea H locs ls hw hP hD hS hl
    refine lv_iload_n hx hb dX3_begin_27 rfl (lv_at hl 1 rfl) ?_
    refine lv_bipush (v := (64 : Int32)) hx hb dX3_begin_28 (by decide) ?_
    refine lv_icmp_ge (tgt := 71) hx hb dX3_begin_30 (by decide) (fun c_6 => ?_) (fun c_6 => ?_)
    · have hw := hw.1 c_6
      have hP9 := hP.sub (ws' := (vX3_begin cI cZ h h_sea h_fast h_level h_ridged h_channel h_arrived f_rows f_columns f_laid f_grown f_melted r_channel r_fast r_level r_ridged r_sea)) [0, 1, 2, 3, 4, 5] rfl
      have hD9 := hD.sub (ws' := (vX3_begin cI cZ h h_sea h_fast h_level h_ridged h_channel h_arrived f_rows f_columns f_laid f_grown f_melted r_channel r_fast r_level r_ridged r_sea)) [0, 1, 2, 3, 4, 5] (by decide) rfl
      exact W.vret hx hb hr (fun t ht hW => ⟨⟨(f_rows, f_columns, f_laid, f_grown, f_melted, r_channel, r_fast, r_level, r_ridged, r_sea), rfl, hw, by rw [ht]; exact hP9, va_K.moved hW.alike hK, hD9⟩, hS.F ht⟩) hS.2.2 dX3_begin_71
    · have hw := hw.2 c_6
      refine lv_aload_n hx hb dX3_begin_33 rfl (lv_at hl 0 rfl) ?_
      refine lv_iload_n hx hb dX3_begin_34 rfl (lv_at hl 1 rfl) ?_
      refine lv_iload_n hx hb dX3_begin_35 rfl (lv_at hl 1 rfl) ?_
      refine lv_bipush (v := (8 : Int32)) hx hb dX3_begin_36 (by decide) ?_
      refine lv_idiv hx hb dX3_begin_38 (by decide) ?_
      refine lv_aload_n hx hb dX3_begin_39 rfl (lv_at hl 0 rfl) ?_
      refine va_get (D := (dC, dI)) (ci := 3) (v := .int f_rows) (C := RX3) (T := TX3) (N := 11) hx hb hts gu_X3 hown hK hP 0 rfl rfl 6 (by decide) (hts _ gw_81) (fun _ h9 => h9) rfl dX3_begin_40 ?_
      refine lv_icmp_ge (tgt := 61) hx hb dX3_begin_43 (by decide) (fun c_7 => ?_) (fun c_7 => ?_)
      · have hw := hw.1 c_7
        exact tX3_begin_61 hC hK hA ih x3 x3 f_rows f_columns f_laid f_grown f_melted r_channel r_fast r_level r_ridged r_sea _ _ ls hw (hP.sub [0, 1, 2, 3, 4, 5] rfl) (hD.sub [0, 1, 2, 3, 4, 5] (by decide) rfl) hS (lv_sub hl [0, 1] rfl)
      · have hw := hw.2 c_7
        refine lv_iload_n hx hb dX3_begin_46 rfl (lv_at hl 1 rfl) ?_
        refine lv_bipush (v := (8 : Int32)) hx hb dX3_begin_47 (by decide) ?_
        refine lv_irem hx hb dX3_begin_49 (by decide) ?_
        refine lv_aload_n hx hb dX3_begin_50 rfl (lv_at hl 0 rfl) ?_
        refine va_get (D := (dC, dI)) (ci := 3) (v := .int f_columns) (C := RX3) (T := TX3) (N := 11) hx hb hts gu_X3 hown hK hP 0 rfl rfl 7 (by decide) (hts _ gw_82) (fun _ h9 => h9) rfl dX3_begin_51 ?_
        refine lv_icmp_ge (tgt := 61) hx hb dX3_begin_54 (by decide) (fun c_8 => ?_) (fun c_8 => ?_)
        · have hw := hw.1 c_8
          exact tX3_begin_61 hC hK hA ih x3 x3 f_rows f_columns f_laid f_grown f_melted r_channel r_fast r_level r_ridged r_sea _ _ ls hw (hP.sub [0, 1, 2, 3, 4, 5] rfl) (hD.sub [0, 1, 2, 3, 4, 5] (by decide) rfl) hS (lv_sub hl [0, 1] rfl)
        · have hw := hw.2 c_8
          refine lv_iconst (v := (1 : Int32)) hx hb dX3_begin_57 (by decide) ?_
          refine lv_goto (tgt := 62) hx hb dX3_begin_58 (by decide) ?_
          exact tX3_begin_62 hC hK hA ih x3 x3 (1 : Int32) f_rows f_columns f_laid f_grown f_melted r_channel r_fast r_level r_ridged r_sea _ _ ls hw (hP.sub [0, 1, 2, 3, 4, 5] rfl) (hD.sub [0, 1, 2, 3, 4, 5] (by decide) rfl) hS (lv_sub hl [0, 1] rfl)
set_option maxHeartbeats 4000000 in
set_option maxRecDepth 100000 in
theorem tX3_begin_e {p : Program} {l : Launch} {e : Env} {s : State} {m : MethodId} {args : Array Value} {below : List Frame} {meth : Method} {c : Code} {dC : Nat → ClassId} {dI : Nat → Nat → Nat} {cI cZ cO cW : ClassId} {A : Nat → Prop} {h h_sea h_fast h_level h_ridged h_channel h_arrived : Nat} {Q : Int32 → Int32 → Int32 → Int32 → Int32 → (Nat → Int32) → (Nat → Int32) → (Nat → Int32) → (Nat → Int32) → (Nat → Int32) → Prop} (hC : Cx p s m args meth c cX3_begin none 4 GW RX3) (hK : va_K (dC, dI) vwCl (tysA cI cZ cO cW) s) (hA : ∀ q : Nat, s.heap.size ≤ q → A q) :
    ∀ (x1 : Int32) (x2 : Int32) (f_rows : Int32) (f_columns : Int32) (f_laid : Int32) (f_grown : Int32) (f_melted : Int32) (r_channel : Nat → Int32) (r_fast : Nat → Int32) (r_level : Nat → Int32) (r_ridged : Nat → Int32) (r_sea : Nat → Int32) (H : Heap) (locs : List Loc) (ls : Array Slot), wX3_begin Q x1 x2 f_rows f_columns f_laid f_grown f_melted r_channel r_fast r_level r_ridged r_sea → va_P (dC, dI) vwCl (vX3_begin cI cZ h h_sea h_fast h_level h_ridged h_channel h_arrived f_rows f_columns f_laid f_grown f_melted r_channel r_fast r_level r_ridged r_sea) H → va_D A (vX3_begin cI cZ h h_sea h_fast h_level h_ridged h_channel h_arrived f_rows f_columns f_laid f_grown f_melted r_channel r_fast r_level r_ridged r_sea) → va_S A s.heap H locs → lv_has ls 4 [(0, .ref h), (1, .int x1), (2, .int x2)] → W p l e rmX3_begin s m args below meth c H locs 0 0 (MQ below (qX3_begin dC dI cI cZ cO cW h h_sea h_fast h_level h_ridged h_channel h_arrived Q A) args s 0 0 A) (F0 m 0 ls []) := by
  obtain ⟨hx, hb, hr, hml, hown, hts, hlocks⟩ := id hC
  intro x1 x2 f_rows f_columns f_laid f_grown f_melted r_channel r_fast r_level r_ridged r_sea H locs ls hw hP hD hS hl
  refine lv_aload_n hx hb dX3_begin_0 rfl (lv_at hl 0 rfl) ?_
  refine lv_iload_n hx hb dX3_begin_1 rfl (lv_at hl 1 rfl) ?_
  refine va_put (D := (dC, dI)) (ci := 3) (v := .int x1) (ty := .int) (C := RX3) (T := TX3) (N := 11) hx hb hts gu_X3 tyX3 tyX3_ok nmX3 hown hK hP hD hS 0 rfl rfl 6 (by decide) (hts _ gw_81) (fun _ h9 => h9) rfl (tyX3_ok 6 (by decide)) rfl rfl (Nat.le_of_ble_eq_true rfl) dX3_begin_2 (fun H locs hP hD hS => ?_)
  have hP : va_P (dC, dI) vwCl [(h, .inr (3, [.ref h_sea, .ref h_fast, .ref h_level, .ref h_ridged, .ref h_channel, .ref h_arrived, .int x1, .int f_columns, .int f_laid, .int f_grown, .int f_melted])), (h_channel, .inl (cI, 64, .inl r_channel)), (h_fast, .inl (cZ, 64, .inl r_fast)), (h_level, .inl (cI, 64, .inl r_level)), (h_ridged, .inl (cI, 64, .inl r_ridged)), (h_sea, .inl (cZ, 64, .inl r_sea))] _ := hP
  have hD : va_D A [(h, .inr (3, [.ref h_sea, .ref h_fast, .ref h_level, .ref h_ridged, .ref h_channel, .ref h_arrived, .int x1, .int f_columns, .int f_laid, .int f_grown, .int f_melted])), (h_channel, .inl (cI, 64, .inl r_channel)), (h_fast, .inl (cZ, 64, .inl r_fast)), (h_level, .inl (cI, 64, .inl r_level)), (h_ridged, .inl (cI, 64, .inl r_ridged)), (h_sea, .inl (cZ, 64, .inl r_sea))] := hD
  refine lv_aload_n hx hb dX3_begin_5 rfl (lv_at hl 0 rfl) ?_
  refine lv_iload_n hx hb dX3_begin_6 rfl (lv_at hl 2 rfl) ?_
  refine va_put (D := (dC, dI)) (ci := 3) (v := .int x2) (ty := .int) (C := RX3) (T := TX3) (N := 11) hx hb hts gu_X3 tyX3 tyX3_ok nmX3 hown hK hP hD hS 0 rfl rfl 7 (by decide) (hts _ gw_82) (fun _ h9 => h9) rfl (tyX3_ok 7 (by decide)) rfl rfl (Nat.le_of_ble_eq_true rfl) dX3_begin_7 (fun H locs hP hD hS => ?_)
  have hP : va_P (dC, dI) vwCl [(h, .inr (3, [.ref h_sea, .ref h_fast, .ref h_level, .ref h_ridged, .ref h_channel, .ref h_arrived, .int x1, .int x2, .int f_laid, .int f_grown, .int f_melted])), (h_channel, .inl (cI, 64, .inl r_channel)), (h_fast, .inl (cZ, 64, .inl r_fast)), (h_level, .inl (cI, 64, .inl r_level)), (h_ridged, .inl (cI, 64, .inl r_ridged)), (h_sea, .inl (cZ, 64, .inl r_sea))] _ := hP
  have hD : va_D A [(h, .inr (3, [.ref h_sea, .ref h_fast, .ref h_level, .ref h_ridged, .ref h_channel, .ref h_arrived, .int x1, .int x2, .int f_laid, .int f_grown, .int f_melted])), (h_channel, .inl (cI, 64, .inl r_channel)), (h_fast, .inl (cZ, 64, .inl r_fast)), (h_level, .inl (cI, 64, .inl r_level)), (h_ridged, .inl (cI, 64, .inl r_ridged)), (h_sea, .inl (cZ, 64, .inl r_sea))] := hD
  refine lv_aload_n hx hb dX3_begin_10 rfl (lv_at hl 0 rfl) ?_
  refine lv_iconst (v := (0 : Int32)) hx hb dX3_begin_11 (by decide) ?_
  refine va_put (D := (dC, dI)) (ci := 3) (v := .int (0 : Int32)) (ty := .int) (C := RX3) (T := TX3) (N := 11) hx hb hts gu_X3 tyX3 tyX3_ok nmX3 hown hK hP hD hS 0 rfl rfl 8 (by decide) (hts _ gw_83) (fun _ h9 => h9) rfl (tyX3_ok 8 (by decide)) rfl rfl (Nat.le_of_ble_eq_true rfl) dX3_begin_12 (fun H locs hP hD hS => ?_)
  have hP : va_P (dC, dI) vwCl [(h, .inr (3, [.ref h_sea, .ref h_fast, .ref h_level, .ref h_ridged, .ref h_channel, .ref h_arrived, .int x1, .int x2, .int (0 : Int32), .int f_grown, .int f_melted])), (h_channel, .inl (cI, 64, .inl r_channel)), (h_fast, .inl (cZ, 64, .inl r_fast)), (h_level, .inl (cI, 64, .inl r_level)), (h_ridged, .inl (cI, 64, .inl r_ridged)), (h_sea, .inl (cZ, 64, .inl r_sea))] _ := hP
  have hD : va_D A [(h, .inr (3, [.ref h_sea, .ref h_fast, .ref h_level, .ref h_ridged, .ref h_channel, .ref h_arrived, .int x1, .int x2, .int (0 : Int32), .int f_grown, .int f_melted])), (h_channel, .inl (cI, 64, .inl r_channel)), (h_fast, .inl (cZ, 64, .inl r_fast)), (h_level, .inl (cI, 64, .inl r_level)), (h_ridged, .inl (cI, 64, .inl r_ridged)), (h_sea, .inl (cZ, 64, .inl r_sea))] := hD
  refine lv_aload_n hx hb dX3_begin_15 rfl (lv_at hl 0 rfl) ?_
  refine lv_iconst (v := (0 : Int32)) hx hb dX3_begin_16 (by decide) ?_
  refine va_put (D := (dC, dI)) (ci := 3) (v := .int (0 : Int32)) (ty := .int) (C := RX3) (T := TX3) (N := 11) hx hb hts gu_X3 tyX3 tyX3_ok nmX3 hown hK hP hD hS 0 rfl rfl 9 (by decide) (hts _ gw_84) (fun _ h9 => h9) rfl (tyX3_ok 9 (by decide)) rfl rfl (Nat.le_of_ble_eq_true rfl) dX3_begin_17 (fun H locs hP hD hS => ?_)
  have hP : va_P (dC, dI) vwCl [(h, .inr (3, [.ref h_sea, .ref h_fast, .ref h_level, .ref h_ridged, .ref h_channel, .ref h_arrived, .int x1, .int x2, .int (0 : Int32), .int (0 : Int32), .int f_melted])), (h_channel, .inl (cI, 64, .inl r_channel)), (h_fast, .inl (cZ, 64, .inl r_fast)), (h_level, .inl (cI, 64, .inl r_level)), (h_ridged, .inl (cI, 64, .inl r_ridged)), (h_sea, .inl (cZ, 64, .inl r_sea))] _ := hP
  have hD : va_D A [(h, .inr (3, [.ref h_sea, .ref h_fast, .ref h_level, .ref h_ridged, .ref h_channel, .ref h_arrived, .int x1, .int x2, .int (0 : Int32), .int (0 : Int32), .int f_melted])), (h_channel, .inl (cI, 64, .inl r_channel)), (h_fast, .inl (cZ, 64, .inl r_fast)), (h_level, .inl (cI, 64, .inl r_level)), (h_ridged, .inl (cI, 64, .inl r_ridged)), (h_sea, .inl (cZ, 64, .inl r_sea))] := hD
  refine lv_aload_n hx hb dX3_begin_20 rfl (lv_at hl 0 rfl) ?_
  refine lv_iconst (v := (0 : Int32)) hx hb dX3_begin_21 (by decide) ?_
  refine va_put (D := (dC, dI)) (ci := 3) (v := .int (0 : Int32)) (ty := .int) (C := RX3) (T := TX3) (N := 11) hx hb hts gu_X3 tyX3 tyX3_ok nmX3 hown hK hP hD hS 0 rfl rfl 10 (by decide) (hts _ gw_85) (fun _ h9 => h9) rfl (tyX3_ok 10 (by decide)) rfl rfl (Nat.le_of_ble_eq_true rfl) dX3_begin_22 (fun H locs hP hD hS => ?_)
  have hP : va_P (dC, dI) vwCl [(h, .inr (3, [.ref h_sea, .ref h_fast, .ref h_level, .ref h_ridged, .ref h_channel, .ref h_arrived, .int x1, .int x2, .int (0 : Int32), .int (0 : Int32), .int (0 : Int32)])), (h_channel, .inl (cI, 64, .inl r_channel)), (h_fast, .inl (cZ, 64, .inl r_fast)), (h_level, .inl (cI, 64, .inl r_level)), (h_ridged, .inl (cI, 64, .inl r_ridged)), (h_sea, .inl (cZ, 64, .inl r_sea))] _ := hP
  have hD : va_D A [(h, .inr (3, [.ref h_sea, .ref h_fast, .ref h_level, .ref h_ridged, .ref h_channel, .ref h_arrived, .int x1, .int x2, .int (0 : Int32), .int (0 : Int32), .int (0 : Int32)])), (h_channel, .inl (cI, 64, .inl r_channel)), (h_fast, .inl (cZ, 64, .inl r_fast)), (h_level, .inl (cI, 64, .inl r_level)), (h_ridged, .inl (cI, 64, .inl r_ridged)), (h_sea, .inl (cZ, 64, .inl r_sea))] := hD
  refine lv_iconst (v := (0 : Int32)) hx hb dX3_begin_25 (by decide) ?_
  refine lv_istore_n (lv' := [(3, .int (0 : Int32)), (0, .ref h), (1, .int x1), (2, .int x2)]) hx hb dX3_begin_26 rfl hl (by decide) rfl (fun ls hl => ?_)
  obtain ⟨n_9, hw⟩ := hw
  exact tX3_begin_27 hC hK hA  n_9 (0 : Int32) x1 x2 (0 : Int32) (0 : Int32) (0 : Int32) r_channel r_fast r_level r_ridged r_sea _ _ ls hw (hP.sub [0, 1, 2, 3, 4, 5] rfl) (hD.sub [0, 1, 2, 3, 4, 5] (by decide) rfl) hS (lv_sub hl [1, 0] rfl)
set_option maxHeartbeats 4000000 in
set_option maxRecDepth 100000 in
theorem kX3_begin (l : Launch) (dC : Nat → ClassId) (dI : Nat → Nat → Nat) (cI cZ cO cW : ClassId) (h h_sea h_fast h_level h_ridged h_channel h_arrived : Nat)  (sz : Nat) (f_rows : Int32) (f_columns : Int32) (f_laid : Int32) (f_grown : Int32) (f_melted : Int32) (r_channel : Nat → Int32) (r_fast : Nat → Int32) (r_level : Nat → Int32) (r_ridged : Nat → Int32) (r_sea : Nat → Int32) (x1 : Int32) (x2 : Int32) (Q : Int32 → Int32 → Int32 → Int32 → Int32 → (Nat → Int32) → (Nat → Int32) → (Nat → Int32) → (Nat → Int32) → (Nat → Int32) → Prop) (hw : wX3_begin Q x1 x2 f_rows f_columns f_laid f_grown f_melted r_channel r_fast r_level r_ridged r_sea) : Met l yX3_begin zsX3_begin rmX3_begin (va_Pc [.ref h, .int x1, .int x2] (fun U => U.heap.size = sz ∧ va_P (dC, dI) vwCl (vX3_begin cI cZ h h_sea h_fast h_level h_ridged h_channel h_arrived f_rows f_columns f_laid f_grown f_melted r_channel r_fast r_level r_ridged r_sea) U.heap ∧ va_K (dC, dI) vwCl (tysA cI cZ cO cW) U ∧ va_D (fun _ => True) (vX3_begin cI cZ h h_sea h_fast h_level h_ridged h_channel h_arrived f_rows f_columns f_laid f_grown f_melted r_channel r_fast r_level r_ridged r_sea))) (qX3_begin dC dI cI cZ cO cW h h_sea h_fast h_level h_ridged h_channel h_arrived Q (va_A (vX3_begin cI cZ h h_sea h_fast h_level h_ridged h_channel h_arrived f_rows f_columns f_laid f_grown f_melted r_channel r_fast r_level r_ridged r_sea) sz)) 0 0 (va_A (vX3_begin cI cZ h h_sea h_fast h_level h_ridged h_channel h_arrived f_rows f_columns f_laid f_grown f_melted r_channel r_fast r_level r_ridged r_sea) sz) := by
  refine Met.ofW (cc := cX3_begin) (maxL := 4) (ret := none) (by decide) rfl ?_
  intro p e s m args below meth c s₁ B hml hv
  obtain ⟨rfl, hsz, hP, hK, hD0⟩ := hv
  subst hsz
  have hC : Cx p s m ([.ref h, .int x1, .int x2] : List Value).toArray meth c cX3_begin none 4 GW RX3 := ⟨B.exec, B.bytes, B.returns, hml, findClass_of_methodNamed B.named, fun w h => atoms_spec (ws := zsX3_begin) B.pre w (List.mem_cons_of_mem _ h), B.notSynchronized⟩
  have hD := hD0.self (sz := s.heap.size)
  generalize hAe : va_A (vX3_begin cI cZ h h_sea h_fast h_level h_ridged h_channel h_arrived f_rows f_columns f_laid f_grown f_melted r_channel r_fast r_level r_ridged r_sea) s.heap.size = A at hD ⊢
  have hA : ∀ q : Nat, s.heap.size ≤ q → A q := fun q h => by rw [← hAe]; exact Or.inr h
  have hl := lv_entry ([.ref h, .int x1, .int x2]) (n := 4) (Nat.le_of_ble_eq_true rfl)
  rw [lg_entry_eq]
  generalize (lg_sl ([.ref h, .int x1, .int x2]) ++ List.replicate (4 - (lg_sl ([.ref h, .int x1, .int x2])).length) Slot.unset).toArray = ls at hl ⊢
  exact tX3_begin_e hC hK hA x1 x2 f_rows f_columns f_laid f_grown f_melted r_channel r_fast r_level r_ridged r_sea _ _ ls hw hP hD va_S.rf hl

/-! X3_copy -/
def wX3_copy (Q : Int32 → Int32 → Int32 → Int32 → Int32 → (Nat → Int32) → (Nat → Int32) → (Nat → Int32) → (Nat → Int32) → (Nat → Int32) → Prop)  (f_p1_rows : Int32) (f_p1_columns : Int32) (f_p1_laid : Int32) (f_p1_grown : Int32) (f_p1_melted : Int32) (f_rows : Int32) (f_columns : Int32) (f_laid : Int32) (f_grown : Int32) (f_melted : Int32) (r_p1_channel : Nat → Int32) (r_p1_fast : Nat → Int32) (r_p1_level : Nat → Int32) (r_p1_ridged : Nat → Int32) (r_p1_sea : Nat → Int32) (r_channel : Nat → Int32) (r_fast : Nat → Int32) (r_level : Nat → Int32) (r_ridged : Nat → Int32) (r_sea : Nat → Int32) : Prop :=
  ((∀ i, i < (64 : Int32).toNatClampNeg → fits .boolean (.int (r_p1_sea ((0 : Int32).toNatClampNeg + i))) = true) ∧ ((∀ i, i < (64 : Int32).toNatClampNeg → fits .boolean (.int (r_p1_fast ((0 : Int32).toNatClampNeg + i))) = true) ∧ (Q f_p1_rows f_p1_columns f_p1_laid f_p1_grown f_p1_melted (va_cpy r_p1_channel r_channel (0 : Int32).toNatClampNeg (0 : Int32).toNatClampNeg (64 : Int32).toNatClampNeg) (va_cpy r_p1_fast r_fast (0 : Int32).toNatClampNeg (0 : Int32).toNatClampNeg (64 : Int32).toNatClampNeg) (va_cpy r_p1_level r_level (0 : Int32).toNatClampNeg (0 : Int32).toNatClampNeg (64 : Int32).toNatClampNeg) (va_cpy r_p1_ridged r_ridged (0 : Int32).toNatClampNeg (0 : Int32).toNatClampNeg (64 : Int32).toNatClampNeg) (va_cpy r_p1_sea r_sea (0 : Int32).toNatClampNeg (0 : Int32).toNatClampNeg (64 : Int32).toNatClampNeg))))
abbrev vX3_copy (cI cZ : ClassId) (h_p1 h_p1_sea h_p1_fast h_p1_level h_p1_ridged h_p1_channel h_p1_arrived h h_sea h_fast h_level h_ridged h_channel h_arrived : Nat) (f_p1_rows : Int32) (f_p1_columns : Int32) (f_p1_laid : Int32) (f_p1_grown : Int32) (f_p1_melted : Int32) (f_rows : Int32) (f_columns : Int32) (f_laid : Int32) (f_grown : Int32) (f_melted : Int32) (r_p1_channel : Nat → Int32) (r_p1_fast : Nat → Int32) (r_p1_level : Nat → Int32) (r_p1_ridged : Nat → Int32) (r_p1_sea : Nat → Int32) (r_channel : Nat → Int32) (r_fast : Nat → Int32) (r_level : Nat → Int32) (r_ridged : Nat → Int32) (r_sea : Nat → Int32) : va_W := [(h_p1, .inr (3, [.ref h_p1_sea, .ref h_p1_fast, .ref h_p1_level, .ref h_p1_ridged, .ref h_p1_channel, .ref h_p1_arrived, .int f_p1_rows, .int f_p1_columns, .int f_p1_laid, .int f_p1_grown, .int f_p1_melted])), (h, .inr (3, [.ref h_sea, .ref h_fast, .ref h_level, .ref h_ridged, .ref h_channel, .ref h_arrived, .int f_rows, .int f_columns, .int f_laid, .int f_grown, .int f_melted])), (h_p1_channel, .inl (cI, 64, .inl r_p1_channel)), (h_p1_fast, .inl (cZ, 64, .inl r_p1_fast)), (h_p1_level, .inl (cI, 64, .inl r_p1_level)), (h_p1_ridged, .inl (cI, 64, .inl r_p1_ridged)), (h_p1_sea, .inl (cZ, 64, .inl r_p1_sea)), (h_channel, .inl (cI, 64, .inl r_channel)), (h_fast, .inl (cZ, 64, .inl r_fast)), (h_level, .inl (cI, 64, .inl r_level)), (h_ridged, .inl (cI, 64, .inl r_ridged)), (h_sea, .inl (cZ, 64, .inl r_sea))]
abbrev rmX3_copy : Room := { frames := 1, cells := 0, slots := 0, locals := 26 }
abbrev qX3_copy (dC : Nat → ClassId) (dI : Nat → Nat → Nat) (cI cZ cO cW : ClassId) (h_p1 h_p1_sea h_p1_fast h_p1_level h_p1_ridged h_p1_channel h_p1_arrived h h_sea h_fast h_level h_ridged h_channel h_arrived : Nat) (f_p1_rows : Int32) (f_p1_columns : Int32) (f_p1_laid : Int32) (f_p1_grown : Int32) (f_p1_melted : Int32) (r_p1_channel : Nat → Int32) (r_p1_fast : Nat → Int32) (r_p1_level : Nat → Int32) (r_p1_ridged : Nat → Int32) (r_p1_sea : Nat → Int32) (Q : Int32 → Int32 → Int32 → Int32 → Int32 → (Nat → Int32) → (Nat → Int32) → (Nat → Int32) → (Nat → Int32) → (Nat → Int32) → Prop) (A : Nat → Prop) : Array Value → State → Outcome → State → Prop := va_Qv (fun (u : Int32 × Int32 × Int32 × Int32 × Int32 × (Nat → Int32) × (Nat → Int32) × (Nat → Int32) × (Nat → Int32) × (Nat → Int32)) => Q u.1 u.2.1 u.2.2.1 u.2.2.2.1 u.2.2.2.2.1 u.2.2.2.2.2.1 u.2.2.2.2.2.2.1 u.2.2.2.2.2.2.2.1 u.2.2.2.2.2.2.2.2.1 u.2.2.2.2.2.2.2.2.2) (fun (u : Int32 × Int32 × Int32 × Int32 × Int32 × (Nat → Int32) × (Nat → Int32) × (Nat → Int32) × (Nat → Int32) × (Nat → Int32)) (t : State) => va_P (dC, dI) vwCl (vX3_copy cI cZ h_p1 h_p1_sea h_p1_fast h_p1_level h_p1_ridged h_p1_channel h_p1_arrived h h_sea h_fast h_level h_ridged h_channel h_arrived f_p1_rows f_p1_columns f_p1_laid f_p1_grown f_p1_melted u.1 u.2.1 u.2.2.1 u.2.2.2.1 u.2.2.2.2.1 r_p1_channel r_p1_fast r_p1_level r_p1_ridged r_p1_sea u.2.2.2.2.2.1 u.2.2.2.2.2.2.1 u.2.2.2.2.2.2.2.1 u.2.2.2.2.2.2.2.2.1 u.2.2.2.2.2.2.2.2.2) t.heap ∧ va_K (dC, dI) vwCl (tysA cI cZ cO cW) t ∧ va_D A (vX3_copy cI cZ h_p1 h_p1_sea h_p1_fast h_p1_level h_p1_ridged h_p1_channel h_p1_arrived h h_sea h_fast h_level h_ridged h_channel h_arrived f_p1_rows f_p1_columns f_p1_laid f_p1_grown f_p1_melted u.1 u.2.1 u.2.2.1 u.2.2.2.1 u.2.2.2.2.1 r_p1_channel r_p1_fast r_p1_level r_p1_ridged r_p1_sea u.2.2.2.2.2.1 u.2.2.2.2.2.2.1 u.2.2.2.2.2.2.2.1 u.2.2.2.2.2.2.2.2.1 u.2.2.2.2.2.2.2.2.2)) A
def zsX3_copy : List Cond := Cond.code yX3_copy cX3_copy 2 none :: GW
set_option maxHeartbeats 4000000 in
set_option maxRecDepth 100000 in
theorem tX3_copy_e {p : Program} {l : Launch} {e : Env} {s : State} {m : MethodId} {args : Array Value} {below : List Frame} {meth : Method} {c : Code} {dC : Nat → ClassId} {dI : Nat → Nat → Nat} {cI cZ cO cW : ClassId} {A : Nat → Prop} {h_p1 h_p1_sea h_p1_fast h_p1_level h_p1_ridged h_p1_channel h_p1_arrived h h_sea h_fast h_level h_ridged h_channel h_arrived : Nat} {Q : Int32 → Int32 → Int32 → Int32 → Int32 → (Nat → Int32) → (Nat → Int32) → (Nat → Int32) → (Nat → Int32) → (Nat → Int32) → Prop} (hC : Cx p s m args meth c cX3_copy none 2 GW RX3) (hK : va_K (dC, dI) vwCl (tysA cI cZ cO cW) s) (hA : ∀ q : Nat, s.heap.size ≤ q → A q) :
    ∀ (f_p1_rows : Int32) (f_p1_columns : Int32) (f_p1_laid : Int32) (f_p1_grown : Int32) (f_p1_melted : Int32) (f_rows : Int32) (f_columns : Int32) (f_laid : Int32) (f_grown : Int32) (f_melted : Int32) (r_p1_channel : Nat → Int32) (r_p1_fast : Nat → Int32) (r_p1_level : Nat → Int32) (r_p1_ridged : Nat → Int32) (r_p1_sea : Nat → Int32) (r_channel : Nat → Int32) (r_fast : Nat → Int32) (r_level : Nat → Int32) (r_ridged : Nat → Int32) (r_sea : Nat → Int32) (H : Heap) (locs : List Loc) (ls : Array Slot), wX3_copy Q  f_p1_rows f_p1_columns f_p1_laid f_p1_grown f_p1_melted f_rows f_columns f_laid f_grown f_melted r_p1_channel r_p1_fast r_p1_level r_p1_ridged r_p1_sea r_channel r_fast r_level r_ridged r_sea → va_P (dC, dI) vwCl (vX3_copy cI cZ h_p1 h_p1_sea h_p1_fast h_p1_level h_p1_ridged h_p1_channel h_p1_arrived h h_sea h_fast h_level h_ridged h_channel h_arrived f_p1_rows f_p1_columns f_p1_laid f_p1_grown f_p1_melted f_rows f_columns f_laid f_grown f_melted r_p1_channel r_p1_fast r_p1_level r_p1_ridged r_p1_sea r_channel r_fast r_level r_ridged r_sea) H → va_D A (vX3_copy cI cZ h_p1 h_p1_sea h_p1_fast h_p1_level h_p1_ridged h_p1_channel h_p1_arrived h h_sea h_fast h_level h_ridged h_channel h_arrived f_p1_rows f_p1_columns f_p1_laid f_p1_grown f_p1_melted f_rows f_columns f_laid f_grown f_melted r_p1_channel r_p1_fast r_p1_level r_p1_ridged r_p1_sea r_channel r_fast r_level r_ridged r_sea) → va_S A s.heap H locs → lv_has ls 2 [(0, .ref h), (1, .ref h_p1)] → W p l e rmX3_copy s m args below meth c H locs 0 0 (MQ below (qX3_copy dC dI cI cZ cO cW h_p1 h_p1_sea h_p1_fast h_p1_level h_p1_ridged h_p1_channel h_p1_arrived h h_sea h_fast h_level h_ridged h_channel h_arrived f_p1_rows f_p1_columns f_p1_laid f_p1_grown f_p1_melted r_p1_channel r_p1_fast r_p1_level r_p1_ridged r_p1_sea Q A) args s 0 0 A) (F0 m 0 ls []) := by
  obtain ⟨hx, hb, hr, hml, hown, hts, hlocks⟩ := id hC
  intro  f_p1_rows f_p1_columns f_p1_laid f_p1_grown f_p1_melted f_rows f_columns f_laid f_grown f_melted r_p1_channel r_p1_fast r_p1_level r_p1_ridged r_p1_sea r_channel r_fast r_level r_ridged r_sea H locs ls hw hP hD hS hl
  refine lv_aload_n hx hb dX3_copy_0 rfl (lv_at hl 0 rfl) ?_
  refine lv_aload_n hx hb dX3_copy_1 rfl (lv_at hl 1 rfl) ?_
  refine va_get (D := (dC, dI)) (ci := 3) (v := .int f_p1_rows) (C := RX3) (T := TX3) (N := 11) hx hb hts gu_X3 hown hK hP 0 rfl rfl 6 (by decide) (hts _ gw_81) (fun _ h9 => h9) rfl dX3_copy_2 ?_
  refine va_put (D := (dC, dI)) (ci := 3) (v := .int f_p1_rows) (ty := .int) (C := RX3) (T := TX3) (N := 11) hx hb hts gu_X3 tyX3 tyX3_ok nmX3 hown hK hP hD hS 1 rfl rfl 6 (by decide) (hts _ gw_81) (fun _ h9 => h9) rfl (tyX3_ok 6 (by decide)) rfl rfl (Nat.le_of_ble_eq_true rfl) dX3_copy_5 (fun H locs hP hD hS => ?_)
  have hP : va_P (dC, dI) vwCl [(h_p1, .inr (3, [.ref h_p1_sea, .ref h_p1_fast, .ref h_p1_level, .ref h_p1_ridged, .ref h_p1_channel, .ref h_p1_arrived, .int f_p1_rows, .int f_p1_columns, .int f_p1_laid, .int f_p1_grown, .int f_p1_melted])), (h, .inr (3, [.ref h_sea, .ref h_fast, .ref h_level, .ref h_ridged, .ref h_channel, .ref h_arrived, .int f_p1_rows, .int f_columns, .int f_laid, .int f_grown, .int f_melted])), (h_p1_channel, .inl (cI, 64, .inl r_p1_channel)), (h_p1_fast, .inl (cZ, 64, .inl r_p1_fast)), (h_p1_level, .inl (cI, 64, .inl r_p1_level)), (h_p1_ridged, .inl (cI, 64, .inl r_p1_ridged)), (h_p1_sea, .inl (cZ, 64, .inl r_p1_sea)), (h_channel, .inl (cI, 64, .inl r_channel)), (h_fast, .inl (cZ, 64, .inl r_fast)), (h_level, .inl (cI, 64, .inl r_level)), (h_ridged, .inl (cI, 64, .inl r_ridged)), (h_sea, .inl (cZ, 64, .inl r_sea))] _ := hP
  have hD : va_D A [(h_p1, .inr (3, [.ref h_p1_sea, .ref h_p1_fast, .ref h_p1_level, .ref h_p1_ridged, .ref h_p1_channel, .ref h_p1_arrived, .int f_p1_rows, .int f_p1_columns, .int f_p1_laid, .int f_p1_grown, .int f_p1_melted])), (h, .inr (3, [.ref h_sea, .ref h_fast, .ref h_level, .ref h_ridged, .ref h_channel, .ref h_arrived, .int f_p1_rows, .int f_columns, .int f_laid, .int f_grown, .int f_melted])), (h_p1_channel, .inl (cI, 64, .inl r_p1_channel)), (h_p1_fast, .inl (cZ, 64, .inl r_p1_fast)), (h_p1_level, .inl (cI, 64, .inl r_p1_level)), (h_p1_ridged, .inl (cI, 64, .inl r_p1_ridged)), (h_p1_sea, .inl (cZ, 64, .inl r_p1_sea)), (h_channel, .inl (cI, 64, .inl r_channel)), (h_fast, .inl (cZ, 64, .inl r_fast)), (h_level, .inl (cI, 64, .inl r_level)), (h_ridged, .inl (cI, 64, .inl r_ridged)), (h_sea, .inl (cZ, 64, .inl r_sea))] := hD
  refine lv_aload_n hx hb dX3_copy_8 rfl (lv_at hl 0 rfl) ?_
  refine lv_aload_n hx hb dX3_copy_9 rfl (lv_at hl 1 rfl) ?_
  refine va_get (D := (dC, dI)) (ci := 3) (v := .int f_p1_columns) (C := RX3) (T := TX3) (N := 11) hx hb hts gu_X3 hown hK hP 0 rfl rfl 7 (by decide) (hts _ gw_82) (fun _ h9 => h9) rfl dX3_copy_10 ?_
  refine va_put (D := (dC, dI)) (ci := 3) (v := .int f_p1_columns) (ty := .int) (C := RX3) (T := TX3) (N := 11) hx hb hts gu_X3 tyX3 tyX3_ok nmX3 hown hK hP hD hS 1 rfl rfl 7 (by decide) (hts _ gw_82) (fun _ h9 => h9) rfl (tyX3_ok 7 (by decide)) rfl rfl (Nat.le_of_ble_eq_true rfl) dX3_copy_13 (fun H locs hP hD hS => ?_)
  have hP : va_P (dC, dI) vwCl [(h_p1, .inr (3, [.ref h_p1_sea, .ref h_p1_fast, .ref h_p1_level, .ref h_p1_ridged, .ref h_p1_channel, .ref h_p1_arrived, .int f_p1_rows, .int f_p1_columns, .int f_p1_laid, .int f_p1_grown, .int f_p1_melted])), (h, .inr (3, [.ref h_sea, .ref h_fast, .ref h_level, .ref h_ridged, .ref h_channel, .ref h_arrived, .int f_p1_rows, .int f_p1_columns, .int f_laid, .int f_grown, .int f_melted])), (h_p1_channel, .inl (cI, 64, .inl r_p1_channel)), (h_p1_fast, .inl (cZ, 64, .inl r_p1_fast)), (h_p1_level, .inl (cI, 64, .inl r_p1_level)), (h_p1_ridged, .inl (cI, 64, .inl r_p1_ridged)), (h_p1_sea, .inl (cZ, 64, .inl r_p1_sea)), (h_channel, .inl (cI, 64, .inl r_channel)), (h_fast, .inl (cZ, 64, .inl r_fast)), (h_level, .inl (cI, 64, .inl r_level)), (h_ridged, .inl (cI, 64, .inl r_ridged)), (h_sea, .inl (cZ, 64, .inl r_sea))] _ := hP
  have hD : va_D A [(h_p1, .inr (3, [.ref h_p1_sea, .ref h_p1_fast, .ref h_p1_level, .ref h_p1_ridged, .ref h_p1_channel, .ref h_p1_arrived, .int f_p1_rows, .int f_p1_columns, .int f_p1_laid, .int f_p1_grown, .int f_p1_melted])), (h, .inr (3, [.ref h_sea, .ref h_fast, .ref h_level, .ref h_ridged, .ref h_channel, .ref h_arrived, .int f_p1_rows, .int f_p1_columns, .int f_laid, .int f_grown, .int f_melted])), (h_p1_channel, .inl (cI, 64, .inl r_p1_channel)), (h_p1_fast, .inl (cZ, 64, .inl r_p1_fast)), (h_p1_level, .inl (cI, 64, .inl r_p1_level)), (h_p1_ridged, .inl (cI, 64, .inl r_p1_ridged)), (h_p1_sea, .inl (cZ, 64, .inl r_p1_sea)), (h_channel, .inl (cI, 64, .inl r_channel)), (h_fast, .inl (cZ, 64, .inl r_fast)), (h_level, .inl (cI, 64, .inl r_level)), (h_ridged, .inl (cI, 64, .inl r_ridged)), (h_sea, .inl (cZ, 64, .inl r_sea))] := hD
  refine lv_aload_n hx hb dX3_copy_16 rfl (lv_at hl 0 rfl) ?_
  refine lv_aload_n hx hb dX3_copy_17 rfl (lv_at hl 1 rfl) ?_
  refine va_get (D := (dC, dI)) (ci := 3) (v := .int f_p1_laid) (C := RX3) (T := TX3) (N := 11) hx hb hts gu_X3 hown hK hP 0 rfl rfl 8 (by decide) (hts _ gw_83) (fun _ h9 => h9) rfl dX3_copy_18 ?_
  refine va_put (D := (dC, dI)) (ci := 3) (v := .int f_p1_laid) (ty := .int) (C := RX3) (T := TX3) (N := 11) hx hb hts gu_X3 tyX3 tyX3_ok nmX3 hown hK hP hD hS 1 rfl rfl 8 (by decide) (hts _ gw_83) (fun _ h9 => h9) rfl (tyX3_ok 8 (by decide)) rfl rfl (Nat.le_of_ble_eq_true rfl) dX3_copy_21 (fun H locs hP hD hS => ?_)
  have hP : va_P (dC, dI) vwCl [(h_p1, .inr (3, [.ref h_p1_sea, .ref h_p1_fast, .ref h_p1_level, .ref h_p1_ridged, .ref h_p1_channel, .ref h_p1_arrived, .int f_p1_rows, .int f_p1_columns, .int f_p1_laid, .int f_p1_grown, .int f_p1_melted])), (h, .inr (3, [.ref h_sea, .ref h_fast, .ref h_level, .ref h_ridged, .ref h_channel, .ref h_arrived, .int f_p1_rows, .int f_p1_columns, .int f_p1_laid, .int f_grown, .int f_melted])), (h_p1_channel, .inl (cI, 64, .inl r_p1_channel)), (h_p1_fast, .inl (cZ, 64, .inl r_p1_fast)), (h_p1_level, .inl (cI, 64, .inl r_p1_level)), (h_p1_ridged, .inl (cI, 64, .inl r_p1_ridged)), (h_p1_sea, .inl (cZ, 64, .inl r_p1_sea)), (h_channel, .inl (cI, 64, .inl r_channel)), (h_fast, .inl (cZ, 64, .inl r_fast)), (h_level, .inl (cI, 64, .inl r_level)), (h_ridged, .inl (cI, 64, .inl r_ridged)), (h_sea, .inl (cZ, 64, .inl r_sea))] _ := hP
  have hD : va_D A [(h_p1, .inr (3, [.ref h_p1_sea, .ref h_p1_fast, .ref h_p1_level, .ref h_p1_ridged, .ref h_p1_channel, .ref h_p1_arrived, .int f_p1_rows, .int f_p1_columns, .int f_p1_laid, .int f_p1_grown, .int f_p1_melted])), (h, .inr (3, [.ref h_sea, .ref h_fast, .ref h_level, .ref h_ridged, .ref h_channel, .ref h_arrived, .int f_p1_rows, .int f_p1_columns, .int f_p1_laid, .int f_grown, .int f_melted])), (h_p1_channel, .inl (cI, 64, .inl r_p1_channel)), (h_p1_fast, .inl (cZ, 64, .inl r_p1_fast)), (h_p1_level, .inl (cI, 64, .inl r_p1_level)), (h_p1_ridged, .inl (cI, 64, .inl r_p1_ridged)), (h_p1_sea, .inl (cZ, 64, .inl r_p1_sea)), (h_channel, .inl (cI, 64, .inl r_channel)), (h_fast, .inl (cZ, 64, .inl r_fast)), (h_level, .inl (cI, 64, .inl r_level)), (h_ridged, .inl (cI, 64, .inl r_ridged)), (h_sea, .inl (cZ, 64, .inl r_sea))] := hD
  refine lv_aload_n hx hb dX3_copy_24 rfl (lv_at hl 0 rfl) ?_
  refine lv_aload_n hx hb dX3_copy_25 rfl (lv_at hl 1 rfl) ?_
  refine va_get (D := (dC, dI)) (ci := 3) (v := .int f_p1_grown) (C := RX3) (T := TX3) (N := 11) hx hb hts gu_X3 hown hK hP 0 rfl rfl 9 (by decide) (hts _ gw_84) (fun _ h9 => h9) rfl dX3_copy_26 ?_
  refine va_put (D := (dC, dI)) (ci := 3) (v := .int f_p1_grown) (ty := .int) (C := RX3) (T := TX3) (N := 11) hx hb hts gu_X3 tyX3 tyX3_ok nmX3 hown hK hP hD hS 1 rfl rfl 9 (by decide) (hts _ gw_84) (fun _ h9 => h9) rfl (tyX3_ok 9 (by decide)) rfl rfl (Nat.le_of_ble_eq_true rfl) dX3_copy_29 (fun H locs hP hD hS => ?_)
  have hP : va_P (dC, dI) vwCl [(h_p1, .inr (3, [.ref h_p1_sea, .ref h_p1_fast, .ref h_p1_level, .ref h_p1_ridged, .ref h_p1_channel, .ref h_p1_arrived, .int f_p1_rows, .int f_p1_columns, .int f_p1_laid, .int f_p1_grown, .int f_p1_melted])), (h, .inr (3, [.ref h_sea, .ref h_fast, .ref h_level, .ref h_ridged, .ref h_channel, .ref h_arrived, .int f_p1_rows, .int f_p1_columns, .int f_p1_laid, .int f_p1_grown, .int f_melted])), (h_p1_channel, .inl (cI, 64, .inl r_p1_channel)), (h_p1_fast, .inl (cZ, 64, .inl r_p1_fast)), (h_p1_level, .inl (cI, 64, .inl r_p1_level)), (h_p1_ridged, .inl (cI, 64, .inl r_p1_ridged)), (h_p1_sea, .inl (cZ, 64, .inl r_p1_sea)), (h_channel, .inl (cI, 64, .inl r_channel)), (h_fast, .inl (cZ, 64, .inl r_fast)), (h_level, .inl (cI, 64, .inl r_level)), (h_ridged, .inl (cI, 64, .inl r_ridged)), (h_sea, .inl (cZ, 64, .inl r_sea))] _ := hP
  have hD : va_D A [(h_p1, .inr (3, [.ref h_p1_sea, .ref h_p1_fast, .ref h_p1_level, .ref h_p1_ridged, .ref h_p1_channel, .ref h_p1_arrived, .int f_p1_rows, .int f_p1_columns, .int f_p1_laid, .int f_p1_grown, .int f_p1_melted])), (h, .inr (3, [.ref h_sea, .ref h_fast, .ref h_level, .ref h_ridged, .ref h_channel, .ref h_arrived, .int f_p1_rows, .int f_p1_columns, .int f_p1_laid, .int f_p1_grown, .int f_melted])), (h_p1_channel, .inl (cI, 64, .inl r_p1_channel)), (h_p1_fast, .inl (cZ, 64, .inl r_p1_fast)), (h_p1_level, .inl (cI, 64, .inl r_p1_level)), (h_p1_ridged, .inl (cI, 64, .inl r_p1_ridged)), (h_p1_sea, .inl (cZ, 64, .inl r_p1_sea)), (h_channel, .inl (cI, 64, .inl r_channel)), (h_fast, .inl (cZ, 64, .inl r_fast)), (h_level, .inl (cI, 64, .inl r_level)), (h_ridged, .inl (cI, 64, .inl r_ridged)), (h_sea, .inl (cZ, 64, .inl r_sea))] := hD
  refine lv_aload_n hx hb dX3_copy_32 rfl (lv_at hl 0 rfl) ?_
  refine lv_aload_n hx hb dX3_copy_33 rfl (lv_at hl 1 rfl) ?_
  refine va_get (D := (dC, dI)) (ci := 3) (v := .int f_p1_melted) (C := RX3) (T := TX3) (N := 11) hx hb hts gu_X3 hown hK hP 0 rfl rfl 10 (by decide) (hts _ gw_85) (fun _ h9 => h9) rfl dX3_copy_34 ?_
  refine va_put (D := (dC, dI)) (ci := 3) (v := .int f_p1_melted) (ty := .int) (C := RX3) (T := TX3) (N := 11) hx hb hts gu_X3 tyX3 tyX3_ok nmX3 hown hK hP hD hS 1 rfl rfl 10 (by decide) (hts _ gw_85) (fun _ h9 => h9) rfl (tyX3_ok 10 (by decide)) rfl rfl (Nat.le_of_ble_eq_true rfl) dX3_copy_37 (fun H locs hP hD hS => ?_)
  have hP : va_P (dC, dI) vwCl [(h_p1, .inr (3, [.ref h_p1_sea, .ref h_p1_fast, .ref h_p1_level, .ref h_p1_ridged, .ref h_p1_channel, .ref h_p1_arrived, .int f_p1_rows, .int f_p1_columns, .int f_p1_laid, .int f_p1_grown, .int f_p1_melted])), (h, .inr (3, [.ref h_sea, .ref h_fast, .ref h_level, .ref h_ridged, .ref h_channel, .ref h_arrived, .int f_p1_rows, .int f_p1_columns, .int f_p1_laid, .int f_p1_grown, .int f_p1_melted])), (h_p1_channel, .inl (cI, 64, .inl r_p1_channel)), (h_p1_fast, .inl (cZ, 64, .inl r_p1_fast)), (h_p1_level, .inl (cI, 64, .inl r_p1_level)), (h_p1_ridged, .inl (cI, 64, .inl r_p1_ridged)), (h_p1_sea, .inl (cZ, 64, .inl r_p1_sea)), (h_channel, .inl (cI, 64, .inl r_channel)), (h_fast, .inl (cZ, 64, .inl r_fast)), (h_level, .inl (cI, 64, .inl r_level)), (h_ridged, .inl (cI, 64, .inl r_ridged)), (h_sea, .inl (cZ, 64, .inl r_sea))] _ := hP
  have hD : va_D A [(h_p1, .inr (3, [.ref h_p1_sea, .ref h_p1_fast, .ref h_p1_level, .ref h_p1_ridged, .ref h_p1_channel, .ref h_p1_arrived, .int f_p1_rows, .int f_p1_columns, .int f_p1_laid, .int f_p1_grown, .int f_p1_melted])), (h, .inr (3, [.ref h_sea, .ref h_fast, .ref h_level, .ref h_ridged, .ref h_channel, .ref h_arrived, .int f_p1_rows, .int f_p1_columns, .int f_p1_laid, .int f_p1_grown, .int f_p1_melted])), (h_p1_channel, .inl (cI, 64, .inl r_p1_channel)), (h_p1_fast, .inl (cZ, 64, .inl r_p1_fast)), (h_p1_level, .inl (cI, 64, .inl r_p1_level)), (h_p1_ridged, .inl (cI, 64, .inl r_p1_ridged)), (h_p1_sea, .inl (cZ, 64, .inl r_p1_sea)), (h_channel, .inl (cI, 64, .inl r_channel)), (h_fast, .inl (cZ, 64, .inl r_fast)), (h_level, .inl (cI, 64, .inl r_level)), (h_ridged, .inl (cI, 64, .inl r_ridged)), (h_sea, .inl (cZ, 64, .inl r_sea))] := hD
  refine lv_aload_n hx hb dX3_copy_40 rfl (lv_at hl 1 rfl) ?_
  refine va_get (D := (dC, dI)) (ci := 3) (v := .ref h_p1_sea) (C := RX3) (T := TX3) (N := 11) hx hb hts gu_X3 hown hK hP 0 rfl rfl 0 (by decide) (hts _ gw_75) (fun _ h9 => h9) rfl dX3_copy_41 ?_
  refine lv_iconst (v := (0 : Int32)) hx hb dX3_copy_44 (by decide) ?_
  refine lv_aload_n hx hb dX3_copy_45 rfl (lv_at hl 0 rfl) ?_
  refine va_get (D := (dC, dI)) (ci := 3) (v := .ref h_sea) (C := RX3) (T := TX3) (N := 11) hx hb hts gu_X3 hown hK hP 1 rfl rfl 0 (by decide) (hts _ gw_75) (fun _ h9 => h9) rfl dX3_copy_46 ?_
  refine lv_iconst (v := (0 : Int32)) hx hb dX3_copy_49 (by decide) ?_
  refine lv_bipush (v := (64 : Int32)) hx hb dX3_copy_50 (by decide) ?_
  obtain ⟨h_1, hw⟩ := hw
  refine va_copyi hx hb (hml.trans hl.1.symm) hown (hts _ gw_119) (hts _ gw_14) (hts _ gw_15) (hts _ gw_16) hK hP hD hS 6 11 1 1 rfl rfl rfl rfl rfl (by decide) (by decide) (by decide) (by decide) (by decide) h_1 (Nat.le_of_ble_eq_true rfl) (Nat.le_of_ble_eq_true rfl) dX3_copy_52 (fun H locs hP hD hS => ?_)
  have hP : va_P (dC, dI) vwCl [(h_p1, .inr (3, [.ref h_p1_sea, .ref h_p1_fast, .ref h_p1_level, .ref h_p1_ridged, .ref h_p1_channel, .ref h_p1_arrived, .int f_p1_rows, .int f_p1_columns, .int f_p1_laid, .int f_p1_grown, .int f_p1_melted])), (h, .inr (3, [.ref h_sea, .ref h_fast, .ref h_level, .ref h_ridged, .ref h_channel, .ref h_arrived, .int f_p1_rows, .int f_p1_columns, .int f_p1_laid, .int f_p1_grown, .int f_p1_melted])), (h_p1_channel, .inl (cI, 64, .inl r_p1_channel)), (h_p1_fast, .inl (cZ, 64, .inl r_p1_fast)), (h_p1_level, .inl (cI, 64, .inl r_p1_level)), (h_p1_ridged, .inl (cI, 64, .inl r_p1_ridged)), (h_p1_sea, .inl (cZ, 64, .inl r_p1_sea)), (h_channel, .inl (cI, 64, .inl r_channel)), (h_fast, .inl (cZ, 64, .inl r_fast)), (h_level, .inl (cI, 64, .inl r_level)), (h_ridged, .inl (cI, 64, .inl r_ridged)), (h_sea, .inl (cZ, 64, .inl (va_cpy r_p1_sea r_sea (0 : Int32).toNatClampNeg (0 : Int32).toNatClampNeg (64 : Int32).toNatClampNeg)))] _ := hP
  have hD : va_D A [(h_p1, .inr (3, [.ref h_p1_sea, .ref h_p1_fast, .ref h_p1_level, .ref h_p1_ridged, .ref h_p1_channel, .ref h_p1_arrived, .int f_p1_rows, .int f_p1_columns, .int f_p1_laid, .int f_p1_grown, .int f_p1_melted])), (h, .inr (3, [.ref h_sea, .ref h_fast, .ref h_level, .ref h_ridged, .ref h_channel, .ref h_arrived, .int f_p1_rows, .int f_p1_columns, .int f_p1_laid, .int f_p1_grown, .int f_p1_melted])), (h_p1_channel, .inl (cI, 64, .inl r_p1_channel)), (h_p1_fast, .inl (cZ, 64, .inl r_p1_fast)), (h_p1_level, .inl (cI, 64, .inl r_p1_level)), (h_p1_ridged, .inl (cI, 64, .inl r_p1_ridged)), (h_p1_sea, .inl (cZ, 64, .inl r_p1_sea)), (h_channel, .inl (cI, 64, .inl r_channel)), (h_fast, .inl (cZ, 64, .inl r_fast)), (h_level, .inl (cI, 64, .inl r_level)), (h_ridged, .inl (cI, 64, .inl r_ridged)), (h_sea, .inl (cZ, 64, .inl (va_cpy r_p1_sea r_sea (0 : Int32).toNatClampNeg (0 : Int32).toNatClampNeg (64 : Int32).toNatClampNeg)))] := hD
  refine lv_aload_n hx hb dX3_copy_55 rfl (lv_at hl 1 rfl) ?_
  refine va_get (D := (dC, dI)) (ci := 3) (v := .ref h_p1_fast) (C := RX3) (T := TX3) (N := 11) hx hb hts gu_X3 hown hK hP 0 rfl rfl 1 (by decide) (hts _ gw_76) (fun _ h9 => h9) rfl dX3_copy_56 ?_
  refine lv_iconst (v := (0 : Int32)) hx hb dX3_copy_59 (by decide) ?_
  refine lv_aload_n hx hb dX3_copy_60 rfl (lv_at hl 0 rfl) ?_
  refine va_get (D := (dC, dI)) (ci := 3) (v := .ref h_fast) (C := RX3) (T := TX3) (N := 11) hx hb hts gu_X3 hown hK hP 1 rfl rfl 1 (by decide) (hts _ gw_76) (fun _ h9 => h9) rfl dX3_copy_61 ?_
  refine lv_iconst (v := (0 : Int32)) hx hb dX3_copy_64 (by decide) ?_
  refine lv_bipush (v := (64 : Int32)) hx hb dX3_copy_65 (by decide) ?_
  obtain ⟨h_2, hw⟩ := hw
  refine va_copyi hx hb (hml.trans hl.1.symm) hown (hts _ gw_119) (hts _ gw_14) (hts _ gw_15) (hts _ gw_16) hK hP hD hS 3 8 1 1 rfl rfl rfl rfl rfl (by decide) (by decide) (by decide) (by decide) (by decide) h_2 (Nat.le_of_ble_eq_true rfl) (Nat.le_of_ble_eq_true rfl) dX3_copy_67 (fun H locs hP hD hS => ?_)
  have hP : va_P (dC, dI) vwCl [(h_p1, .inr (3, [.ref h_p1_sea, .ref h_p1_fast, .ref h_p1_level, .ref h_p1_ridged, .ref h_p1_channel, .ref h_p1_arrived, .int f_p1_rows, .int f_p1_columns, .int f_p1_laid, .int f_p1_grown, .int f_p1_melted])), (h, .inr (3, [.ref h_sea, .ref h_fast, .ref h_level, .ref h_ridged, .ref h_channel, .ref h_arrived, .int f_p1_rows, .int f_p1_columns, .int f_p1_laid, .int f_p1_grown, .int f_p1_melted])), (h_p1_channel, .inl (cI, 64, .inl r_p1_channel)), (h_p1_fast, .inl (cZ, 64, .inl r_p1_fast)), (h_p1_level, .inl (cI, 64, .inl r_p1_level)), (h_p1_ridged, .inl (cI, 64, .inl r_p1_ridged)), (h_p1_sea, .inl (cZ, 64, .inl r_p1_sea)), (h_channel, .inl (cI, 64, .inl r_channel)), (h_fast, .inl (cZ, 64, .inl (va_cpy r_p1_fast r_fast (0 : Int32).toNatClampNeg (0 : Int32).toNatClampNeg (64 : Int32).toNatClampNeg))), (h_level, .inl (cI, 64, .inl r_level)), (h_ridged, .inl (cI, 64, .inl r_ridged)), (h_sea, .inl (cZ, 64, .inl (va_cpy r_p1_sea r_sea (0 : Int32).toNatClampNeg (0 : Int32).toNatClampNeg (64 : Int32).toNatClampNeg)))] _ := hP
  have hD : va_D A [(h_p1, .inr (3, [.ref h_p1_sea, .ref h_p1_fast, .ref h_p1_level, .ref h_p1_ridged, .ref h_p1_channel, .ref h_p1_arrived, .int f_p1_rows, .int f_p1_columns, .int f_p1_laid, .int f_p1_grown, .int f_p1_melted])), (h, .inr (3, [.ref h_sea, .ref h_fast, .ref h_level, .ref h_ridged, .ref h_channel, .ref h_arrived, .int f_p1_rows, .int f_p1_columns, .int f_p1_laid, .int f_p1_grown, .int f_p1_melted])), (h_p1_channel, .inl (cI, 64, .inl r_p1_channel)), (h_p1_fast, .inl (cZ, 64, .inl r_p1_fast)), (h_p1_level, .inl (cI, 64, .inl r_p1_level)), (h_p1_ridged, .inl (cI, 64, .inl r_p1_ridged)), (h_p1_sea, .inl (cZ, 64, .inl r_p1_sea)), (h_channel, .inl (cI, 64, .inl r_channel)), (h_fast, .inl (cZ, 64, .inl (va_cpy r_p1_fast r_fast (0 : Int32).toNatClampNeg (0 : Int32).toNatClampNeg (64 : Int32).toNatClampNeg))), (h_level, .inl (cI, 64, .inl r_level)), (h_ridged, .inl (cI, 64, .inl r_ridged)), (h_sea, .inl (cZ, 64, .inl (va_cpy r_p1_sea r_sea (0 : Int32).toNatClampNeg (0 : Int32).toNatClampNeg (64 : Int32).toNatClampNeg)))] := hD
  refine lv_aload_n hx hb dX3_copy_70 rfl (lv_at hl 1 rfl) ?_
  refine va_get (D := (dC, dI)) (ci := 3) (v := .ref h_p1_level) (C := RX3) (T := TX3) (N := 11) hx hb hts gu_X3 hown hK hP 0 rfl rfl 2 (by decide) (hts _ gw_77) (fun _ h9 => h9) rfl dX3_copy_71 ?_
  refine lv_iconst (v := (0 : Int32)) hx hb dX3_copy_74 (by decide) ?_
  refine lv_aload_n hx hb dX3_copy_75 rfl (lv_at hl 0 rfl) ?_
  refine va_get (D := (dC, dI)) (ci := 3) (v := .ref h_level) (C := RX3) (T := TX3) (N := 11) hx hb hts gu_X3 hown hK hP 1 rfl rfl 2 (by decide) (hts _ gw_77) (fun _ h9 => h9) rfl dX3_copy_76 ?_
  refine lv_iconst (v := (0 : Int32)) hx hb dX3_copy_79 (by decide) ?_
  refine lv_bipush (v := (64 : Int32)) hx hb dX3_copy_80 (by decide) ?_
  refine va_copyi hx hb (hml.trans hl.1.symm) hown (hts _ gw_119) (hts _ gw_14) (hts _ gw_15) (hts _ gw_16) hK hP hD hS 4 9 0 0 rfl rfl rfl rfl rfl (by decide) (by decide) (by decide) (by decide) (by decide) (fun _ _ => rfl) (Nat.le_of_ble_eq_true rfl) (Nat.le_of_ble_eq_true rfl) dX3_copy_82 (fun H locs hP hD hS => ?_)
  have hP : va_P (dC, dI) vwCl [(h_p1, .inr (3, [.ref h_p1_sea, .ref h_p1_fast, .ref h_p1_level, .ref h_p1_ridged, .ref h_p1_channel, .ref h_p1_arrived, .int f_p1_rows, .int f_p1_columns, .int f_p1_laid, .int f_p1_grown, .int f_p1_melted])), (h, .inr (3, [.ref h_sea, .ref h_fast, .ref h_level, .ref h_ridged, .ref h_channel, .ref h_arrived, .int f_p1_rows, .int f_p1_columns, .int f_p1_laid, .int f_p1_grown, .int f_p1_melted])), (h_p1_channel, .inl (cI, 64, .inl r_p1_channel)), (h_p1_fast, .inl (cZ, 64, .inl r_p1_fast)), (h_p1_level, .inl (cI, 64, .inl r_p1_level)), (h_p1_ridged, .inl (cI, 64, .inl r_p1_ridged)), (h_p1_sea, .inl (cZ, 64, .inl r_p1_sea)), (h_channel, .inl (cI, 64, .inl r_channel)), (h_fast, .inl (cZ, 64, .inl (va_cpy r_p1_fast r_fast (0 : Int32).toNatClampNeg (0 : Int32).toNatClampNeg (64 : Int32).toNatClampNeg))), (h_level, .inl (cI, 64, .inl (va_cpy r_p1_level r_level (0 : Int32).toNatClampNeg (0 : Int32).toNatClampNeg (64 : Int32).toNatClampNeg))), (h_ridged, .inl (cI, 64, .inl r_ridged)), (h_sea, .inl (cZ, 64, .inl (va_cpy r_p1_sea r_sea (0 : Int32).toNatClampNeg (0 : Int32).toNatClampNeg (64 : Int32).toNatClampNeg)))] _ := hP
  have hD : va_D A [(h_p1, .inr (3, [.ref h_p1_sea, .ref h_p1_fast, .ref h_p1_level, .ref h_p1_ridged, .ref h_p1_channel, .ref h_p1_arrived, .int f_p1_rows, .int f_p1_columns, .int f_p1_laid, .int f_p1_grown, .int f_p1_melted])), (h, .inr (3, [.ref h_sea, .ref h_fast, .ref h_level, .ref h_ridged, .ref h_channel, .ref h_arrived, .int f_p1_rows, .int f_p1_columns, .int f_p1_laid, .int f_p1_grown, .int f_p1_melted])), (h_p1_channel, .inl (cI, 64, .inl r_p1_channel)), (h_p1_fast, .inl (cZ, 64, .inl r_p1_fast)), (h_p1_level, .inl (cI, 64, .inl r_p1_level)), (h_p1_ridged, .inl (cI, 64, .inl r_p1_ridged)), (h_p1_sea, .inl (cZ, 64, .inl r_p1_sea)), (h_channel, .inl (cI, 64, .inl r_channel)), (h_fast, .inl (cZ, 64, .inl (va_cpy r_p1_fast r_fast (0 : Int32).toNatClampNeg (0 : Int32).toNatClampNeg (64 : Int32).toNatClampNeg))), (h_level, .inl (cI, 64, .inl (va_cpy r_p1_level r_level (0 : Int32).toNatClampNeg (0 : Int32).toNatClampNeg (64 : Int32).toNatClampNeg))), (h_ridged, .inl (cI, 64, .inl r_ridged)), (h_sea, .inl (cZ, 64, .inl (va_cpy r_p1_sea r_sea (0 : Int32).toNatClampNeg (0 : Int32).toNatClampNeg (64 : Int32).toNatClampNeg)))] := hD
  refine lv_aload_n hx hb dX3_copy_85 rfl (lv_at hl 1 rfl) ?_
  refine va_get (D := (dC, dI)) (ci := 3) (v := .ref h_p1_ridged) (C := RX3) (T := TX3) (N := 11) hx hb hts gu_X3 hown hK hP 0 rfl rfl 3 (by decide) (hts _ gw_78) (fun _ h9 => h9) rfl dX3_copy_86 ?_
  refine lv_iconst (v := (0 : Int32)) hx hb dX3_copy_89 (by decide) ?_
  refine lv_aload_n hx hb dX3_copy_90 rfl (lv_at hl 0 rfl) ?_
  refine va_get (D := (dC, dI)) (ci := 3) (v := .ref h_ridged) (C := RX3) (T := TX3) (N := 11) hx hb hts gu_X3 hown hK hP 1 rfl rfl 3 (by decide) (hts _ gw_78) (fun _ h9 => h9) rfl dX3_copy_91 ?_
  refine lv_iconst (v := (0 : Int32)) hx hb dX3_copy_94 (by decide) ?_
  refine lv_bipush (v := (64 : Int32)) hx hb dX3_copy_95 (by decide) ?_
  refine va_copyi hx hb (hml.trans hl.1.symm) hown (hts _ gw_119) (hts _ gw_14) (hts _ gw_15) (hts _ gw_16) hK hP hD hS 5 10 0 0 rfl rfl rfl rfl rfl (by decide) (by decide) (by decide) (by decide) (by decide) (fun _ _ => rfl) (Nat.le_of_ble_eq_true rfl) (Nat.le_of_ble_eq_true rfl) dX3_copy_97 (fun H locs hP hD hS => ?_)
  have hP : va_P (dC, dI) vwCl [(h_p1, .inr (3, [.ref h_p1_sea, .ref h_p1_fast, .ref h_p1_level, .ref h_p1_ridged, .ref h_p1_channel, .ref h_p1_arrived, .int f_p1_rows, .int f_p1_columns, .int f_p1_laid, .int f_p1_grown, .int f_p1_melted])), (h, .inr (3, [.ref h_sea, .ref h_fast, .ref h_level, .ref h_ridged, .ref h_channel, .ref h_arrived, .int f_p1_rows, .int f_p1_columns, .int f_p1_laid, .int f_p1_grown, .int f_p1_melted])), (h_p1_channel, .inl (cI, 64, .inl r_p1_channel)), (h_p1_fast, .inl (cZ, 64, .inl r_p1_fast)), (h_p1_level, .inl (cI, 64, .inl r_p1_level)), (h_p1_ridged, .inl (cI, 64, .inl r_p1_ridged)), (h_p1_sea, .inl (cZ, 64, .inl r_p1_sea)), (h_channel, .inl (cI, 64, .inl r_channel)), (h_fast, .inl (cZ, 64, .inl (va_cpy r_p1_fast r_fast (0 : Int32).toNatClampNeg (0 : Int32).toNatClampNeg (64 : Int32).toNatClampNeg))), (h_level, .inl (cI, 64, .inl (va_cpy r_p1_level r_level (0 : Int32).toNatClampNeg (0 : Int32).toNatClampNeg (64 : Int32).toNatClampNeg))), (h_ridged, .inl (cI, 64, .inl (va_cpy r_p1_ridged r_ridged (0 : Int32).toNatClampNeg (0 : Int32).toNatClampNeg (64 : Int32).toNatClampNeg))), (h_sea, .inl (cZ, 64, .inl (va_cpy r_p1_sea r_sea (0 : Int32).toNatClampNeg (0 : Int32).toNatClampNeg (64 : Int32).toNatClampNeg)))] _ := hP
  have hD : va_D A [(h_p1, .inr (3, [.ref h_p1_sea, .ref h_p1_fast, .ref h_p1_level, .ref h_p1_ridged, .ref h_p1_channel, .ref h_p1_arrived, .int f_p1_rows, .int f_p1_columns, .int f_p1_laid, .int f_p1_grown, .int f_p1_melted])), (h, .inr (3, [.ref h_sea, .ref h_fast, .ref h_level, .ref h_ridged, .ref h_channel, .ref h_arrived, .int f_p1_rows, .int f_p1_columns, .int f_p1_laid, .int f_p1_grown, .int f_p1_melted])), (h_p1_channel, .inl (cI, 64, .inl r_p1_channel)), (h_p1_fast, .inl (cZ, 64, .inl r_p1_fast)), (h_p1_level, .inl (cI, 64, .inl r_p1_level)), (h_p1_ridged, .inl (cI, 64, .inl r_p1_ridged)), (h_p1_sea, .inl (cZ, 64, .inl r_p1_sea)), (h_channel, .inl (cI, 64, .inl r_channel)), (h_fast, .inl (cZ, 64, .inl (va_cpy r_p1_fast r_fast (0 : Int32).toNatClampNeg (0 : Int32).toNatClampNeg (64 : Int32).toNatClampNeg))), (h_level, .inl (cI, 64, .inl (va_cpy r_p1_level r_level (0 : Int32).toNatClampNeg (0 : Int32).toNatClampNeg (64 : Int32).toNatClampNeg))), (h_ridged, .inl (cI, 64, .inl (va_cpy r_p1_ridged r_ridged (0 : Int32).toNatClampNeg (0 : Int32).toNatClampNeg (64 : Int32).toNatClampNeg))), (h_sea, .inl (cZ, 64, .inl (va_cpy r_p1_sea r_sea (0 : Int32).toNatClampNeg (0 : Int32).toNatClampNeg (64 : Int32).toNatClampNeg)))] := hD
  refine lv_aload_n hx hb dX3_copy_100 rfl (lv_at hl 1 rfl) ?_
  refine va_get (D := (dC, dI)) (ci := 3) (v := .ref h_p1_channel) (C := RX3) (T := TX3) (N := 11) hx hb hts gu_X3 hown hK hP 0 rfl rfl 4 (by decide) (hts _ gw_79) (fun _ h9 => h9) rfl dX3_copy_101 ?_
  refine lv_iconst (v := (0 : Int32)) hx hb dX3_copy_104 (by decide) ?_
  refine lv_aload_n hx hb dX3_copy_105 rfl (lv_at hl 0 rfl) ?_
  refine va_get (D := (dC, dI)) (ci := 3) (v := .ref h_channel) (C := RX3) (T := TX3) (N := 11) hx hb hts gu_X3 hown hK hP 1 rfl rfl 4 (by decide) (hts _ gw_79) (fun _ h9 => h9) rfl dX3_copy_106 ?_
  refine lv_iconst (v := (0 : Int32)) hx hb dX3_copy_109 (by decide) ?_
  refine lv_bipush (v := (64 : Int32)) hx hb dX3_copy_110 (by decide) ?_
  refine va_copyi hx hb (hml.trans hl.1.symm) hown (hts _ gw_119) (hts _ gw_14) (hts _ gw_15) (hts _ gw_16) hK hP hD hS 2 7 0 0 rfl rfl rfl rfl rfl (by decide) (by decide) (by decide) (by decide) (by decide) (fun _ _ => rfl) (Nat.le_of_ble_eq_true rfl) (Nat.le_of_ble_eq_true rfl) dX3_copy_112 (fun H locs hP hD hS => ?_)
  have hP : va_P (dC, dI) vwCl [(h_p1, .inr (3, [.ref h_p1_sea, .ref h_p1_fast, .ref h_p1_level, .ref h_p1_ridged, .ref h_p1_channel, .ref h_p1_arrived, .int f_p1_rows, .int f_p1_columns, .int f_p1_laid, .int f_p1_grown, .int f_p1_melted])), (h, .inr (3, [.ref h_sea, .ref h_fast, .ref h_level, .ref h_ridged, .ref h_channel, .ref h_arrived, .int f_p1_rows, .int f_p1_columns, .int f_p1_laid, .int f_p1_grown, .int f_p1_melted])), (h_p1_channel, .inl (cI, 64, .inl r_p1_channel)), (h_p1_fast, .inl (cZ, 64, .inl r_p1_fast)), (h_p1_level, .inl (cI, 64, .inl r_p1_level)), (h_p1_ridged, .inl (cI, 64, .inl r_p1_ridged)), (h_p1_sea, .inl (cZ, 64, .inl r_p1_sea)), (h_channel, .inl (cI, 64, .inl (va_cpy r_p1_channel r_channel (0 : Int32).toNatClampNeg (0 : Int32).toNatClampNeg (64 : Int32).toNatClampNeg))), (h_fast, .inl (cZ, 64, .inl (va_cpy r_p1_fast r_fast (0 : Int32).toNatClampNeg (0 : Int32).toNatClampNeg (64 : Int32).toNatClampNeg))), (h_level, .inl (cI, 64, .inl (va_cpy r_p1_level r_level (0 : Int32).toNatClampNeg (0 : Int32).toNatClampNeg (64 : Int32).toNatClampNeg))), (h_ridged, .inl (cI, 64, .inl (va_cpy r_p1_ridged r_ridged (0 : Int32).toNatClampNeg (0 : Int32).toNatClampNeg (64 : Int32).toNatClampNeg))), (h_sea, .inl (cZ, 64, .inl (va_cpy r_p1_sea r_sea (0 : Int32).toNatClampNeg (0 : Int32).toNatClampNeg (64 : Int32).toNatClampNeg)))] _ := hP
  have hD : va_D A [(h_p1, .inr (3, [.ref h_p1_sea, .ref h_p1_fast, .ref h_p1_level, .ref h_p1_ridged, .ref h_p1_channel, .ref h_p1_arrived, .int f_p1_rows, .int f_p1_columns, .int f_p1_laid, .int f_p1_grown, .int f_p1_melted])), (h, .inr (3, [.ref h_sea, .ref h_fast, .ref h_level, .ref h_ridged, .ref h_channel, .ref h_arrived, .int f_p1_rows, .int f_p1_columns, .int f_p1_laid, .int f_p1_grown, .int f_p1_melted])), (h_p1_channel, .inl (cI, 64, .inl r_p1_channel)), (h_p1_fast, .inl (cZ, 64, .inl r_p1_fast)), (h_p1_level, .inl (cI, 64, .inl r_p1_level)), (h_p1_ridged, .inl (cI, 64, .inl r_p1_ridged)), (h_p1_sea, .inl (cZ, 64, .inl r_p1_sea)), (h_channel, .inl (cI, 64, .inl (va_cpy r_p1_channel r_channel (0 : Int32).toNatClampNeg (0 : Int32).toNatClampNeg (64 : Int32).toNatClampNeg))), (h_fast, .inl (cZ, 64, .inl (va_cpy r_p1_fast r_fast (0 : Int32).toNatClampNeg (0 : Int32).toNatClampNeg (64 : Int32).toNatClampNeg))), (h_level, .inl (cI, 64, .inl (va_cpy r_p1_level r_level (0 : Int32).toNatClampNeg (0 : Int32).toNatClampNeg (64 : Int32).toNatClampNeg))), (h_ridged, .inl (cI, 64, .inl (va_cpy r_p1_ridged r_ridged (0 : Int32).toNatClampNeg (0 : Int32).toNatClampNeg (64 : Int32).toNatClampNeg))), (h_sea, .inl (cZ, 64, .inl (va_cpy r_p1_sea r_sea (0 : Int32).toNatClampNeg (0 : Int32).toNatClampNeg (64 : Int32).toNatClampNeg)))] := hD
  have hP9 := hP.sub (ws' := (vX3_copy cI cZ h_p1 h_p1_sea h_p1_fast h_p1_level h_p1_ridged h_p1_channel h_p1_arrived h h_sea h_fast h_level h_ridged h_channel h_arrived f_p1_rows f_p1_columns f_p1_laid f_p1_grown f_p1_melted f_p1_rows f_p1_columns f_p1_laid f_p1_grown f_p1_melted r_p1_channel r_p1_fast r_p1_level r_p1_ridged r_p1_sea (va_cpy r_p1_channel r_channel (0 : Int32).toNatClampNeg (0 : Int32).toNatClampNeg (64 : Int32).toNatClampNeg) (va_cpy r_p1_fast r_fast (0 : Int32).toNatClampNeg (0 : Int32).toNatClampNeg (64 : Int32).toNatClampNeg) (va_cpy r_p1_level r_level (0 : Int32).toNatClampNeg (0 : Int32).toNatClampNeg (64 : Int32).toNatClampNeg) (va_cpy r_p1_ridged r_ridged (0 : Int32).toNatClampNeg (0 : Int32).toNatClampNeg (64 : Int32).toNatClampNeg) (va_cpy r_p1_sea r_sea (0 : Int32).toNatClampNeg (0 : Int32).toNatClampNeg (64 : Int32).toNatClampNeg))) [0, 1, 2, 3, 4, 5, 6, 7, 8, 9, 10, 11] rfl
  have hD9 := hD.sub (ws' := (vX3_copy cI cZ h_p1 h_p1_sea h_p1_fast h_p1_level h_p1_ridged h_p1_channel h_p1_arrived h h_sea h_fast h_level h_ridged h_channel h_arrived f_p1_rows f_p1_columns f_p1_laid f_p1_grown f_p1_melted f_p1_rows f_p1_columns f_p1_laid f_p1_grown f_p1_melted r_p1_channel r_p1_fast r_p1_level r_p1_ridged r_p1_sea (va_cpy r_p1_channel r_channel (0 : Int32).toNatClampNeg (0 : Int32).toNatClampNeg (64 : Int32).toNatClampNeg) (va_cpy r_p1_fast r_fast (0 : Int32).toNatClampNeg (0 : Int32).toNatClampNeg (64 : Int32).toNatClampNeg) (va_cpy r_p1_level r_level (0 : Int32).toNatClampNeg (0 : Int32).toNatClampNeg (64 : Int32).toNatClampNeg) (va_cpy r_p1_ridged r_ridged (0 : Int32).toNatClampNeg (0 : Int32).toNatClampNeg (64 : Int32).toNatClampNeg) (va_cpy r_p1_sea r_sea (0 : Int32).toNatClampNeg (0 : Int32).toNatClampNeg (64 : Int32).toNatClampNeg))) [0, 1, 2, 3, 4, 5, 6, 7, 8, 9, 10, 11] (by decide) rfl
  exact W.vret hx hb hr (fun t ht hW => ⟨⟨(f_p1_rows, f_p1_columns, f_p1_laid, f_p1_grown, f_p1_melted, (va_cpy r_p1_channel r_channel (0 : Int32).toNatClampNeg (0 : Int32).toNatClampNeg (64 : Int32).toNatClampNeg), (va_cpy r_p1_fast r_fast (0 : Int32).toNatClampNeg (0 : Int32).toNatClampNeg (64 : Int32).toNatClampNeg), (va_cpy r_p1_level r_level (0 : Int32).toNatClampNeg (0 : Int32).toNatClampNeg (64 : Int32).toNatClampNeg), (va_cpy r_p1_ridged r_ridged (0 : Int32).toNatClampNeg (0 : Int32).toNatClampNeg (64 : Int32).toNatClampNeg), (va_cpy r_p1_sea r_sea (0 : Int32).toNatClampNeg (0 : Int32).toNatClampNeg (64 : Int32).toNatClampNeg)), rfl, hw, by rw [ht]; exact hP9, va_K.moved hW.alike hK, hD9⟩, hS.F ht⟩) hS.2.2 dX3_copy_115
set_option maxHeartbeats 4000000 in
set_option maxRecDepth 100000 in
theorem kX3_copy (l : Launch) (dC : Nat → ClassId) (dI : Nat → Nat → Nat) (cI cZ cO cW : ClassId) (h_p1 h_p1_sea h_p1_fast h_p1_level h_p1_ridged h_p1_channel h_p1_arrived h h_sea h_fast h_level h_ridged h_channel h_arrived : Nat)  (sz : Nat) (f_p1_rows : Int32) (f_p1_columns : Int32) (f_p1_laid : Int32) (f_p1_grown : Int32) (f_p1_melted : Int32) (f_rows : Int32) (f_columns : Int32) (f_laid : Int32) (f_grown : Int32) (f_melted : Int32) (r_p1_channel : Nat → Int32) (r_p1_fast : Nat → Int32) (r_p1_level : Nat → Int32) (r_p1_ridged : Nat → Int32) (r_p1_sea : Nat → Int32) (r_channel : Nat → Int32) (r_fast : Nat → Int32) (r_level : Nat → Int32) (r_ridged : Nat → Int32) (r_sea : Nat → Int32)  (Q : Int32 → Int32 → Int32 → Int32 → Int32 → (Nat → Int32) → (Nat → Int32) → (Nat → Int32) → (Nat → Int32) → (Nat → Int32) → Prop) (hw : wX3_copy Q  f_p1_rows f_p1_columns f_p1_laid f_p1_grown f_p1_melted f_rows f_columns f_laid f_grown f_melted r_p1_channel r_p1_fast r_p1_level r_p1_ridged r_p1_sea r_channel r_fast r_level r_ridged r_sea) : Met l yX3_copy zsX3_copy rmX3_copy (va_Pc [.ref h, .ref h_p1] (fun U => U.heap.size = sz ∧ va_P (dC, dI) vwCl (vX3_copy cI cZ h_p1 h_p1_sea h_p1_fast h_p1_level h_p1_ridged h_p1_channel h_p1_arrived h h_sea h_fast h_level h_ridged h_channel h_arrived f_p1_rows f_p1_columns f_p1_laid f_p1_grown f_p1_melted f_rows f_columns f_laid f_grown f_melted r_p1_channel r_p1_fast r_p1_level r_p1_ridged r_p1_sea r_channel r_fast r_level r_ridged r_sea) U.heap ∧ va_K (dC, dI) vwCl (tysA cI cZ cO cW) U ∧ va_D (fun _ => True) (vX3_copy cI cZ h_p1 h_p1_sea h_p1_fast h_p1_level h_p1_ridged h_p1_channel h_p1_arrived h h_sea h_fast h_level h_ridged h_channel h_arrived f_p1_rows f_p1_columns f_p1_laid f_p1_grown f_p1_melted f_rows f_columns f_laid f_grown f_melted r_p1_channel r_p1_fast r_p1_level r_p1_ridged r_p1_sea r_channel r_fast r_level r_ridged r_sea))) (qX3_copy dC dI cI cZ cO cW h_p1 h_p1_sea h_p1_fast h_p1_level h_p1_ridged h_p1_channel h_p1_arrived h h_sea h_fast h_level h_ridged h_channel h_arrived f_p1_rows f_p1_columns f_p1_laid f_p1_grown f_p1_melted r_p1_channel r_p1_fast r_p1_level r_p1_ridged r_p1_sea Q (va_A (vX3_copy cI cZ h_p1 h_p1_sea h_p1_fast h_p1_level h_p1_ridged h_p1_channel h_p1_arrived h h_sea h_fast h_level h_ridged h_channel h_arrived f_p1_rows f_p1_columns f_p1_laid f_p1_grown f_p1_melted f_rows f_columns f_laid f_grown f_melted r_p1_channel r_p1_fast r_p1_level r_p1_ridged r_p1_sea r_channel r_fast r_level r_ridged r_sea) sz)) 0 0 (va_A (vX3_copy cI cZ h_p1 h_p1_sea h_p1_fast h_p1_level h_p1_ridged h_p1_channel h_p1_arrived h h_sea h_fast h_level h_ridged h_channel h_arrived f_p1_rows f_p1_columns f_p1_laid f_p1_grown f_p1_melted f_rows f_columns f_laid f_grown f_melted r_p1_channel r_p1_fast r_p1_level r_p1_ridged r_p1_sea r_channel r_fast r_level r_ridged r_sea) sz) := by
  refine Met.ofW (cc := cX3_copy) (maxL := 2) (ret := none) (by decide) rfl ?_
  intro p e s m args below meth c s₁ B hml hv
  obtain ⟨rfl, hsz, hP, hK, hD0⟩ := hv
  subst hsz
  have hC : Cx p s m ([.ref h, .ref h_p1] : List Value).toArray meth c cX3_copy none 2 GW RX3 := ⟨B.exec, B.bytes, B.returns, hml, findClass_of_methodNamed B.named, fun w h => atoms_spec (ws := zsX3_copy) B.pre w (List.mem_cons_of_mem _ h), B.notSynchronized⟩
  have hD := hD0.self (sz := s.heap.size)
  generalize hAe : va_A (vX3_copy cI cZ h_p1 h_p1_sea h_p1_fast h_p1_level h_p1_ridged h_p1_channel h_p1_arrived h h_sea h_fast h_level h_ridged h_channel h_arrived f_p1_rows f_p1_columns f_p1_laid f_p1_grown f_p1_melted f_rows f_columns f_laid f_grown f_melted r_p1_channel r_p1_fast r_p1_level r_p1_ridged r_p1_sea r_channel r_fast r_level r_ridged r_sea) s.heap.size = A at hD ⊢
  have hA : ∀ q : Nat, s.heap.size ≤ q → A q := fun q h => by rw [← hAe]; exact Or.inr h
  have hl := lv_entry ([.ref h, .ref h_p1]) (n := 2) (Nat.le_of_ble_eq_true rfl)
  rw [lg_entry_eq]
  generalize (lg_sl ([.ref h, .ref h_p1]) ++ List.replicate (2 - (lg_sl ([.ref h, .ref h_p1])).length) Slot.unset).toArray = ls at hl ⊢
  exact tX3_copy_e hC hK hA  f_p1_rows f_p1_columns f_p1_laid f_p1_grown f_p1_melted f_rows f_columns f_laid f_grown f_melted r_p1_channel r_p1_fast r_p1_level r_p1_ridged r_p1_sea r_channel r_fast r_level r_ridged r_sea _ _ ls hw hP hD va_S.rf hl

/-! X3_lay -/
def wX3_lay (Q : Int32 → (Nat → Int32) → (Nat → Int32) → (Nat → Int32) → Prop) (x1 : Int32) (x2 : Int32) (x3 : Int32) (f_laid : Int32) (r_channel : Nat → Int32) (r_level : Nat → Int32) (r_ridged : Nat → Int32) : Prop :=
  (vp_in x1 64 ∧ (vp_in x1 64 ∧ (vp_in x1 64 ∧ (vp_in x1 64 ∧ (vp_in x1 64 ∧ (Q (f_laid + (((x2 + x3) - (r_level x1.toNatClampNeg)) - (r_ridged x1.toNatClampNeg))) (upd r_channel x1.toNatClampNeg (-1 : Int32)) (upd r_level x1.toNatClampNeg x2) (upd r_ridged x1.toNatClampNeg x3)))))))
abbrev vX3_lay (cI cZ : ClassId) (h h_sea h_fast h_level h_ridged h_channel h_arrived : Nat) (f_rows : Int32) (f_columns : Int32) (f_grown : Int32) (f_melted : Int32) (f_laid : Int32) (r_channel : Nat → Int32) (r_level : Nat → Int32) (r_ridged : Nat → Int32) : va_W := [(h, .inr (3, [.ref h_sea, .ref h_fast, .ref h_level, .ref h_ridged, .ref h_channel, .ref h_arrived, .int f_rows, .int f_columns, .int f_laid, .int f_grown, .int f_melted])), (h_channel, .inl (cI, 64, .inl r_channel)), (h_level, .inl (cI, 64, .inl r_level)), (h_ridged, .inl (cI, 64, .inl r_ridged))]
abbrev rmX3_lay : Room := { frames := 0, cells := 0, slots := 0, locals := 0 }
abbrev qX3_lay (dC : Nat → ClassId) (dI : Nat → Nat → Nat) (cI cZ cO cW : ClassId) (h h_sea h_fast h_level h_ridged h_channel h_arrived : Nat) (f_rows : Int32) (f_columns : Int32) (f_grown : Int32) (f_melted : Int32) (Q : Int32 → (Nat → Int32) → (Nat → Int32) → (Nat → Int32) → Prop) (A : Nat → Prop) : Array Value → State → Outcome → State → Prop := va_Qv (fun (u : Int32 × (Nat → Int32) × (Nat → Int32) × (Nat → Int32)) => Q u.1 u.2.1 u.2.2.1 u.2.2.2) (fun (u : Int32 × (Nat → Int32) × (Nat → Int32) × (Nat → Int32)) (t : State) => va_P (dC, dI) vwCl (vX3_lay cI cZ h h_sea h_fast h_level h_ridged h_channel h_arrived f_rows f_columns f_grown f_melted u.1 u.2.1 u.2.2.1 u.2.2.2) t.heap ∧ va_K (dC, dI) vwCl (tysA cI cZ cO cW) t ∧ va_D A (vX3_lay cI cZ h h_sea h_fast h_level h_ridged h_channel h_arrived f_rows f_columns f_grown f_melted u.1 u.2.1 u.2.2.1 u.2.2.2)) A
def zsX3_lay : List Cond := Cond.code yX3_lay cX3_lay 4 none :: GW
set_option maxHeartbeats 4000000 in
set_option maxRecDepth 100000 in
theorem tX3_lay_e {p : Program} {l : Launch} {e : Env} {s : State} {m : MethodId} {args : Array Value} {below : List Frame} {meth : Method} {c : Code} {dC : Nat → ClassId} {dI : Nat → Nat → Nat} {cI cZ cO cW : ClassId} {A : Nat → Prop} {h h_sea h_fast h_level h_ridged h_channel h_arrived : Nat} {f_rows f_columns f_grown f_melted : Int32} {Q : Int32 → (Nat → Int32) → (Nat → Int32) → (Nat → Int32) → Prop} (hC : Cx p s m args meth c cX3_lay none 4 GW RX3) (hK : va_K (dC, dI) vwCl (tysA cI cZ cO cW) s) (hA : ∀ q : Nat, s.heap.size ≤ q → A q) :
    ∀ (x1 : Int32) (x2 : Int32) (x3 : Int32) (f_laid : Int32) (r_channel : Nat → Int32) (r_level : Nat → Int32) (r_ridged : Nat → Int32) (H : Heap) (locs : List Loc) (ls : Array Slot), wX3_lay Q x1 x2 x3 f_laid r_channel r_level r_ridged → va_P (dC, dI) vwCl (vX3_lay cI cZ h h_sea h_fast h_level h_ridged h_channel h_arrived f_rows f_columns f_grown f_melted f_laid r_channel r_level r_ridged) H → va_D A (vX3_lay cI cZ h h_sea h_fast h_level h_ridged h_channel h_arrived f_rows f_columns f_grown f_melted f_laid r_channel r_level r_ridged) → va_S A s.heap H locs → lv_has ls 4 [(0, .ref h), (1, .int x1), (2, .int x2), (3, .int x3)] → W p l e rmX3_lay s m args below meth c H locs 0 0 (MQ below (qX3_lay dC dI cI cZ cO cW h h_sea h_fast h_level h_ridged h_channel h_arrived f_rows f_columns f_grown f_melted Q A) args s 0 0 A) (F0 m 0 ls []) := by
  obtain ⟨hx, hb, hr, hml, hown, hts, hlocks⟩ := id hC
  intro x1 x2 x3 f_laid r_channel r_level r_ridged H locs ls hw hP hD hS hl
  refine lv_aload_n hx hb dX3_lay_0 rfl (lv_at hl 0 rfl) ?_
  refine lv_dup hx hb dX3_lay_1 rfl ?_
  refine va_get (D := (dC, dI)) (ci := 3) (v := .int f_laid) (C := RX3) (T := TX3) (N := 11) hx hb hts gu_X3 hown hK hP 0 rfl rfl 8 (by decide) (hts _ gw_83) (fun _ h9 => h9) rfl dX3_lay_2 ?_
  refine lv_iload_n hx hb dX3_lay_5 rfl (lv_at hl 2 rfl) ?_
  refine lv_iload_n hx hb dX3_lay_6 rfl (lv_at hl 3 rfl) ?_
  refine lv_iadd hx hb dX3_lay_7 ?_
  refine lv_aload_n hx hb dX3_lay_8 rfl (lv_at hl 0 rfl) ?_
  refine va_get (D := (dC, dI)) (ci := 3) (v := .ref h_level) (C := RX3) (T := TX3) (N := 11) hx hb hts gu_X3 hown hK hP 0 rfl rfl 2 (by decide) (hts _ gw_77) (fun _ h9 => h9) rfl dX3_lay_9 ?_
  refine lv_iload_n hx hb dX3_lay_12 rfl (lv_at hl 1 rfl) ?_
  obtain ⟨h_1, hw⟩ := hw
  refine va_iald hx hb hK hP 2 0 rfl rfl h_1 dX3_lay_13 ?_
  refine lv_isub hx hb dX3_lay_14 ?_
  refine lv_aload_n hx hb dX3_lay_15 rfl (lv_at hl 0 rfl) ?_
  refine va_get (D := (dC, dI)) (ci := 3) (v := .ref h_ridged) (C := RX3) (T := TX3) (N := 11) hx hb hts gu_X3 hown hK hP 0 rfl rfl 3 (by decide) (hts _ gw_78) (fun _ h9 => h9) rfl dX3_lay_16 ?_
  refine lv_iload_n hx hb dX3_lay_19 rfl (lv_at hl 1 rfl) ?_
  obtain ⟨h_2, hw⟩ := hw
  refine va_iald hx hb hK hP 3 0 rfl rfl h_2 dX3_lay_20 ?_
  refine lv_isub hx hb dX3_lay_21 ?_
  refine lv_iadd hx hb dX3_lay_22 ?_
  refine va_put (D := (dC, dI)) (ci := 3) (v := .int (f_laid + (((x2 + x3) - (r_level x1.toNatClampNeg)) - (r_ridged x1.toNatClampNeg)))) (ty := .int) (C := RX3) (T := TX3) (N := 11) hx hb hts gu_X3 tyX3 tyX3_ok nmX3 hown hK hP hD hS 0 rfl rfl 8 (by decide) (hts _ gw_83) (fun _ h9 => h9) rfl (tyX3_ok 8 (by decide)) rfl rfl (Nat.le_of_ble_eq_true rfl) dX3_lay_23 (fun H locs hP hD hS => ?_)
  have hP : va_P (dC, dI) vwCl [(h, .inr (3, [.ref h_sea, .ref h_fast, .ref h_level, .ref h_ridged, .ref h_channel, .ref h_arrived, .int f_rows, .int f_columns, .int (f_laid + (((x2 + x3) - (r_level x1.toNatClampNeg)) - (r_ridged x1.toNatClampNeg))), .int f_grown, .int f_melted])), (h_channel, .inl (cI, 64, .inl r_channel)), (h_level, .inl (cI, 64, .inl r_level)), (h_ridged, .inl (cI, 64, .inl r_ridged))] _ := hP
  have hD : va_D A [(h, .inr (3, [.ref h_sea, .ref h_fast, .ref h_level, .ref h_ridged, .ref h_channel, .ref h_arrived, .int f_rows, .int f_columns, .int (f_laid + (((x2 + x3) - (r_level x1.toNatClampNeg)) - (r_ridged x1.toNatClampNeg))), .int f_grown, .int f_melted])), (h_channel, .inl (cI, 64, .inl r_channel)), (h_level, .inl (cI, 64, .inl r_level)), (h_ridged, .inl (cI, 64, .inl r_ridged))] := hD
  refine lv_aload_n hx hb dX3_lay_26 rfl (lv_at hl 0 rfl) ?_
  refine va_get (D := (dC, dI)) (ci := 3) (v := .ref h_level) (C := RX3) (T := TX3) (N := 11) hx hb hts gu_X3 hown hK hP 0 rfl rfl 2 (by decide) (hts _ gw_77) (fun _ h9 => h9) rfl dX3_lay_27 ?_
  refine lv_iload_n hx hb dX3_lay_30 rfl (lv_at hl 1 rfl) ?_
  refine lv_iload_n hx hb dX3_lay_31 rfl (lv_at hl 2 rfl) ?_
  obtain ⟨h_3, hw⟩ := hw
  refine va_iast hx hb hK hP hD hS 2 0 rfl rfl h_3 dX3_lay_32 (fun H locs hP hD hS => ?_)
  have hP : va_P (dC, dI) vwCl [(h, .inr (3, [.ref h_sea, .ref h_fast, .ref h_level, .ref h_ridged, .ref h_channel, .ref h_arrived, .int f_rows, .int f_columns, .int (f_laid + (((x2 + x3) - (r_level x1.toNatClampNeg)) - (r_ridged x1.toNatClampNeg))), .int f_grown, .int f_melted])), (h_channel, .inl (cI, 64, .inl r_channel)), (h_level, .inl (cI, 64, .inl (upd r_level x1.toNatClampNeg x2))), (h_ridged, .inl (cI, 64, .inl r_ridged))] _ := hP
  have hD : va_D A [(h, .inr (3, [.ref h_sea, .ref h_fast, .ref h_level, .ref h_ridged, .ref h_channel, .ref h_arrived, .int f_rows, .int f_columns, .int (f_laid + (((x2 + x3) - (r_level x1.toNatClampNeg)) - (r_ridged x1.toNatClampNeg))), .int f_grown, .int f_melted])), (h_channel, .inl (cI, 64, .inl r_channel)), (h_level, .inl (cI, 64, .inl (upd r_level x1.toNatClampNeg x2))), (h_ridged, .inl (cI, 64, .inl r_ridged))] := hD
  refine lv_aload_n hx hb dX3_lay_33 rfl (lv_at hl 0 rfl) ?_
  refine va_get (D := (dC, dI)) (ci := 3) (v := .ref h_ridged) (C := RX3) (T := TX3) (N := 11) hx hb hts gu_X3 hown hK hP 0 rfl rfl 3 (by decide) (hts _ gw_78) (fun _ h9 => h9) rfl dX3_lay_34 ?_
  refine lv_iload_n hx hb dX3_lay_37 rfl (lv_at hl 1 rfl) ?_
  refine lv_iload_n hx hb dX3_lay_38 rfl (lv_at hl 3 rfl) ?_
  obtain ⟨h_4, hw⟩ := hw
  refine va_iast hx hb hK hP hD hS 3 0 rfl rfl h_4 dX3_lay_39 (fun H locs hP hD hS => ?_)
  have hP : va_P (dC, dI) vwCl [(h, .inr (3, [.ref h_sea, .ref h_fast, .ref h_level, .ref h_ridged, .ref h_channel, .ref h_arrived, .int f_rows, .int f_columns, .int (f_laid + (((x2 + x3) - (r_level x1.toNatClampNeg)) - (r_ridged x1.toNatClampNeg))), .int f_grown, .int f_melted])), (h_channel, .inl (cI, 64, .inl r_channel)), (h_level, .inl (cI, 64, .inl (upd r_level x1.toNatClampNeg x2))), (h_ridged, .inl (cI, 64, .inl (upd r_ridged x1.toNatClampNeg x3)))] _ := hP
  have hD : va_D A [(h, .inr (3, [.ref h_sea, .ref h_fast, .ref h_level, .ref h_ridged, .ref h_channel, .ref h_arrived, .int f_rows, .int f_columns, .int (f_laid + (((x2 + x3) - (r_level x1.toNatClampNeg)) - (r_ridged x1.toNatClampNeg))), .int f_grown, .int f_melted])), (h_channel, .inl (cI, 64, .inl r_channel)), (h_level, .inl (cI, 64, .inl (upd r_level x1.toNatClampNeg x2))), (h_ridged, .inl (cI, 64, .inl (upd r_ridged x1.toNatClampNeg x3)))] := hD
  refine lv_aload_n hx hb dX3_lay_40 rfl (lv_at hl 0 rfl) ?_
  refine va_get (D := (dC, dI)) (ci := 3) (v := .ref h_channel) (C := RX3) (T := TX3) (N := 11) hx hb hts gu_X3 hown hK hP 0 rfl rfl 4 (by decide) (hts _ gw_79) (fun _ h9 => h9) rfl dX3_lay_41 ?_
  refine lv_iload_n hx hb dX3_lay_44 rfl (lv_at hl 1 rfl) ?_
  refine lv_iconst (v := (-1 : Int32)) hx hb dX3_lay_45 (by decide) ?_
  obtain ⟨h_5, hw⟩ := hw
  refine va_iast hx hb hK hP hD hS 1 0 rfl rfl h_5 dX3_lay_46 (fun H locs hP hD hS => ?_)
  have hP : va_P (dC, dI) vwCl [(h, .inr (3, [.ref h_sea, .ref h_fast, .ref h_level, .ref h_ridged, .ref h_channel, .ref h_arrived, .int f_rows, .int f_columns, .int (f_laid + (((x2 + x3) - (r_level x1.toNatClampNeg)) - (r_ridged x1.toNatClampNeg))), .int f_grown, .int f_melted])), (h_channel, .inl (cI, 64, .inl (upd r_channel x1.toNatClampNeg (-1 : Int32)))), (h_level, .inl (cI, 64, .inl (upd r_level x1.toNatClampNeg x2))), (h_ridged, .inl (cI, 64, .inl (upd r_ridged x1.toNatClampNeg x3)))] _ := hP
  have hD : va_D A [(h, .inr (3, [.ref h_sea, .ref h_fast, .ref h_level, .ref h_ridged, .ref h_channel, .ref h_arrived, .int f_rows, .int f_columns, .int (f_laid + (((x2 + x3) - (r_level x1.toNatClampNeg)) - (r_ridged x1.toNatClampNeg))), .int f_grown, .int f_melted])), (h_channel, .inl (cI, 64, .inl (upd r_channel x1.toNatClampNeg (-1 : Int32)))), (h_level, .inl (cI, 64, .inl (upd r_level x1.toNatClampNeg x2))), (h_ridged, .inl (cI, 64, .inl (upd r_ridged x1.toNatClampNeg x3)))] := hD
  have hP9 := hP.sub (ws' := (vX3_lay cI cZ h h_sea h_fast h_level h_ridged h_channel h_arrived f_rows f_columns f_grown f_melted (f_laid + (((x2 + x3) - (r_level x1.toNatClampNeg)) - (r_ridged x1.toNatClampNeg))) (upd r_channel x1.toNatClampNeg (-1 : Int32)) (upd r_level x1.toNatClampNeg x2) (upd r_ridged x1.toNatClampNeg x3))) [0, 1, 2, 3] rfl
  have hD9 := hD.sub (ws' := (vX3_lay cI cZ h h_sea h_fast h_level h_ridged h_channel h_arrived f_rows f_columns f_grown f_melted (f_laid + (((x2 + x3) - (r_level x1.toNatClampNeg)) - (r_ridged x1.toNatClampNeg))) (upd r_channel x1.toNatClampNeg (-1 : Int32)) (upd r_level x1.toNatClampNeg x2) (upd r_ridged x1.toNatClampNeg x3))) [0, 1, 2, 3] (by decide) rfl
  exact W.vret hx hb hr (fun t ht hW => ⟨⟨((f_laid + (((x2 + x3) - (r_level x1.toNatClampNeg)) - (r_ridged x1.toNatClampNeg))), (upd r_channel x1.toNatClampNeg (-1 : Int32)), (upd r_level x1.toNatClampNeg x2), (upd r_ridged x1.toNatClampNeg x3)), rfl, hw, by rw [ht]; exact hP9, va_K.moved hW.alike hK, hD9⟩, hS.F ht⟩) hS.2.2 dX3_lay_47
set_option maxHeartbeats 4000000 in
set_option maxRecDepth 100000 in
theorem kX3_lay (l : Launch) (dC : Nat → ClassId) (dI : Nat → Nat → Nat) (cI cZ cO cW : ClassId) (h h_sea h_fast h_level h_ridged h_channel h_arrived : Nat)  (sz : Nat) (f_rows : Int32) (f_columns : Int32) (f_grown : Int32) (f_melted : Int32) (f_laid : Int32) (r_channel : Nat → Int32) (r_level : Nat → Int32) (r_ridged : Nat → Int32) (x1 : Int32) (x2 : Int32) (x3 : Int32) (Q : Int32 → (Nat → Int32) → (Nat → Int32) → (Nat → Int32) → Prop) (hw : wX3_lay Q x1 x2 x3 f_laid r_channel r_level r_ridged) : Met l yX3_lay zsX3_lay rmX3_lay (va_Pc [.ref h, .int x1, .int x2, .int x3] (fun U => U.heap.size = sz ∧ va_P (dC, dI) vwCl (vX3_lay cI cZ h h_sea h_fast h_level h_ridged h_channel h_arrived f_rows f_columns f_grown f_melted f_laid r_channel r_level r_ridged) U.heap ∧ va_K (dC, dI) vwCl (tysA cI cZ cO cW) U ∧ va_D (fun _ => True) (vX3_lay cI cZ h h_sea h_fast h_level h_ridged h_channel h_arrived f_rows f_columns f_grown f_melted f_laid r_channel r_level r_ridged))) (qX3_lay dC dI cI cZ cO cW h h_sea h_fast h_level h_ridged h_channel h_arrived f_rows f_columns f_grown f_melted Q (va_A (vX3_lay cI cZ h h_sea h_fast h_level h_ridged h_channel h_arrived f_rows f_columns f_grown f_melted f_laid r_channel r_level r_ridged) sz)) 0 0 (va_A (vX3_lay cI cZ h h_sea h_fast h_level h_ridged h_channel h_arrived f_rows f_columns f_grown f_melted f_laid r_channel r_level r_ridged) sz) := by
  refine Met.ofW (cc := cX3_lay) (maxL := 4) (ret := none) (by decide) rfl ?_
  intro p e s m args below meth c s₁ B hml hv
  obtain ⟨rfl, hsz, hP, hK, hD0⟩ := hv
  subst hsz
  have hC : Cx p s m ([.ref h, .int x1, .int x2, .int x3] : List Value).toArray meth c cX3_lay none 4 GW RX3 := ⟨B.exec, B.bytes, B.returns, hml, findClass_of_methodNamed B.named, fun w h => atoms_spec (ws := zsX3_lay) B.pre w (List.mem_cons_of_mem _ h), B.notSynchronized⟩
  have hD := hD0.self (sz := s.heap.size)
  generalize hAe : va_A (vX3_lay cI cZ h h_sea h_fast h_level h_ridged h_channel h_arrived f_rows f_columns f_grown f_melted f_laid r_channel r_level r_ridged) s.heap.size = A at hD ⊢
  have hA : ∀ q : Nat, s.heap.size ≤ q → A q := fun q h => by rw [← hAe]; exact Or.inr h
  have hl := lv_entry ([.ref h, .int x1, .int x2, .int x3]) (n := 4) (Nat.le_of_ble_eq_true rfl)
  rw [lg_entry_eq]
  generalize (lg_sl ([.ref h, .int x1, .int x2, .int x3]) ++ List.replicate (4 - (lg_sl ([.ref h, .int x1, .int x2, .int x3])).length) Slot.unset).toArray = ls at hl ⊢
  exact tX3_lay_e hC hK hA x1 x2 x3 f_laid r_channel r_level r_ridged _ _ ls hw hP hD va_S.rf hl

/-! X3_find -/
def wX3_find (Q : Int32 → Prop) (x1 : Int32) (x2 : Int32) (f_rows : Int32) (f_columns : Int32) : Prop :=
  ((x1 < 0 → (Q (-1 : Int32))) ∧ (¬ x1 < 0 → ((f_rows ≤ x1 → (Q (-1 : Int32))) ∧ (¬ f_rows ≤ x1 → ((x2 < 0 → (Q (-1 : Int32))) ∧ (¬ x2 < 0 → ((x2 < f_columns → (Q ((x1 * (8 : Int32)) + x2))) ∧ (¬ x2 < f_columns → (Q (-1 : Int32))))))))))
abbrev vX3_find (cI cZ : ClassId) (h h_sea h_fast h_level h_ridged h_channel h_arrived : Nat) (f_laid : Int32) (f_grown : Int32) (f_melted : Int32) (f_rows : Int32) (f_columns : Int32) : va_W := [(h, .inr (3, [.ref h_sea, .ref h_fast, .ref h_level, .ref h_ridged, .ref h_channel, .ref h_arrived, .int f_rows, .int f_columns, .int f_laid, .int f_grown, .int f_melted]))]
abbrev rmX3_find : Room := { frames := 0, cells := 0, slots := 0, locals := 0 }
abbrev qX3_find (dC : Nat → ClassId) (dI : Nat → Nat → Nat) (cI cZ cO cW : ClassId) (h h_sea h_fast h_level h_ridged h_channel h_arrived : Nat) (f_laid : Int32) (f_grown : Int32) (f_melted : Int32) (f_rows : Int32) (f_columns : Int32) (Q : Int32 → Prop) (A : Nat → Prop) : Array Value → State → Outcome → State → Prop := va_Qi (fun (r : Int32) (u : Unit) => Q r) (fun (u : Unit) (t : State) => va_P (dC, dI) vwCl (vX3_find cI cZ h h_sea h_fast h_level h_ridged h_channel h_arrived f_laid f_grown f_melted f_rows f_columns) t.heap ∧ va_K (dC, dI) vwCl (tysA cI cZ cO cW) t ∧ va_D A (vX3_find cI cZ h h_sea h_fast h_level h_ridged h_channel h_arrived f_laid f_grown f_melted f_rows f_columns)) A
def zsX3_find : List Cond := Cond.code yX3_find cX3_find 3 (some .int) :: GW
set_option maxHeartbeats 4000000 in
set_option maxRecDepth 100000 in
theorem tX3_find_e {p : Program} {l : Launch} {e : Env} {s : State} {m : MethodId} {args : Array Value} {below : List Frame} {meth : Method} {c : Code} {dC : Nat → ClassId} {dI : Nat → Nat → Nat} {cI cZ cO cW : ClassId} {A : Nat → Prop} {h h_sea h_fast h_level h_ridged h_channel h_arrived : Nat} {f_laid f_grown f_melted : Int32} {Q : Int32 → Prop} (hC : Cx p s m args meth c cX3_find (some .int) 3 GW RX3) (hK : va_K (dC, dI) vwCl (tysA cI cZ cO cW) s) (hA : ∀ q : Nat, s.heap.size ≤ q → A q) :
    ∀ (x1 : Int32) (x2 : Int32) (f_rows : Int32) (f_columns : Int32) (H : Heap) (locs : List Loc) (ls : Array Slot), wX3_find Q x1 x2 f_rows f_columns → va_P (dC, dI) vwCl (vX3_find cI cZ h h_sea h_fast h_level h_ridged h_channel h_arrived f_laid f_grown f_melted f_rows f_columns) H → va_D A (vX3_find cI cZ h h_sea h_fast h_level h_ridged h_channel h_arrived f_laid f_grown f_melted f_rows f_columns) → va_S A s.heap H locs → lv_has ls 3 [(0, .ref h), (1, .int x1), (2, .int x2)] → W p l e rmX3_find s m args below meth c H locs 0 0 (MQ below (qX3_find dC dI cI cZ cO cW h h_sea h_fast h_level h_ridged h_channel h_arrived f_laid f_grown f_melted f_rows f_columns Q A) args s 0 0 A) (F0 m 0 ls []) := by
  obtain ⟨hx, hb, hr, hml, hown, hts, hlocks⟩ := id hC
  intro x1 x2 f_rows f_columns H locs ls hw hP hD hS hl
  refine lv_iload_n hx hb dX3_find_0 rfl (lv_at hl 1 rfl) ?_
  refine lv_if_lt (tgt := 24) hx hb dX3_find_1 (by decide) (fun c_1 => ?_) (fun c_1 => ?_)
  · have hw := hw.1 c_1
    refine lv_iconst (v := (-1 : Int32)) hx hb dX3_find_24 (by decide) ?_
    have hP9 := hP.sub (ws' := (vX3_find cI cZ h h_sea h_fast h_level h_ridged h_channel h_arrived f_laid f_grown f_melted f_rows f_columns)) [0] rfl
    have hD9 := hD.sub (ws' := (vX3_find cI cZ h h_sea h_fast h_level h_ridged h_channel h_arrived f_laid f_grown f_melted f_rows f_columns)) [0] (by decide) rfl
    exact W.iret (v := (-1 : Int32)) hx hb hr (fun t ht hW => ⟨⟨(-1 : Int32), (), rfl, hw, by rw [ht]; exact hP9, va_K.moved hW.alike hK, hD9⟩, hS.F ht⟩) hS.2.2 dX3_find_25
  · have hw := hw.2 c_1
    refine lv_iload_n hx hb dX3_find_4 rfl (lv_at hl 1 rfl) ?_
    refine lv_aload_n hx hb dX3_find_5 rfl (lv_at hl 0 rfl) ?_
    refine va_get (D := (dC, dI)) (ci := 3) (v := .int f_rows) (C := RX3) (T := TX3) (N := 11) hx hb hts gu_X3 hown hK hP 0 rfl rfl 6 (by decide) (hts _ gw_81) (fun _ h9 => h9) rfl dX3_find_6 ?_
    refine lv_icmp_ge (tgt := 24) hx hb dX3_find_9 (by decide) (fun c_2 => ?_) (fun c_2 => ?_)
    · have hw := hw.1 c_2
      refine lv_iconst (v := (-1 : Int32)) hx hb dX3_find_24 (by decide) ?_
      have hP9 := hP.sub (ws' := (vX3_find cI cZ h h_sea h_fast h_level h_ridged h_channel h_arrived f_laid f_grown f_melted f_rows f_columns)) [0] rfl
      have hD9 := hD.sub (ws' := (vX3_find cI cZ h h_sea h_fast h_level h_ridged h_channel h_arrived f_laid f_grown f_melted f_rows f_columns)) [0] (by decide) rfl
      exact W.iret (v := (-1 : Int32)) hx hb hr (fun t ht hW => ⟨⟨(-1 : Int32), (), rfl, hw, by rw [ht]; exact hP9, va_K.moved hW.alike hK, hD9⟩, hS.F ht⟩) hS.2.2 dX3_find_25
    · have hw := hw.2 c_2
      refine lv_iload_n hx hb dX3_find_12 rfl (lv_at hl 2 rfl) ?_
      refine lv_if_lt (tgt := 24) hx hb dX3_find_13 (by decide) (fun c_3 => ?_) (fun c_3 => ?_)
      · have hw := hw.1 c_3
        refine lv_iconst (v := (-1 : Int32)) hx hb dX3_find_24 (by decide) ?_
        have hP9 := hP.sub (ws' := (vX3_find cI cZ h h_sea h_fast h_level h_ridged h_channel h_arrived f_laid f_grown f_melted f_rows f_columns)) [0] rfl
        have hD9 := hD.sub (ws' := (vX3_find cI cZ h h_sea h_fast h_level h_ridged h_channel h_arrived f_laid f_grown f_melted f_rows f_columns)) [0] (by decide) rfl
        exact W.iret (v := (-1 : Int32)) hx hb hr (fun t ht hW => ⟨⟨(-1 : Int32), (), rfl, hw, by rw [ht]; exact hP9, va_K.moved hW.alike hK, hD9⟩, hS.F ht⟩) hS.2.2 dX3_find_25
      · have hw := hw.2 c_3
        refine lv_iload_n hx hb dX3_find_16 rfl (lv_at hl 2 rfl) ?_
        refine lv_aload_n hx hb dX3_find_17 rfl (lv_at hl 0 rfl) ?_
        refine va_get (D := (dC, dI)) (ci := 3) (v := .int f_columns) (C := RX3) (T := TX3) (N := 11) hx hb hts gu_X3 hown hK hP 0 rfl rfl 7 (by decide) (hts _ gw_82) (fun _ h9 => h9) rfl dX3_find_18 ?_
        refine lv_icmp_lt (tgt := 26) hx hb dX3_find_21 (by decide) (fun c_4 => ?_) (fun c_4 => ?_)
        · have hw := hw.1 c_4
          refine lv_iload_n hx hb dX3_find_26 rfl (lv_at hl 1 rfl) ?_
          refine lv_bipush (v := (8 : Int32)) hx hb dX3_find_27 (by decide) ?_
          refine lv_imul hx hb dX3_find_29 ?_
          refine lv_iload_n hx hb dX3_find_30 rfl (lv_at hl 2 rfl) ?_
          refine lv_iadd hx hb dX3_find_31 ?_
          have hP9 := hP.sub (ws' := (vX3_find cI cZ h h_sea h_fast h_level h_ridged h_channel h_arrived f_laid f_grown f_melted f_rows f_columns)) [0] rfl
          have hD9 := hD.sub (ws' := (vX3_find cI cZ h h_sea h_fast h_level h_ridged h_channel h_arrived f_laid f_grown f_melted f_rows f_columns)) [0] (by decide) rfl
          exact W.iret (v := ((x1 * (8 : Int32)) + x2)) hx hb hr (fun t ht hW => ⟨⟨((x1 * (8 : Int32)) + x2), (), rfl, hw, by rw [ht]; exact hP9, va_K.moved hW.alike hK, hD9⟩, hS.F ht⟩) hS.2.2 dX3_find_32
        · have hw := hw.2 c_4
          refine lv_iconst (v := (-1 : Int32)) hx hb dX3_find_24 (by decide) ?_
          have hP9 := hP.sub (ws' := (vX3_find cI cZ h h_sea h_fast h_level h_ridged h_channel h_arrived f_laid f_grown f_melted f_rows f_columns)) [0] rfl
          have hD9 := hD.sub (ws' := (vX3_find cI cZ h h_sea h_fast h_level h_ridged h_channel h_arrived f_laid f_grown f_melted f_rows f_columns)) [0] (by decide) rfl
          exact W.iret (v := (-1 : Int32)) hx hb hr (fun t ht hW => ⟨⟨(-1 : Int32), (), rfl, hw, by rw [ht]; exact hP9, va_K.moved hW.alike hK, hD9⟩, hS.F ht⟩) hS.2.2 dX3_find_25
set_option maxHeartbeats 4000000 in
set_option maxRecDepth 100000 in
theorem kX3_find (l : Launch) (dC : Nat → ClassId) (dI : Nat → Nat → Nat) (cI cZ cO cW : ClassId) (h h_sea h_fast h_level h_ridged h_channel h_arrived : Nat)  (sz : Nat) (f_laid : Int32) (f_grown : Int32) (f_melted : Int32) (f_rows : Int32) (f_columns : Int32) (x1 : Int32) (x2 : Int32) (Q : Int32 → Prop) (hw : wX3_find Q x1 x2 f_rows f_columns) : Met l yX3_find zsX3_find rmX3_find (va_Pc [.ref h, .int x1, .int x2] (fun U => U.heap.size = sz ∧ va_P (dC, dI) vwCl (vX3_find cI cZ h h_sea h_fast h_level h_ridged h_channel h_arrived f_laid f_grown f_melted f_rows f_columns) U.heap ∧ va_K (dC, dI) vwCl (tysA cI cZ cO cW) U ∧ va_D (fun _ => True) (vX3_find cI cZ h h_sea h_fast h_level h_ridged h_channel h_arrived f_laid f_grown f_melted f_rows f_columns))) (qX3_find dC dI cI cZ cO cW h h_sea h_fast h_level h_ridged h_channel h_arrived f_laid f_grown f_melted f_rows f_columns Q (va_A (vX3_find cI cZ h h_sea h_fast h_level h_ridged h_channel h_arrived f_laid f_grown f_melted f_rows f_columns) sz)) 0 0 (va_A (vX3_find cI cZ h h_sea h_fast h_level h_ridged h_channel h_arrived f_laid f_grown f_melted f_rows f_columns) sz) := by
  refine Met.ofW (cc := cX3_find) (maxL := 3) (ret := (some .int)) (by decide) rfl ?_
  intro p e s m args below meth c s₁ B hml hv
  obtain ⟨rfl, hsz, hP, hK, hD0⟩ := hv
  subst hsz
  have hC : Cx p s m ([.ref h, .int x1, .int x2] : List Value).toArray meth c cX3_find (some .int) 3 GW RX3 := ⟨B.exec, B.bytes, B.returns, hml, findClass_of_methodNamed B.named, fun w h => atoms_spec (ws := zsX3_find) B.pre w (List.mem_cons_of_mem _ h), B.notSynchronized⟩
  have hD := hD0.self (sz := s.heap.size)
  generalize hAe : va_A (vX3_find cI cZ h h_sea h_fast h_level h_ridged h_channel h_arrived f_laid f_grown f_melted f_rows f_columns) s.heap.size = A at hD ⊢
  have hA : ∀ q : Nat, s.heap.size ≤ q → A q := fun q h => by rw [← hAe]; exact Or.inr h
  have hl := lv_entry ([.ref h, .int x1, .int x2]) (n := 3) (Nat.le_of_ble_eq_true rfl)
  rw [lg_entry_eq]
  generalize (lg_sl ([.ref h, .int x1, .int x2]) ++ List.replicate (3 - (lg_sl ([.ref h, .int x1, .int x2])).length) Slot.unset).toArray = ls at hl ⊢
  exact tX3_find_e hC hK hA x1 x2 f_rows f_columns _ _ ls hw hP hD va_S.rf hl

/-! X3_next -/
def wX3_next (Q : Int32 → Prop) (x1 : Int32) (x2 : Int32) (f_rows : Int32) (f_columns : Int32) : Prop :=
  ((x2 = (0 : Int32) → (wX3_find (fun r_3 => (Q r_3)) ((x1 / (8 : Int32)) - (1 : Int32)) (x1 - x1 / (8 : Int32) * (8 : Int32)) f_rows f_columns)) ∧ (x2 = (1 : Int32) → (wX3_find (fun r_4 => (Q r_4)) (x1 / (8 : Int32)) ((x1 - x1 / (8 : Int32) * (8 : Int32)) + (1 : Int32)) f_rows f_columns)) ∧ (x2 = (2 : Int32) → (wX3_find (fun r_5 => (Q r_5)) ((x1 / (8 : Int32)) + (1 : Int32)) (x1 - x1 / (8 : Int32) * (8 : Int32)) f_rows f_columns)) ∧ (x2 = (3 : Int32) → (wX3_find (fun r_6 => (Q r_6)) (x1 / (8 : Int32)) ((x1 - x1 / (8 : Int32) * (8 : Int32)) - (1 : Int32)) f_rows f_columns)) ∧ ((x2.toInt < (0 : Int) ∨ (3 : Int) < x2.toInt) → (Q (-1 : Int32))))
abbrev vX3_next (cI cZ : ClassId) (h h_sea h_fast h_level h_ridged h_channel h_arrived : Nat) (f_laid : Int32) (f_grown : Int32) (f_melted : Int32) (f_rows : Int32) (f_columns : Int32) : va_W := [(h, .inr (3, [.ref h_sea, .ref h_fast, .ref h_level, .ref h_ridged, .ref h_channel, .ref h_arrived, .int f_rows, .int f_columns, .int f_laid, .int f_grown, .int f_melted]))]
abbrev rmX3_next : Room := { frames := 1, cells := 0, slots := 0, locals := 22 }
abbrev qX3_next (dC : Nat → ClassId) (dI : Nat → Nat → Nat) (cI cZ cO cW : ClassId) (h h_sea h_fast h_level h_ridged h_channel h_arrived : Nat) (f_laid : Int32) (f_grown : Int32) (f_melted : Int32) (f_rows : Int32) (f_columns : Int32) (Q : Int32 → Prop) (A : Nat → Prop) : Array Value → State → Outcome → State → Prop := va_Qi (fun (r : Int32) (u : Unit) => Q r) (fun (u : Unit) (t : State) => va_P (dC, dI) vwCl (vX3_next cI cZ h h_sea h_fast h_level h_ridged h_channel h_arrived f_laid f_grown f_melted f_rows f_columns) t.heap ∧ va_K (dC, dI) vwCl (tysA cI cZ cO cW) t ∧ va_D A (vX3_next cI cZ h h_sea h_fast h_level h_ridged h_channel h_arrived f_laid f_grown f_melted f_rows f_columns)) A
def zsX3_next : List Cond := Cond.code yX3_next cX3_next 5 (some .int) :: GW
set_option maxHeartbeats 4000000 in
set_option maxRecDepth 100000 in
theorem tX3_next_e {p : Program} {l : Launch} {e : Env} {s : State} {m : MethodId} {args : Array Value} {below : List Frame} {meth : Method} {c : Code} {dC : Nat → ClassId} {dI : Nat → Nat → Nat} {cI cZ cO cW : ClassId} {A : Nat → Prop} {h h_sea h_fast h_level h_ridged h_channel h_arrived : Nat} {f_laid f_grown f_melted : Int32} {Q : Int32 → Prop} (hC : Cx p s m args meth c cX3_next (some .int) 5 GW RX3) (hK : va_K (dC, dI) vwCl (tysA cI cZ cO cW) s) (hA : ∀ q : Nat, s.heap.size ≤ q → A q) :
    ∀ (x1 : Int32) (x2 : Int32) (f_rows : Int32) (f_columns : Int32) (H : Heap) (locs : List Loc) (ls : Array Slot), wX3_next Q x1 x2 f_rows f_columns → va_P (dC, dI) vwCl (vX3_next cI cZ h h_sea h_fast h_level h_ridged h_channel h_arrived f_laid f_grown f_melted f_rows f_columns) H → va_D A (vX3_next cI cZ h h_sea h_fast h_level h_ridged h_channel h_arrived f_laid f_grown f_melted f_rows f_columns) → va_S A s.heap H locs → lv_has ls 5 [(0, .ref h), (1, .int x1), (2, .int x2)] → W p l e rmX3_next s m args below meth c H locs 0 0 (MQ below (qX3_next dC dI cI cZ cO cW h h_sea h_fast h_level h_ridged h_channel h_arrived f_laid f_grown f_melted f_rows f_columns Q A) args s 0 0 A) (F0 m 0 ls []) := by
  obtain ⟨hx, hb, hr, hml, hown, hts, hlocks⟩ := id hC
  intro x1 x2 f_rows f_columns H locs ls hw hP hD hS hl
  refine lv_iload_n hx hb dX3_next_0 rfl (lv_at hl 1 rfl) ?_
  refine lv_bipush (v := (8 : Int32)) hx hb dX3_next_1 (by decide) ?_
  refine lv_idiv hx hb dX3_next_3 (by decide) ?_
  refine lv_istore_n (lv' := [(3, .int (x1 / (8 : Int32))), (0, .ref h), (1, .int x1), (2, .int x2)]) hx hb dX3_next_4 rfl hl (by decide) rfl (fun ls hl => ?_)
  refine lv_iload_n hx hb dX3_next_5 rfl (lv_at hl 2 rfl) ?_
  refine lv_bipush (v := (8 : Int32)) hx hb dX3_next_6 (by decide) ?_
  refine lv_irem hx hb dX3_next_8 (by decide) ?_
  refine lv_istore (lv' := [(4, .int (x1 - x1 / (8 : Int32) * (8 : Int32))), (3, .int (x1 / (8 : Int32))), (0, .ref h), (1, .int x1), (2, .int x2)]) hx hb dX3_next_9 hl (by decide) rfl (fun ls hl => ?_)
  refine lv_iload_n hx hb dX3_next_11 rfl (lv_at hl 4 rfl) ?_
  refine lv_topi (fun y_1 ey_1 => ?_)
  rcases (show (y_1.toInt < (0 : Int) ∨ (3 : Int) < y_1.toInt) ∨ y_1.toInt = 0 ∨ y_1.toInt = 1 ∨ y_1.toInt = 2 ∨ y_1.toInt = 3 by omega) with c_2 | c_2 | c_2 | c_2 | c_2
  · have hw := hw.2.2.2.2 (by rw [← ey_1]; exact c_2)
    refine lv_tableOut (tgt := 84) hx hb dX3_next_12 c_2 (by decide) ?_
    refine lv_iconst (v := (-1 : Int32)) hx hb dX3_next_84 (by decide) ?_
    have hP9 := hP.sub (ws' := (vX3_next cI cZ h h_sea h_fast h_level h_ridged h_channel h_arrived f_laid f_grown f_melted f_rows f_columns)) [0] rfl
    have hD9 := hD.sub (ws' := (vX3_next cI cZ h h_sea h_fast h_level h_ridged h_channel h_arrived f_laid f_grown f_melted f_rows f_columns)) [0] (by decide) rfl
    exact W.iret (v := (-1 : Int32)) hx hb hr (fun t ht hW => ⟨⟨(-1 : Int32), (), rfl, hw, by rw [ht]; exact hP9, va_K.moved hW.alike hK, hD9⟩, hS.F ht⟩) hS.2.2 dX3_next_85
  · have hw := hw.1 (ey_1.symm.trans (Int32.toInt_inj.mp (c_2.trans (by decide))))
    refine lv_tableIn (tgt := 44) hx hb dX3_next_12 (by omega) (by omega) (by rw [c_2]; rfl) (by decide) ?_
    refine lv_aload_n hx hb dX3_next_44 rfl (lv_at hl 2 rfl) ?_
    refine lv_iload_n hx hb dX3_next_45 rfl (lv_at hl 1 rfl) ?_
    refine lv_iconst (v := (1 : Int32)) hx hb dX3_next_46 (by decide) ?_
    refine lv_isub hx hb dX3_next_47 ?_
    refine lv_iload hx hb dX3_next_48 (lv_at hl 0 rfl) ?_
    have hPc := hP.sub (ws' := [(h, .inr (3, [.ref h_sea, .ref h_fast, .ref h_level, .ref h_ridged, .ref h_channel, .ref h_arrived, .int f_rows, .int f_columns, .int f_laid, .int f_grown, .int f_melted]))]) [0] rfl
    have hDc := hD.sub (ws' := [(h, .inr (3, [.ref h_sea, .ref h_fast, .ref h_level, .ref h_ridged, .ref h_channel, .ref h_arrived, .int f_rows, .int f_columns, .int f_laid, .int f_grown, .int f_melted]))]) [0] (by decide) rfl
    have hFc := va_free (wc := [(h, .inr (3, [.ref h_sea, .ref h_fast, .ref h_level, .ref h_ridged, .ref h_channel, .ref h_arrived, .int f_rows, .int f_columns, .int f_laid, .int f_grown, .int f_melted]))]) hD hS hA [0] rfl
    refine va_calli (va_runV (As := [.int ((x1 / (8 : Int32)) - (1 : Int32)), .int (x1 - x1 / (8 : Int32) * (8 : Int32))]) (rest := []) ⟨hx, hb, hml, hown, hts⟩ (kX3_find l dC dI cI cZ cO cW h h_sea h_fast h_level h_ridged h_channel h_arrived H.size f_laid f_grown f_melted f_rows f_columns ((x1 / (8 : Int32)) - (1 : Int32)) (x1 - x1 / (8 : Int32) * (8 : Int32)) _ hw) (cwV 2 hts (gV gw_140 gw_141 gw_142 gw_89 (gM gw_138)) rfl rfl rfl (by decide +kernel) ⟨Nat.le_of_ble_eq_true rfl, Nat.le_of_ble_eq_true rfl⟩) (pv_of hPc hK hDc (va_recv hK hPc (ci := 3) (q0 := 0) rfl rfl)) rfl rfl hl.1 rfl (lv_room (Nat.le_of_ble_eq_true rfl)) dX3_next_50 ⟨Nat.zero_le _, Nat.zero_le _⟩) hS (fun q _ h => hFc q h) hFc (fun r_3 u t H locs ht hvm hw hB hz1 hk1 hS => ?_)
    obtain ⟨hP, hD⟩ := af_join (wr := []) (w1 := [(h, .inr (3, [.ref h_sea, .ref h_fast, .ref h_level, .ref h_ridged, .ref h_channel, .ref h_arrived, .int f_rows, .int f_columns, .int f_laid, .int f_grown, .int f_melted]))]) hB ht hP hD [0] [] rfl rfl (by decide) (by decide) hk1 hFc
    have hP : va_P (dC, dI) vwCl [(h, .inr (3, [.ref h_sea, .ref h_fast, .ref h_level, .ref h_ridged, .ref h_channel, .ref h_arrived, .int f_rows, .int f_columns, .int f_laid, .int f_grown, .int f_melted]))] _ := hP
    have hD : va_D A [(h, .inr (3, [.ref h_sea, .ref h_fast, .ref h_level, .ref h_ridged, .ref h_channel, .ref h_arrived, .int f_rows, .int f_columns, .int f_laid, .int f_grown, .int f_melted]))] := hD
    have hP9 := hP.sub (ws' := (vX3_next cI cZ h h_sea h_fast h_level h_ridged h_channel h_arrived f_laid f_grown f_melted f_rows f_columns)) [0] rfl
    have hD9 := hD.sub (ws' := (vX3_next cI cZ h h_sea h_fast h_level h_ridged h_channel h_arrived f_laid f_grown f_melted f_rows f_columns)) [0] (by decide) rfl
    exact W.iret (v := r_3) hx hb hr (fun t ht hW => ⟨⟨r_3, (), rfl, hw, by rw [ht]; exact hP9, va_K.moved hW.alike hK, hD9⟩, hS.F ht⟩) hS.2.2 dX3_next_53
  · have hw := hw.2.1 (ey_1.symm.trans (Int32.toInt_inj.mp (c_2.trans (by decide))))
    refine lv_tableIn (tgt := 54) hx hb dX3_next_12 (by omega) (by omega) (by rw [c_2]; rfl) (by decide) ?_
    refine lv_aload_n hx hb dX3_next_54 rfl (lv_at hl 2 rfl) ?_
    refine lv_iload_n hx hb dX3_next_55 rfl (lv_at hl 1 rfl) ?_
    refine lv_iload hx hb dX3_next_56 (lv_at hl 0 rfl) ?_
    refine lv_iconst (v := (1 : Int32)) hx hb dX3_next_58 (by decide) ?_
    refine lv_iadd hx hb dX3_next_59 ?_
    have hPc := hP.sub (ws' := [(h, .inr (3, [.ref h_sea, .ref h_fast, .ref h_level, .ref h_ridged, .ref h_channel, .ref h_arrived, .int f_rows, .int f_columns, .int f_laid, .int f_grown, .int f_melted]))]) [0] rfl
    have hDc := hD.sub (ws' := [(h, .inr (3, [.ref h_sea, .ref h_fast, .ref h_level, .ref h_ridged, .ref h_channel, .ref h_arrived, .int f_rows, .int f_columns, .int f_laid, .int f_grown, .int f_melted]))]) [0] (by decide) rfl
    have hFc := va_free (wc := [(h, .inr (3, [.ref h_sea, .ref h_fast, .ref h_level, .ref h_ridged, .ref h_channel, .ref h_arrived, .int f_rows, .int f_columns, .int f_laid, .int f_grown, .int f_melted]))]) hD hS hA [0] rfl
    refine va_calli (va_runV (As := [.int (x1 / (8 : Int32)), .int ((x1 - x1 / (8 : Int32) * (8 : Int32)) + (1 : Int32))]) (rest := []) ⟨hx, hb, hml, hown, hts⟩ (kX3_find l dC dI cI cZ cO cW h h_sea h_fast h_level h_ridged h_channel h_arrived H.size f_laid f_grown f_melted f_rows f_columns (x1 / (8 : Int32)) ((x1 - x1 / (8 : Int32) * (8 : Int32)) + (1 : Int32)) _ hw) (cwV 2 hts (gV gw_140 gw_141 gw_142 gw_89 (gM gw_138)) rfl rfl rfl (by decide +kernel) ⟨Nat.le_of_ble_eq_true rfl, Nat.le_of_ble_eq_true rfl⟩) (pv_of hPc hK hDc (va_recv hK hPc (ci := 3) (q0 := 0) rfl rfl)) rfl rfl hl.1 rfl (lv_room (Nat.le_of_ble_eq_true rfl)) dX3_next_60 ⟨Nat.zero_le _, Nat.zero_le _⟩) hS (fun q _ h => hFc q h) hFc (fun r_4 u t H locs ht hvm hw hB hz1 hk1 hS => ?_)
    obtain ⟨hP, hD⟩ := af_join (wr := []) (w1 := [(h, .inr (3, [.ref h_sea, .ref h_fast, .ref h_level, .ref h_ridged, .ref h_channel, .ref h_arrived, .int f_rows, .int f_columns, .int f_laid, .int f_grown, .int f_melted]))]) hB ht hP hD [0] [] rfl rfl (by decide) (by decide) hk1 hFc
    have hP : va_P (dC, dI) vwCl [(h, .inr (3, [.ref h_sea, .ref h_fast, .ref h_level, .ref h_ridged, .ref h_channel, .ref h_arrived, .int f_rows, .int f_columns, .int f_laid, .int f_grown, .int f_melted]))] _ := hP
    have hD : va_D A [(h, .inr (3, [.ref h_sea, .ref h_fast, .ref h_level, .ref h_ridged, .ref h_channel, .ref h_arrived, .int f_rows, .int f_columns, .int f_laid, .int f_grown, .int f_melted]))] := hD
    have hP9 := hP.sub (ws' := (vX3_next cI cZ h h_sea h_fast h_level h_ridged h_channel h_arrived f_laid f_grown f_melted f_rows f_columns)) [0] rfl
    have hD9 := hD.sub (ws' := (vX3_next cI cZ h h_sea h_fast h_level h_ridged h_channel h_arrived f_laid f_grown f_melted f_rows f_columns)) [0] (by decide) rfl
    exact W.iret (v := r_4) hx hb hr (fun t ht hW => ⟨⟨r_4, (), rfl, hw, by rw [ht]; exact hP9, va_K.moved hW.alike hK, hD9⟩, hS.F ht⟩) hS.2.2 dX3_next_63
  · have hw := hw.2.2.1 (ey_1.symm.trans (Int32.toInt_inj.mp (c_2.trans (by decide))))
    refine lv_tableIn (tgt := 64) hx hb dX3_next_12 (by omega) (by omega) (by rw [c_2]; rfl) (by decide) ?_
    refine lv_aload_n hx hb dX3_next_64 rfl (lv_at hl 2 rfl) ?_
    refine lv_iload_n hx hb dX3_next_65 rfl (lv_at hl 1 rfl) ?_
    refine lv_iconst (v := (1 : Int32)) hx hb dX3_next_66 (by decide) ?_
    refine lv_iadd hx hb dX3_next_67 ?_
    refine lv_iload hx hb dX3_next_68 (lv_at hl 0 rfl) ?_
    have hPc := hP.sub (ws' := [(h, .inr (3, [.ref h_sea, .ref h_fast, .ref h_level, .ref h_ridged, .ref h_channel, .ref h_arrived, .int f_rows, .int f_columns, .int f_laid, .int f_grown, .int f_melted]))]) [0] rfl
    have hDc := hD.sub (ws' := [(h, .inr (3, [.ref h_sea, .ref h_fast, .ref h_level, .ref h_ridged, .ref h_channel, .ref h_arrived, .int f_rows, .int f_columns, .int f_laid, .int f_grown, .int f_melted]))]) [0] (by decide) rfl
    have hFc := va_free (wc := [(h, .inr (3, [.ref h_sea, .ref h_fast, .ref h_level, .ref h_ridged, .ref h_channel, .ref h_arrived, .int f_rows, .int f_columns, .int f_laid, .int f_grown, .int f_melted]))]) hD hS hA [0] rfl
    refine va_calli (va_runV (As := [.int ((x1 / (8 : Int32)) + (1 : Int32)), .int (x1 - x1 / (8 : Int32) * (8 : Int32))]) (rest := []) ⟨hx, hb, hml, hown, hts⟩ (kX3_find l dC dI cI cZ cO cW h h_sea h_fast h_level h_ridged h_channel h_arrived H.size f_laid f_grown f_melted f_rows f_columns ((x1 / (8 : Int32)) + (1 : Int32)) (x1 - x1 / (8 : Int32) * (8 : Int32)) _ hw) (cwV 2 hts (gV gw_140 gw_141 gw_142 gw_89 (gM gw_138)) rfl rfl rfl (by decide +kernel) ⟨Nat.le_of_ble_eq_true rfl, Nat.le_of_ble_eq_true rfl⟩) (pv_of hPc hK hDc (va_recv hK hPc (ci := 3) (q0 := 0) rfl rfl)) rfl rfl hl.1 rfl (lv_room (Nat.le_of_ble_eq_true rfl)) dX3_next_70 ⟨Nat.zero_le _, Nat.zero_le _⟩) hS (fun q _ h => hFc q h) hFc (fun r_5 u t H locs ht hvm hw hB hz1 hk1 hS => ?_)
    obtain ⟨hP, hD⟩ := af_join (wr := []) (w1 := [(h, .inr (3, [.ref h_sea, .ref h_fast, .ref h_level, .ref h_ridged, .ref h_channel, .ref h_arrived, .int f_rows, .int f_columns, .int f_laid, .int f_grown, .int f_melted]))]) hB ht hP hD [0] [] rfl rfl (by decide) (by decide) hk1 hFc
    have hP : va_P (dC, dI) vwCl [(h, .inr (3, [.ref h_sea, .ref h_fast, .ref h_level, .ref h_ridged, .ref h_channel, .ref h_arrived, .int f_rows, .int f_columns, .int f_laid, .int f_grown, .int f_melted]))] _ := hP
    have hD : va_D A [(h, .inr (3, [.ref h_sea, .ref h_fast, .ref h_level, .ref h_ridged, .ref h_channel, .ref h_arrived, .int f_rows, .int f_columns, .int f_laid, .int f_grown, .int f_melted]))] := hD
    have hP9 := hP.sub (ws' := (vX3_next cI cZ h h_sea h_fast h_level h_ridged h_channel h_arrived f_laid f_grown f_melted f_rows f_columns)) [0] rfl
    have hD9 := hD.sub (ws' := (vX3_next cI cZ h h_sea h_fast h_level h_ridged h_channel h_arrived f_laid f_grown f_melted f_rows f_columns)) [0] (by decide) rfl
    exact W.iret (v := r_5) hx hb hr (fun t ht hW => ⟨⟨r_5, (), rfl, hw, by rw [ht]; exact hP9, va_K.moved hW.alike hK, hD9⟩, hS.F ht⟩) hS.2.2 dX3_next_73
  · have hw := hw.2.2.2.1 (ey_1.symm.trans (Int32.toInt_inj.mp (c_2.trans (by decide))))
    refine lv_tableIn (tgt := 74) hx hb dX3_next_12 (by omega) (by omega) (by rw [c_2]; rfl) (by decide) ?_
    refine lv_aload_n hx hb dX3_next_74 rfl (lv_at hl 2 rfl) ?_
    refine lv_iload_n hx hb dX3_next_75 rfl (lv_at hl 1 rfl) ?_
    refine lv_iload hx hb dX3_next_76 (lv_at hl 0 rfl) ?_
    refine lv_iconst (v := (1 : Int32)) hx hb dX3_next_78 (by decide) ?_
    refine lv_isub hx hb dX3_next_79 ?_
    have hPc := hP.sub (ws' := [(h, .inr (3, [.ref h_sea, .ref h_fast, .ref h_level, .ref h_ridged, .ref h_channel, .ref h_arrived, .int f_rows, .int f_columns, .int f_laid, .int f_grown, .int f_melted]))]) [0] rfl
    have hDc := hD.sub (ws' := [(h, .inr (3, [.ref h_sea, .ref h_fast, .ref h_level, .ref h_ridged, .ref h_channel, .ref h_arrived, .int f_rows, .int f_columns, .int f_laid, .int f_grown, .int f_melted]))]) [0] (by decide) rfl
    have hFc := va_free (wc := [(h, .inr (3, [.ref h_sea, .ref h_fast, .ref h_level, .ref h_ridged, .ref h_channel, .ref h_arrived, .int f_rows, .int f_columns, .int f_laid, .int f_grown, .int f_melted]))]) hD hS hA [0] rfl
    refine va_calli (va_runV (As := [.int (x1 / (8 : Int32)), .int ((x1 - x1 / (8 : Int32) * (8 : Int32)) - (1 : Int32))]) (rest := []) ⟨hx, hb, hml, hown, hts⟩ (kX3_find l dC dI cI cZ cO cW h h_sea h_fast h_level h_ridged h_channel h_arrived H.size f_laid f_grown f_melted f_rows f_columns (x1 / (8 : Int32)) ((x1 - x1 / (8 : Int32) * (8 : Int32)) - (1 : Int32)) _ hw) (cwV 2 hts (gV gw_140 gw_141 gw_142 gw_89 (gM gw_138)) rfl rfl rfl (by decide +kernel) ⟨Nat.le_of_ble_eq_true rfl, Nat.le_of_ble_eq_true rfl⟩) (pv_of hPc hK hDc (va_recv hK hPc (ci := 3) (q0 := 0) rfl rfl)) rfl rfl hl.1 rfl (lv_room (Nat.le_of_ble_eq_true rfl)) dX3_next_80 ⟨Nat.zero_le _, Nat.zero_le _⟩) hS (fun q _ h => hFc q h) hFc (fun r_6 u t H locs ht hvm hw hB hz1 hk1 hS => ?_)
    obtain ⟨hP, hD⟩ := af_join (wr := []) (w1 := [(h, .inr (3, [.ref h_sea, .ref h_fast, .ref h_level, .ref h_ridged, .ref h_channel, .ref h_arrived, .int f_rows, .int f_columns, .int f_laid, .int f_grown, .int f_melted]))]) hB ht hP hD [0] [] rfl rfl (by decide) (by decide) hk1 hFc
    have hP : va_P (dC, dI) vwCl [(h, .inr (3, [.ref h_sea, .ref h_fast, .ref h_level, .ref h_ridged, .ref h_channel, .ref h_arrived, .int f_rows, .int f_columns, .int f_laid, .int f_grown, .int f_melted]))] _ := hP
    have hD : va_D A [(h, .inr (3, [.ref h_sea, .ref h_fast, .ref h_level, .ref h_ridged, .ref h_channel, .ref h_arrived, .int f_rows, .int f_columns, .int f_laid, .int f_grown, .int f_melted]))] := hD
    have hP9 := hP.sub (ws' := (vX3_next cI cZ h h_sea h_fast h_level h_ridged h_channel h_arrived f_laid f_grown f_melted f_rows f_columns)) [0] rfl
    have hD9 := hD.sub (ws' := (vX3_next cI cZ h h_sea h_fast h_level h_ridged h_channel h_arrived f_laid f_grown f_melted f_rows f_columns)) [0] (by decide) rfl
    exact W.iret (v := r_6) hx hb hr (fun t ht hW => ⟨⟨r_6, (), rfl, hw, by rw [ht]; exact hP9, va_K.moved hW.alike hK, hD9⟩, hS.F ht⟩) hS.2.2 dX3_next_83
set_option maxHeartbeats 4000000 in
set_option maxRecDepth 100000 in
theorem kX3_next (l : Launch) (dC : Nat → ClassId) (dI : Nat → Nat → Nat) (cI cZ cO cW : ClassId) (h h_sea h_fast h_level h_ridged h_channel h_arrived : Nat)  (sz : Nat) (f_laid : Int32) (f_grown : Int32) (f_melted : Int32) (f_rows : Int32) (f_columns : Int32) (x1 : Int32) (x2 : Int32) (Q : Int32 → Prop) (hw : wX3_next Q x1 x2 f_rows f_columns) : Met l yX3_next zsX3_next rmX3_next (va_Pc [.ref h, .int x1, .int x2] (fun U => U.heap.size = sz ∧ va_P (dC, dI) vwCl (vX3_next cI cZ h h_sea h_fast h_level h_ridged h_channel h_arrived f_laid f_grown f_melted f_rows f_columns) U.heap ∧ va_K (dC, dI) vwCl (tysA cI cZ cO cW) U ∧ va_D (fun _ => True) (vX3_next cI cZ h h_sea h_fast h_level h_ridged h_channel h_arrived f_laid f_grown f_melted f_rows f_columns))) (qX3_next dC dI cI cZ cO cW h h_sea h_fast h_level h_ridged h_channel h_arrived f_laid f_grown f_melted f_rows f_columns Q (va_A (vX3_next cI cZ h h_sea h_fast h_level h_ridged h_channel h_arrived f_laid f_grown f_melted f_rows f_columns) sz)) 0 0 (va_A (vX3_next cI cZ h h_sea h_fast h_level h_ridged h_channel h_arrived f_laid f_grown f_melted f_rows f_columns) sz) := by
  refine Met.ofW (cc := cX3_next) (maxL := 5) (ret := (some .int)) (by decide) rfl ?_
  intro p e s m args below meth c s₁ B hml hv
  obtain ⟨rfl, hsz, hP, hK, hD0⟩ := hv
  subst hsz
  have hC : Cx p s m ([.ref h, .int x1, .int x2] : List Value).toArray meth c cX3_next (some .int) 5 GW RX3 := ⟨B.exec, B.bytes, B.returns, hml, findClass_of_methodNamed B.named, fun w h => atoms_spec (ws := zsX3_next) B.pre w (List.mem_cons_of_mem _ h), B.notSynchronized⟩
  have hD := hD0.self (sz := s.heap.size)
  generalize hAe : va_A (vX3_next cI cZ h h_sea h_fast h_level h_ridged h_channel h_arrived f_laid f_grown f_melted f_rows f_columns) s.heap.size = A at hD ⊢
  have hA : ∀ q : Nat, s.heap.size ≤ q → A q := fun q h => by rw [← hAe]; exact Or.inr h
  have hl := lv_entry ([.ref h, .int x1, .int x2]) (n := 5) (Nat.le_of_ble_eq_true rfl)
  rw [lg_entry_eq]
  generalize (lg_sl ([.ref h, .int x1, .int x2]) ++ List.replicate (5 - (lg_sl ([.ref h, .int x1, .int x2])).length) Slot.unset).toArray = ls at hl ⊢
  exact tX3_next_e hC hK hA x1 x2 f_rows f_columns _ _ ls hw hP hD va_S.rf hl

/-! X3_burden -/
def wX3_burden (Q : Int32 → Prop) (x1 : Int32) (r_channel : Nat → Int32) (r_level : Nat → Int32) (r_ridged : Nat → Int32) : Prop :=
  (vp_in x1 64 ∧ ((¬ (r_channel x1.toNatClampNeg) = (-1 : Int32) → (Q (0 : Int32))) ∧ ((r_channel x1.toNatClampNeg) = (-1 : Int32) → (vp_in x1 64 ∧ (vp_in x1 64 ∧ (Q (((r_level x1.toNatClampNeg) / (2 : Int32)) + (r_ridged x1.toNatClampNeg))))))))
abbrev vX3_burden (cI cZ : ClassId) (h h_sea h_fast h_level h_ridged h_channel h_arrived : Nat) (f_rows : Int32) (f_columns : Int32) (f_laid : Int32) (f_grown : Int32) (f_melted : Int32) (r_channel : Nat → Int32) (r_level : Nat → Int32) (r_ridged : Nat → Int32) : va_W := [(h, .inr (3, [.ref h_sea, .ref h_fast, .ref h_level, .ref h_ridged, .ref h_channel, .ref h_arrived, .int f_rows, .int f_columns, .int f_laid, .int f_grown, .int f_melted])), (h_channel, .inl (cI, 64, .inl r_channel)), (h_level, .inl (cI, 64, .inl r_level)), (h_ridged, .inl (cI, 64, .inl r_ridged))]
abbrev rmX3_burden : Room := { frames := 0, cells := 0, slots := 0, locals := 0 }
abbrev qX3_burden (dC : Nat → ClassId) (dI : Nat → Nat → Nat) (cI cZ cO cW : ClassId) (h h_sea h_fast h_level h_ridged h_channel h_arrived : Nat) (f_rows : Int32) (f_columns : Int32) (f_laid : Int32) (f_grown : Int32) (f_melted : Int32) (r_channel : Nat → Int32) (r_level : Nat → Int32) (r_ridged : Nat → Int32) (Q : Int32 → Prop) (A : Nat → Prop) : Array Value → State → Outcome → State → Prop := va_Qi (fun (r : Int32) (u : Unit) => Q r) (fun (u : Unit) (t : State) => va_P (dC, dI) vwCl (vX3_burden cI cZ h h_sea h_fast h_level h_ridged h_channel h_arrived f_rows f_columns f_laid f_grown f_melted r_channel r_level r_ridged) t.heap ∧ va_K (dC, dI) vwCl (tysA cI cZ cO cW) t ∧ va_D A (vX3_burden cI cZ h h_sea h_fast h_level h_ridged h_channel h_arrived f_rows f_columns f_laid f_grown f_melted r_channel r_level r_ridged)) A
def zsX3_burden : List Cond := Cond.code yX3_burden cX3_burden 2 (some .int) :: GW
set_option maxHeartbeats 4000000 in
set_option maxRecDepth 100000 in
theorem tX3_burden_e {p : Program} {l : Launch} {e : Env} {s : State} {m : MethodId} {args : Array Value} {below : List Frame} {meth : Method} {c : Code} {dC : Nat → ClassId} {dI : Nat → Nat → Nat} {cI cZ cO cW : ClassId} {A : Nat → Prop} {h h_sea h_fast h_level h_ridged h_channel h_arrived : Nat} {f_rows f_columns f_laid f_grown f_melted : Int32} {Q : Int32 → Prop} (hC : Cx p s m args meth c cX3_burden (some .int) 2 GW RX3) (hK : va_K (dC, dI) vwCl (tysA cI cZ cO cW) s) (hA : ∀ q : Nat, s.heap.size ≤ q → A q) :
    ∀ (x1 : Int32) (r_channel : Nat → Int32) (r_level : Nat → Int32) (r_ridged : Nat → Int32) (H : Heap) (locs : List Loc) (ls : Array Slot), wX3_burden Q x1 r_channel r_level r_ridged → va_P (dC, dI) vwCl (vX3_burden cI cZ h h_sea h_fast h_level h_ridged h_channel h_arrived f_rows f_columns f_laid f_grown f_melted r_channel r_level r_ridged) H → va_D A (vX3_burden cI cZ h h_sea h_fast h_level h_ridged h_channel h_arrived f_rows f_columns f_laid f_grown f_melted r_channel r_level r_ridged) → va_S A s.heap H locs → lv_has ls 2 [(0, .ref h), (1, .int x1)] → W p l e rmX3_burden s m args below meth c H locs 0 0 (MQ below (qX3_burden dC dI cI cZ cO cW h h_sea h_fast h_level h_ridged h_channel h_arrived f_rows f_columns f_laid f_grown f_melted r_channel r_level r_ridged Q A) args s 0 0 A) (F0 m 0 ls []) := by
  obtain ⟨hx, hb, hr, hml, hown, hts, hlocks⟩ := id hC
  intro x1 r_channel r_level r_ridged H locs ls hw hP hD hS hl
  refine lv_aload_n hx hb dX3_burden_0 rfl (lv_at hl 0 rfl) ?_
  refine va_get (D := (dC, dI)) (ci := 3) (v := .ref h_channel) (C := RX3) (T := TX3) (N := 11) hx hb hts gu_X3 hown hK hP 0 rfl rfl 4 (by decide) (hts _ gw_79) (fun _ h9 => h9) rfl dX3_burden_1 ?_
  refine lv_iload_n hx hb dX3_burden_4 rfl (lv_at hl 1 rfl) ?_
  obtain ⟨h_1, hw⟩ := hw
  refine va_iald hx hb hK hP 1 0 rfl rfl h_1 dX3_burden_5 ?_
  refine lv_iconst (v := (-1 : Int32)) hx hb dX3_burden_6 (by decide) ?_
  refine lv_icmp_ne (tgt := 28) hx hb dX3_burden_7 (by decide) (fun c_2 => ?_) (fun c_2 => ?_)
  · have hw := hw.1 c_2
    refine lv_iconst (v := (0 : Int32)) hx hb dX3_burden_28 (by decide) ?_
    have hP9 := hP.sub (ws' := (vX3_burden cI cZ h h_sea h_fast h_level h_ridged h_channel h_arrived f_rows f_columns f_laid f_grown f_melted r_channel r_level r_ridged)) [0, 1, 2, 3] rfl
    have hD9 := hD.sub (ws' := (vX3_burden cI cZ h h_sea h_fast h_level h_ridged h_channel h_arrived f_rows f_columns f_laid f_grown f_melted r_channel r_level r_ridged)) [0, 1, 2, 3] (by decide) rfl
    exact W.iret (v := (0 : Int32)) hx hb hr (fun t ht hW => ⟨⟨(0 : Int32), (), rfl, hw, by rw [ht]; exact hP9, va_K.moved hW.alike hK, hD9⟩, hS.F ht⟩) hS.2.2 dX3_burden_29
  · have hw := hw.2 c_2
    refine lv_aload_n hx hb dX3_burden_10 rfl (lv_at hl 0 rfl) ?_
    refine va_get (D := (dC, dI)) (ci := 3) (v := .ref h_level) (C := RX3) (T := TX3) (N := 11) hx hb hts gu_X3 hown hK hP 0 rfl rfl 2 (by decide) (hts _ gw_77) (fun _ h9 => h9) rfl dX3_burden_11 ?_
    refine lv_iload_n hx hb dX3_burden_14 rfl (lv_at hl 1 rfl) ?_
    obtain ⟨h_3, hw⟩ := hw
    refine va_iald hx hb hK hP 2 0 rfl rfl h_3 dX3_burden_15 ?_
    refine lv_iconst (v := (2 : Int32)) hx hb dX3_burden_16 (by decide) ?_
    refine lv_idiv hx hb dX3_burden_17 (by decide) ?_
    refine lv_aload_n hx hb dX3_burden_18 rfl (lv_at hl 0 rfl) ?_
    refine va_get (D := (dC, dI)) (ci := 3) (v := .ref h_ridged) (C := RX3) (T := TX3) (N := 11) hx hb hts gu_X3 hown hK hP 0 rfl rfl 3 (by decide) (hts _ gw_78) (fun _ h9 => h9) rfl dX3_burden_19 ?_
    refine lv_iload_n hx hb dX3_burden_22 rfl (lv_at hl 1 rfl) ?_
    obtain ⟨h_4, hw⟩ := hw
    refine va_iald hx hb hK hP 3 0 rfl rfl h_4 dX3_burden_23 ?_
    refine lv_iadd hx hb dX3_burden_24 ?_
    refine lv_goto (tgt := 29) hx hb dX3_burden_25 (by decide) ?_
    have hP9 := hP.sub (ws' := (vX3_burden cI cZ h h_sea h_fast h_level h_ridged h_channel h_arrived f_rows f_columns f_laid f_grown f_melted r_channel r_level r_ridged)) [0, 1, 2, 3] rfl
    have hD9 := hD.sub (ws' := (vX3_burden cI cZ h h_sea h_fast h_level h_ridged h_channel h_arrived f_rows f_columns f_laid f_grown f_melted r_channel r_level r_ridged)) [0, 1, 2, 3] (by decide) rfl
    exact W.iret (v := (((r_level x1.toNatClampNeg) / (2 : Int32)) + (r_ridged x1.toNatClampNeg))) hx hb hr (fun t ht hW => ⟨⟨(((r_level x1.toNatClampNeg) / (2 : Int32)) + (r_ridged x1.toNatClampNeg)), (), rfl, hw, by rw [ht]; exact hP9, va_K.moved hW.alike hK, hD9⟩, hS.F ht⟩) hS.2.2 dX3_burden_29
set_option maxHeartbeats 4000000 in
set_option maxRecDepth 100000 in
theorem kX3_burden (l : Launch) (dC : Nat → ClassId) (dI : Nat → Nat → Nat) (cI cZ cO cW : ClassId) (h h_sea h_fast h_level h_ridged h_channel h_arrived : Nat)  (sz : Nat) (f_rows : Int32) (f_columns : Int32) (f_laid : Int32) (f_grown : Int32) (f_melted : Int32) (r_channel : Nat → Int32) (r_level : Nat → Int32) (r_ridged : Nat → Int32) (x1 : Int32) (Q : Int32 → Prop) (hw : wX3_burden Q x1 r_channel r_level r_ridged) : Met l yX3_burden zsX3_burden rmX3_burden (va_Pc [.ref h, .int x1] (fun U => U.heap.size = sz ∧ va_P (dC, dI) vwCl (vX3_burden cI cZ h h_sea h_fast h_level h_ridged h_channel h_arrived f_rows f_columns f_laid f_grown f_melted r_channel r_level r_ridged) U.heap ∧ va_K (dC, dI) vwCl (tysA cI cZ cO cW) U ∧ va_D (fun _ => True) (vX3_burden cI cZ h h_sea h_fast h_level h_ridged h_channel h_arrived f_rows f_columns f_laid f_grown f_melted r_channel r_level r_ridged))) (qX3_burden dC dI cI cZ cO cW h h_sea h_fast h_level h_ridged h_channel h_arrived f_rows f_columns f_laid f_grown f_melted r_channel r_level r_ridged Q (va_A (vX3_burden cI cZ h h_sea h_fast h_level h_ridged h_channel h_arrived f_rows f_columns f_laid f_grown f_melted r_channel r_level r_ridged) sz)) 0 0 (va_A (vX3_burden cI cZ h h_sea h_fast h_level h_ridged h_channel h_arrived f_rows f_columns f_laid f_grown f_melted r_channel r_level r_ridged) sz) := by
  refine Met.ofW (cc := cX3_burden) (maxL := 2) (ret := (some .int)) (by decide) rfl ?_
  intro p e s m args below meth c s₁ B hml hv
  obtain ⟨rfl, hsz, hP, hK, hD0⟩ := hv
  subst hsz
  have hC : Cx p s m ([.ref h, .int x1] : List Value).toArray meth c cX3_burden (some .int) 2 GW RX3 := ⟨B.exec, B.bytes, B.returns, hml, findClass_of_methodNamed B.named, fun w h => atoms_spec (ws := zsX3_burden) B.pre w (List.mem_cons_of_mem _ h), B.notSynchronized⟩
  have hD := hD0.self (sz := s.heap.size)
  generalize hAe : va_A (vX3_burden cI cZ h h_sea h_fast h_level h_ridged h_channel h_arrived f_rows f_columns f_laid f_grown f_melted r_channel r_level r_ridged) s.heap.size = A at hD ⊢
  have hA : ∀ q : Nat, s.heap.size ≤ q → A q := fun q h => by rw [← hAe]; exact Or.inr h
  have hl := lv_entry ([.ref h, .int x1]) (n := 2) (Nat.le_of_ble_eq_true rfl)
  rw [lg_entry_eq]
  generalize (lg_sl ([.ref h, .int x1]) ++ List.replicate (2 - (lg_sl ([.ref h, .int x1])).length) Slot.unset).toArray = ls at hl ⊢
  exact tX3_burden_e hC hK hA x1 r_channel r_level r_ridged _ _ ls hw hP hD va_S.rf hl

/-! X3_sumOf -/
def wX3_sumOf_4 (Q : Int32 → Prop)  (n_p1 : Nat) : Nat → Int32 → Int32 → (Nat → Int32) → Prop
  | 0, _, _, _ => False
  | n + 1, x2, x3, r_p1 => (((64 : Int32) ≤ x3 → (Q x2)) ∧ (¬ (64 : Int32) ≤ x3 → (vp_in x3 n_p1 ∧ (wX3_sumOf_4 Q n_p1 n (x2 + (r_p1 x3.toNatClampNeg)) (x3 + (1 : Int32)) r_p1))))
def wX3_sumOf (Q : Int32 → Prop)  (n_p1 : Nat) (r_p1 : Nat → Int32) : Prop :=
  (∃ j_, wX3_sumOf_4 Q n_p1 j_ (0 : Int32) (0 : Int32) r_p1)
abbrev vX3_sumOf (cI cZ : ClassId) (h_p1 h : Nat) (n_p1 : Nat) (r_p1 : Nat → Int32) : va_W := [(h_p1, .inl (cI, n_p1, .inl r_p1))]
abbrev rmX3_sumOf : Room := { frames := 0, cells := 0, slots := 0, locals := 0 }
abbrev qX3_sumOf (dC : Nat → ClassId) (dI : Nat → Nat → Nat) (cI cZ cO cW : ClassId) (h_p1 h : Nat) (n_p1 : Nat) (r_p1 : Nat → Int32) (Q : Int32 → Prop) (A : Nat → Prop) : Array Value → State → Outcome → State → Prop := va_Qi (fun (r : Int32) (u : Unit) => Q r) (fun (u : Unit) (t : State) => va_P (dC, dI) vwCl (vX3_sumOf cI cZ h_p1 h n_p1 r_p1) t.heap ∧ va_K (dC, dI) vwCl (tysA cI cZ cO cW) t ∧ va_D A (vX3_sumOf cI cZ h_p1 h n_p1 r_p1)) A
def zsX3_sumOf : List Cond := Cond.code yX3_sumOf cX3_sumOf 4 (some .int) :: GW
set_option maxHeartbeats 4000000 in
set_option maxRecDepth 100000 in
theorem tX3_sumOf_4 {p : Program} {l : Launch} {e : Env} {s : State} {m : MethodId} {args : Array Value} {below : List Frame} {meth : Method} {c : Code} {dC : Nat → ClassId} {dI : Nat → Nat → Nat} {cI cZ cO cW : ClassId} {A : Nat → Prop} {h_p1 h : Nat} {n_p1 : Nat} {Q : Int32 → Prop}  (hC : Cx p s m args meth c cX3_sumOf (some .int) 4 GW RX3) (hK : va_K (dC, dI) vwCl (tysA cI cZ cO cW) s) (hA : ∀ q : Nat, s.heap.size ≤ q → A q) :
    ∀ (n : Nat) (x2 : Int32) (x3 : Int32) (r_p1 : (Nat → Int32)) (H : Heap) (locs : List Loc) (ls : Array Slot), wX3_sumOf_4 Q n_p1 n x2 x3 r_p1 → va_P (dC, dI) vwCl (vX3_sumOf cI cZ h_p1 h n_p1 r_p1) H → va_D A (vX3_sumOf cI cZ h_p1 h n_p1 r_p1) → va_S A s.heap H locs → lv_has ls 4 [(1, .ref h_p1), (2, .int x2), (3, .int x3)] → W p l e rmX3_sumOf s m args below meth c H locs 0 0 (MQ below (qX3_sumOf dC dI cI cZ cO cW h_p1 h n_p1 r_p1 Q A) args s 0 0 A) (F0 m 4 ls []) := by
  obtain ⟨hx, hb, hr, hml, hown, hts, hlocks⟩ := id hC
  intro n
  induction n with
  | zero =>
    intro  x2 x3 r_p1 H locs ls hw
    exact hw.elim
  | succ n ih =>
    intro  x2 x3 r_p1 H locs ls hw hP hD hS hl
    refine lv_iload_n hx hb dX3_sumOf_4 rfl (lv_at hl 2 rfl) ?_
    refine lv_bipush (v := (64 : Int32)) hx hb dX3_sumOf_5 (by decide) ?_
    refine lv_icmp_ge (tgt := 22) hx hb dX3_sumOf_7 (by decide) (fun c_1 => ?_) (fun c_1 => ?_)
    · have hw := hw.1 c_1
      refine lv_iload_n hx hb dX3_sumOf_22 rfl (lv_at hl 1 rfl) ?_
      have hP9 := hP.sub (ws' := (vX3_sumOf cI cZ h_p1 h n_p1 r_p1)) [0] rfl
      have hD9 := hD.sub (ws' := (vX3_sumOf cI cZ h_p1 h n_p1 r_p1)) [0] (by decide) rfl
      exact W.iret (v := x2) hx hb hr (fun t ht hW => ⟨⟨x2, (), rfl, hw, by rw [ht]; exact hP9, va_K.moved hW.alike hK, hD9⟩, hS.F ht⟩) hS.2.2 dX3_sumOf_23
    · have hw := hw.2 c_1
      refine lv_iload_n hx hb dX3_sumOf_10 rfl (lv_at hl 1 rfl) ?_
      refine lv_aload_n hx hb dX3_sumOf_11 rfl (lv_at hl 0 rfl) ?_
      refine lv_iload_n hx hb dX3_sumOf_12 rfl (lv_at hl 2 rfl) ?_
      obtain ⟨h_2, hw⟩ := hw
      refine va_iald hx hb hK hP 0 0 rfl rfl h_2 dX3_sumOf_13 ?_
      refine lv_iadd hx hb dX3_sumOf_14 ?_
      refine lv_istore_n (lv' := [(2, .int (x2 + (r_p1 x3.toNatClampNeg))), (1, .ref h_p1), (3, .int x3)]) hx hb dX3_sumOf_15 rfl hl (by decide) rfl (fun ls hl => ?_)
      refine lv_iinc (v := (x3 + (1 : Int32))) (lv' := [(3, .int (x3 + (1 : Int32))), (2, .int (x2 + (r_p1 x3.toNatClampNeg))), (1, .ref h_p1)]) hx hb dX3_sumOf_16 hl (k := 2) rfl rfl (by decide) rfl (fun ls hl => ?_)
      refine lv_goto (tgt := 4) hx hb dX3_sumOf_19 (by decide) ?_
      exact ih (x2 + (r_p1 x3.toNatClampNeg)) (x3 + (1 : Int32)) r_p1 _ _ ls hw (hP.sub [0] rfl) (hD.sub [0] (by decide) rfl) hS (lv_sub hl [2, 1, 0] rfl)
set_option maxHeartbeats 4000000 in
set_option maxRecDepth 100000 in
theorem tX3_sumOf_e {p : Program} {l : Launch} {e : Env} {s : State} {m : MethodId} {args : Array Value} {below : List Frame} {meth : Method} {c : Code} {dC : Nat → ClassId} {dI : Nat → Nat → Nat} {cI cZ cO cW : ClassId} {A : Nat → Prop} {h_p1 h : Nat} {n_p1 : Nat} {Q : Int32 → Prop} (hC : Cx p s m args meth c cX3_sumOf (some .int) 4 GW RX3) (hK : va_K (dC, dI) vwCl (tysA cI cZ cO cW) s) (hA : ∀ q : Nat, s.heap.size ≤ q → A q) :
    ∀ (r_p1 : Nat → Int32) (H : Heap) (locs : List Loc) (ls : Array Slot), wX3_sumOf Q  n_p1 r_p1 → va_P (dC, dI) vwCl (vX3_sumOf cI cZ h_p1 h n_p1 r_p1) H → va_D A (vX3_sumOf cI cZ h_p1 h n_p1 r_p1) → va_S A s.heap H locs → lv_has ls 4 [(0, .ref h), (1, .ref h_p1)] → W p l e rmX3_sumOf s m args below meth c H locs 0 0 (MQ below (qX3_sumOf dC dI cI cZ cO cW h_p1 h n_p1 r_p1 Q A) args s 0 0 A) (F0 m 0 ls []) := by
  obtain ⟨hx, hb, hr, hml, hown, hts, hlocks⟩ := id hC
  intro  r_p1 H locs ls hw hP hD hS hl
  refine lv_iconst (v := (0 : Int32)) hx hb dX3_sumOf_0 (by decide) ?_
  refine lv_istore_n (lv' := [(2, .int (0 : Int32)), (0, .ref h), (1, .ref h_p1)]) hx hb dX3_sumOf_1 rfl hl (by decide) rfl (fun ls hl => ?_)
  refine lv_iconst (v := (0 : Int32)) hx hb dX3_sumOf_2 (by decide) ?_
  refine lv_istore_n (lv' := [(3, .int (0 : Int32)), (2, .int (0 : Int32)), (0, .ref h), (1, .ref h_p1)]) hx hb dX3_sumOf_3 rfl hl (by decide) rfl (fun ls hl => ?_)
  obtain ⟨n_3, hw⟩ := hw
  exact tX3_sumOf_4 hC hK hA  n_3 (0 : Int32) (0 : Int32) r_p1 _ _ ls hw (hP.sub [0] rfl) (hD.sub [0] (by decide) rfl) hS (lv_sub hl [3, 1, 0] rfl)
set_option maxHeartbeats 4000000 in
set_option maxRecDepth 100000 in
theorem kX3_sumOf (l : Launch) (dC : Nat → ClassId) (dI : Nat → Nat → Nat) (cI cZ cO cW : ClassId) (h_p1 h : Nat)  (sz : Nat) (n_p1 : Nat) (r_p1 : Nat → Int32)  (Q : Int32 → Prop) (hw : wX3_sumOf Q  n_p1 r_p1) : Met l yX3_sumOf zsX3_sumOf rmX3_sumOf (va_Pc [.ref h, .ref h_p1] (fun U => U.heap.size = sz ∧ va_P (dC, dI) vwCl (vX3_sumOf cI cZ h_p1 h n_p1 r_p1) U.heap ∧ va_K (dC, dI) vwCl (tysA cI cZ cO cW) U ∧ va_D (fun _ => True) (vX3_sumOf cI cZ h_p1 h n_p1 r_p1))) (qX3_sumOf dC dI cI cZ cO cW h_p1 h n_p1 r_p1 Q (va_A (vX3_sumOf cI cZ h_p1 h n_p1 r_p1) sz)) 0 0 (va_A (vX3_sumOf cI cZ h_p1 h n_p1 r_p1) sz) := by
  refine Met.ofW (cc := cX3_sumOf) (maxL := 4) (ret := (some .int)) (by decide) rfl ?_
  intro p e s m args below meth c s₁ B hml hv
  obtain ⟨rfl, hsz, hP, hK, hD0⟩ := hv
  subst hsz
  have hC : Cx p s m ([.ref h, .ref h_p1] : List Value).toArray meth c cX3_sumOf (some .int) 4 GW RX3 := ⟨B.exec, B.bytes, B.returns, hml, findClass_of_methodNamed B.named, fun w h => atoms_spec (ws := zsX3_sumOf) B.pre w (List.mem_cons_of_mem _ h), B.notSynchronized⟩
  have hD := hD0.self (sz := s.heap.size)
  generalize hAe : va_A (vX3_sumOf cI cZ h_p1 h n_p1 r_p1) s.heap.size = A at hD ⊢
  have hA : ∀ q : Nat, s.heap.size ≤ q → A q := fun q h => by rw [← hAe]; exact Or.inr h
  have hl := lv_entry ([.ref h, .ref h_p1]) (n := 4) (Nat.le_of_ble_eq_true rfl)
  rw [lg_entry_eq]
  generalize (lg_sl ([.ref h, .ref h_p1]) ++ List.replicate (4 - (lg_sl ([.ref h, .ref h_p1])).length) Slot.unset).toArray = ls at hl ⊢
  exact tX3_sumOf_e hC hK hA  r_p1 _ _ ls hw hP hD va_S.rf hl

/-! X3_allLevel -/
def wX3_allLevel (Q : Int32 → Prop)  (r_level : Nat → Int32) : Prop :=
  (wX3_sumOf (fun r_1 => (Q r_1)) 64 r_level)
abbrev vX3_allLevel (cI cZ : ClassId) (h h_sea h_fast h_level h_ridged h_channel h_arrived : Nat) (f_rows : Int32) (f_columns : Int32) (f_laid : Int32) (f_grown : Int32) (f_melted : Int32) (r_level : Nat → Int32) : va_W := [(h, .inr (3, [.ref h_sea, .ref h_fast, .ref h_level, .ref h_ridged, .ref h_channel, .ref h_arrived, .int f_rows, .int f_columns, .int f_laid, .int f_grown, .int f_melted])), (h_level, .inl (cI, 64, .inl r_level))]
abbrev rmX3_allLevel : Room := { frames := 1, cells := 0, slots := 0, locals := 23 }
abbrev qX3_allLevel (dC : Nat → ClassId) (dI : Nat → Nat → Nat) (cI cZ cO cW : ClassId) (h h_sea h_fast h_level h_ridged h_channel h_arrived : Nat) (f_rows : Int32) (f_columns : Int32) (f_laid : Int32) (f_grown : Int32) (f_melted : Int32) (r_level : Nat → Int32) (Q : Int32 → Prop) (A : Nat → Prop) : Array Value → State → Outcome → State → Prop := va_Qi (fun (r : Int32) (u : Unit) => Q r) (fun (u : Unit) (t : State) => va_P (dC, dI) vwCl (vX3_allLevel cI cZ h h_sea h_fast h_level h_ridged h_channel h_arrived f_rows f_columns f_laid f_grown f_melted r_level) t.heap ∧ va_K (dC, dI) vwCl (tysA cI cZ cO cW) t ∧ va_D A (vX3_allLevel cI cZ h h_sea h_fast h_level h_ridged h_channel h_arrived f_rows f_columns f_laid f_grown f_melted r_level)) A
def zsX3_allLevel : List Cond := Cond.code yX3_allLevel cX3_allLevel 1 (some .int) :: GW
set_option maxHeartbeats 4000000 in
set_option maxRecDepth 100000 in
theorem tX3_allLevel_e {p : Program} {l : Launch} {e : Env} {s : State} {m : MethodId} {args : Array Value} {below : List Frame} {meth : Method} {c : Code} {dC : Nat → ClassId} {dI : Nat → Nat → Nat} {cI cZ cO cW : ClassId} {A : Nat → Prop} {h h_sea h_fast h_level h_ridged h_channel h_arrived : Nat} {f_rows f_columns f_laid f_grown f_melted : Int32} {Q : Int32 → Prop} (hC : Cx p s m args meth c cX3_allLevel (some .int) 1 GW RX3) (hK : va_K (dC, dI) vwCl (tysA cI cZ cO cW) s) (hA : ∀ q : Nat, s.heap.size ≤ q → A q) :
    ∀ (r_level : Nat → Int32) (H : Heap) (locs : List Loc) (ls : Array Slot), wX3_allLevel Q  r_level → va_P (dC, dI) vwCl (vX3_allLevel cI cZ h h_sea h_fast h_level h_ridged h_channel h_arrived f_rows f_columns f_laid f_grown f_melted r_level) H → va_D A (vX3_allLevel cI cZ h h_sea h_fast h_level h_ridged h_channel h_arrived f_rows f_columns f_laid f_grown f_melted r_level) → va_S A s.heap H locs → lv_has ls 1 [(0, .ref h)] → W p l e rmX3_allLevel s m args below meth c H locs 0 0 (MQ below (qX3_allLevel dC dI cI cZ cO cW h h_sea h_fast h_level h_ridged h_channel h_arrived f_rows f_columns f_laid f_grown f_melted r_level Q A) args s 0 0 A) (F0 m 0 ls []) := by
  obtain ⟨hx, hb, hr, hml, hown, hts, hlocks⟩ := id hC
  intro  r_level H locs ls hw hP hD hS hl
  refine lv_aload_n hx hb dX3_allLevel_0 rfl (lv_at hl 0 rfl) ?_
  refine lv_aload_n hx hb dX3_allLevel_1 rfl (lv_at hl 0 rfl) ?_
  refine va_get (D := (dC, dI)) (ci := 3) (v := .ref h_level) (C := RX3) (T := TX3) (N := 11) hx hb hts gu_X3 hown hK hP 0 rfl rfl 2 (by decide) (hts _ gw_77) (fun _ h9 => h9) rfl dX3_allLevel_2 ?_
  have hPc := hP.sub (ws' := [(h_level, .inl (cI, 64, .inl r_level))]) [1] rfl
  have hDc := hD.sub (ws' := [(h_level, .inl (cI, 64, .inl r_level))]) [1] (by decide) rfl
  have hFc := va_free (wc := [(h_level, .inl (cI, 64, .inl r_level))]) hD hS hA [1] rfl
  refine va_calli (va_runV (As := [.ref h_level]) (rest := []) ⟨hx, hb, hml, hown, hts⟩ (kX3_sumOf l dC dI cI cZ cO cW h_level h H.size 64 r_level _ hw) (cwV 1 hts (gV gw_244 gw_245 gw_246 gw_89 (gM gw_242)) rfl rfl rfl (by decide +kernel) ⟨Nat.le_of_ble_eq_true rfl, Nat.le_of_ble_eq_true rfl⟩) (pv_of hPc hK hDc (va_recv hK hP (ci := 3) (q0 := 0) rfl rfl)) rfl rfl hl.1 rfl (lv_room (Nat.le_of_ble_eq_true rfl)) dX3_allLevel_5 ⟨Nat.zero_le _, Nat.zero_le _⟩) hS (fun q _ h => hFc q h) hFc (fun r_1 u t H locs ht hvm hw hB hz1 hk1 hS => ?_)
  obtain ⟨hP, hD⟩ := af_join (wr := [(h, .inr (3, [.ref h_sea, .ref h_fast, .ref h_level, .ref h_ridged, .ref h_channel, .ref h_arrived, .int f_rows, .int f_columns, .int f_laid, .int f_grown, .int f_melted]))]) (w1 := [(h_level, .inl (cI, 64, .inl r_level))]) hB ht hP hD [1] [0] rfl rfl (by decide) (by decide) hk1 hFc
  have hP : va_P (dC, dI) vwCl [(h, .inr (3, [.ref h_sea, .ref h_fast, .ref h_level, .ref h_ridged, .ref h_channel, .ref h_arrived, .int f_rows, .int f_columns, .int f_laid, .int f_grown, .int f_melted])), (h_level, .inl (cI, 64, .inl r_level))] _ := hP
  have hD : va_D A [(h, .inr (3, [.ref h_sea, .ref h_fast, .ref h_level, .ref h_ridged, .ref h_channel, .ref h_arrived, .int f_rows, .int f_columns, .int f_laid, .int f_grown, .int f_melted])), (h_level, .inl (cI, 64, .inl r_level))] := hD
  have hP9 := hP.sub (ws' := (vX3_allLevel cI cZ h h_sea h_fast h_level h_ridged h_channel h_arrived f_rows f_columns f_laid f_grown f_melted r_level)) [0, 1] rfl
  have hD9 := hD.sub (ws' := (vX3_allLevel cI cZ h h_sea h_fast h_level h_ridged h_channel h_arrived f_rows f_columns f_laid f_grown f_melted r_level)) [0, 1] (by decide) rfl
  exact W.iret (v := r_1) hx hb hr (fun t ht hW => ⟨⟨r_1, (), rfl, hw, by rw [ht]; exact hP9, va_K.moved hW.alike hK, hD9⟩, hS.F ht⟩) hS.2.2 dX3_allLevel_8
set_option maxHeartbeats 4000000 in
set_option maxRecDepth 100000 in
theorem kX3_allLevel (l : Launch) (dC : Nat → ClassId) (dI : Nat → Nat → Nat) (cI cZ cO cW : ClassId) (h h_sea h_fast h_level h_ridged h_channel h_arrived : Nat)  (sz : Nat) (f_rows : Int32) (f_columns : Int32) (f_laid : Int32) (f_grown : Int32) (f_melted : Int32) (r_level : Nat → Int32)  (Q : Int32 → Prop) (hw : wX3_allLevel Q  r_level) : Met l yX3_allLevel zsX3_allLevel rmX3_allLevel (va_Pc [.ref h] (fun U => U.heap.size = sz ∧ va_P (dC, dI) vwCl (vX3_allLevel cI cZ h h_sea h_fast h_level h_ridged h_channel h_arrived f_rows f_columns f_laid f_grown f_melted r_level) U.heap ∧ va_K (dC, dI) vwCl (tysA cI cZ cO cW) U ∧ va_D (fun _ => True) (vX3_allLevel cI cZ h h_sea h_fast h_level h_ridged h_channel h_arrived f_rows f_columns f_laid f_grown f_melted r_level))) (qX3_allLevel dC dI cI cZ cO cW h h_sea h_fast h_level h_ridged h_channel h_arrived f_rows f_columns f_laid f_grown f_melted r_level Q (va_A (vX3_allLevel cI cZ h h_sea h_fast h_level h_ridged h_channel h_arrived f_rows f_columns f_laid f_grown f_melted r_level) sz)) 0 0 (va_A (vX3_allLevel cI cZ h h_sea h_fast h_level h_ridged h_channel h_arrived f_rows f_columns f_laid f_grown f_melted r_level) sz) := by
  refine Met.ofW (cc := cX3_allLevel) (maxL := 1) (ret := (some .int)) (by decide) rfl ?_
  intro p e s m args below meth c s₁ B hml hv
  obtain ⟨rfl, hsz, hP, hK, hD0⟩ := hv
  subst hsz
  have hC : Cx p s m ([.ref h] : List Value).toArray meth c cX3_allLevel (some .int) 1 GW RX3 := ⟨B.exec, B.bytes, B.returns, hml, findClass_of_methodNamed B.named, fun w h => atoms_spec (ws := zsX3_allLevel) B.pre w (List.mem_cons_of_mem _ h), B.notSynchronized⟩
  have hD := hD0.self (sz := s.heap.size)
  generalize hAe : va_A (vX3_allLevel cI cZ h h_sea h_fast h_level h_ridged h_channel h_arrived f_rows f_columns f_laid f_grown f_melted r_level) s.heap.size = A at hD ⊢
  have hA : ∀ q : Nat, s.heap.size ≤ q → A q := fun q h => by rw [← hAe]; exact Or.inr h
  have hl := lv_entry ([.ref h]) (n := 1) (Nat.le_of_ble_eq_true rfl)
  rw [lg_entry_eq]
  generalize (lg_sl ([.ref h]) ++ List.replicate (1 - (lg_sl ([.ref h])).length) Slot.unset).toArray = ls at hl ⊢
  exact tX3_allLevel_e hC hK hA  r_level _ _ ls hw hP hD va_S.rf hl

/-! X3_allRidged -/
def wX3_allRidged (Q : Int32 → Prop)  (r_ridged : Nat → Int32) : Prop :=
  (wX3_sumOf (fun r_1 => (Q r_1)) 64 r_ridged)
abbrev vX3_allRidged (cI cZ : ClassId) (h h_sea h_fast h_level h_ridged h_channel h_arrived : Nat) (f_rows : Int32) (f_columns : Int32) (f_laid : Int32) (f_grown : Int32) (f_melted : Int32) (r_ridged : Nat → Int32) : va_W := [(h, .inr (3, [.ref h_sea, .ref h_fast, .ref h_level, .ref h_ridged, .ref h_channel, .ref h_arrived, .int f_rows, .int f_columns, .int f_laid, .int f_grown, .int f_melted])), (h_ridged, .inl (cI, 64, .inl r_ridged))]
abbrev rmX3_allRidged : Room := { frames := 1, cells := 0, slots := 0, locals := 23 }
abbrev qX3_allRidged (dC : Nat → ClassId) (dI : Nat → Nat → Nat) (cI cZ cO cW : ClassId) (h h_sea h_fast h_level h_ridged h_channel h_arrived : Nat) (f_rows : Int32) (f_columns : Int32) (f_laid : Int32) (f_grown : Int32) (f_melted : Int32) (r_ridged : Nat → Int32) (Q : Int32 → Prop) (A : Nat → Prop) : Array Value → State → Outcome → State → Prop := va_Qi (fun (r : Int32) (u : Unit) => Q r) (fun (u : Unit) (t : State) => va_P (dC, dI) vwCl (vX3_allRidged cI cZ h h_sea h_fast h_level h_ridged h_channel h_arrived f_rows f_columns f_laid f_grown f_melted r_ridged) t.heap ∧ va_K (dC, dI) vwCl (tysA cI cZ cO cW) t ∧ va_D A (vX3_allRidged cI cZ h h_sea h_fast h_level h_ridged h_channel h_arrived f_rows f_columns f_laid f_grown f_melted r_ridged)) A
def zsX3_allRidged : List Cond := Cond.code yX3_allRidged cX3_allRidged 1 (some .int) :: GW
set_option maxHeartbeats 4000000 in
set_option maxRecDepth 100000 in
theorem tX3_allRidged_e {p : Program} {l : Launch} {e : Env} {s : State} {m : MethodId} {args : Array Value} {below : List Frame} {meth : Method} {c : Code} {dC : Nat → ClassId} {dI : Nat → Nat → Nat} {cI cZ cO cW : ClassId} {A : Nat → Prop} {h h_sea h_fast h_level h_ridged h_channel h_arrived : Nat} {f_rows f_columns f_laid f_grown f_melted : Int32} {Q : Int32 → Prop} (hC : Cx p s m args meth c cX3_allRidged (some .int) 1 GW RX3) (hK : va_K (dC, dI) vwCl (tysA cI cZ cO cW) s) (hA : ∀ q : Nat, s.heap.size ≤ q → A q) :
    ∀ (r_ridged : Nat → Int32) (H : Heap) (locs : List Loc) (ls : Array Slot), wX3_allRidged Q  r_ridged → va_P (dC, dI) vwCl (vX3_allRidged cI cZ h h_sea h_fast h_level h_ridged h_channel h_arrived f_rows f_columns f_laid f_grown f_melted r_ridged) H → va_D A (vX3_allRidged cI cZ h h_sea h_fast h_level h_ridged h_channel h_arrived f_rows f_columns f_laid f_grown f_melted r_ridged) → va_S A s.heap H locs → lv_has ls 1 [(0, .ref h)] → W p l e rmX3_allRidged s m args below meth c H locs 0 0 (MQ below (qX3_allRidged dC dI cI cZ cO cW h h_sea h_fast h_level h_ridged h_channel h_arrived f_rows f_columns f_laid f_grown f_melted r_ridged Q A) args s 0 0 A) (F0 m 0 ls []) := by
  obtain ⟨hx, hb, hr, hml, hown, hts, hlocks⟩ := id hC
  intro  r_ridged H locs ls hw hP hD hS hl
  refine lv_aload_n hx hb dX3_allRidged_0 rfl (lv_at hl 0 rfl) ?_
  refine lv_aload_n hx hb dX3_allRidged_1 rfl (lv_at hl 0 rfl) ?_
  refine va_get (D := (dC, dI)) (ci := 3) (v := .ref h_ridged) (C := RX3) (T := TX3) (N := 11) hx hb hts gu_X3 hown hK hP 0 rfl rfl 3 (by decide) (hts _ gw_78) (fun _ h9 => h9) rfl dX3_allRidged_2 ?_
  have hPc := hP.sub (ws' := [(h_ridged, .inl (cI, 64, .inl r_ridged))]) [1] rfl
  have hDc := hD.sub (ws' := [(h_ridged, .inl (cI, 64, .inl r_ridged))]) [1] (by decide) rfl
  have hFc := va_free (wc := [(h_ridged, .inl (cI, 64, .inl r_ridged))]) hD hS hA [1] rfl
  refine va_calli (va_runV (As := [.ref h_ridged]) (rest := []) ⟨hx, hb, hml, hown, hts⟩ (kX3_sumOf l dC dI cI cZ cO cW h_ridged h H.size 64 r_ridged _ hw) (cwV 1 hts (gV gw_244 gw_245 gw_246 gw_89 (gM gw_242)) rfl rfl rfl (by decide +kernel) ⟨Nat.le_of_ble_eq_true rfl, Nat.le_of_ble_eq_true rfl⟩) (pv_of hPc hK hDc (va_recv hK hP (ci := 3) (q0 := 0) rfl rfl)) rfl rfl hl.1 rfl (lv_room (Nat.le_of_ble_eq_true rfl)) dX3_allRidged_5 ⟨Nat.zero_le _, Nat.zero_le _⟩) hS (fun q _ h => hFc q h) hFc (fun r_1 u t H locs ht hvm hw hB hz1 hk1 hS => ?_)
  obtain ⟨hP, hD⟩ := af_join (wr := [(h, .inr (3, [.ref h_sea, .ref h_fast, .ref h_level, .ref h_ridged, .ref h_channel, .ref h_arrived, .int f_rows, .int f_columns, .int f_laid, .int f_grown, .int f_melted]))]) (w1 := [(h_ridged, .inl (cI, 64, .inl r_ridged))]) hB ht hP hD [1] [0] rfl rfl (by decide) (by decide) hk1 hFc
  have hP : va_P (dC, dI) vwCl [(h, .inr (3, [.ref h_sea, .ref h_fast, .ref h_level, .ref h_ridged, .ref h_channel, .ref h_arrived, .int f_rows, .int f_columns, .int f_laid, .int f_grown, .int f_melted])), (h_ridged, .inl (cI, 64, .inl r_ridged))] _ := hP
  have hD : va_D A [(h, .inr (3, [.ref h_sea, .ref h_fast, .ref h_level, .ref h_ridged, .ref h_channel, .ref h_arrived, .int f_rows, .int f_columns, .int f_laid, .int f_grown, .int f_melted])), (h_ridged, .inl (cI, 64, .inl r_ridged))] := hD
  have hP9 := hP.sub (ws' := (vX3_allRidged cI cZ h h_sea h_fast h_level h_ridged h_channel h_arrived f_rows f_columns f_laid f_grown f_melted r_ridged)) [0, 1] rfl
  have hD9 := hD.sub (ws' := (vX3_allRidged cI cZ h h_sea h_fast h_level h_ridged h_channel h_arrived f_rows f_columns f_laid f_grown f_melted r_ridged)) [0, 1] (by decide) rfl
  exact W.iret (v := r_1) hx hb hr (fun t ht hW => ⟨⟨r_1, (), rfl, hw, by rw [ht]; exact hP9, va_K.moved hW.alike hK, hD9⟩, hS.F ht⟩) hS.2.2 dX3_allRidged_8
set_option maxHeartbeats 4000000 in
set_option maxRecDepth 100000 in
theorem kX3_allRidged (l : Launch) (dC : Nat → ClassId) (dI : Nat → Nat → Nat) (cI cZ cO cW : ClassId) (h h_sea h_fast h_level h_ridged h_channel h_arrived : Nat)  (sz : Nat) (f_rows : Int32) (f_columns : Int32) (f_laid : Int32) (f_grown : Int32) (f_melted : Int32) (r_ridged : Nat → Int32)  (Q : Int32 → Prop) (hw : wX3_allRidged Q  r_ridged) : Met l yX3_allRidged zsX3_allRidged rmX3_allRidged (va_Pc [.ref h] (fun U => U.heap.size = sz ∧ va_P (dC, dI) vwCl (vX3_allRidged cI cZ h h_sea h_fast h_level h_ridged h_channel h_arrived f_rows f_columns f_laid f_grown f_melted r_ridged) U.heap ∧ va_K (dC, dI) vwCl (tysA cI cZ cO cW) U ∧ va_D (fun _ => True) (vX3_allRidged cI cZ h h_sea h_fast h_level h_ridged h_channel h_arrived f_rows f_columns f_laid f_grown f_melted r_ridged))) (qX3_allRidged dC dI cI cZ cO cW h h_sea h_fast h_level h_ridged h_channel h_arrived f_rows f_columns f_laid f_grown f_melted r_ridged Q (va_A (vX3_allRidged cI cZ h h_sea h_fast h_level h_ridged h_channel h_arrived f_rows f_columns f_laid f_grown f_melted r_ridged) sz)) 0 0 (va_A (vX3_allRidged cI cZ h h_sea h_fast h_level h_ridged h_channel h_arrived f_rows f_columns f_laid f_grown f_melted r_ridged) sz) := by
  refine Met.ofW (cc := cX3_allRidged) (maxL := 1) (ret := (some .int)) (by decide) rfl ?_
  intro p e s m args below meth c s₁ B hml hv
  obtain ⟨rfl, hsz, hP, hK, hD0⟩ := hv
  subst hsz
  have hC : Cx p s m ([.ref h] : List Value).toArray meth c cX3_allRidged (some .int) 1 GW RX3 := ⟨B.exec, B.bytes, B.returns, hml, findClass_of_methodNamed B.named, fun w h => atoms_spec (ws := zsX3_allRidged) B.pre w (List.mem_cons_of_mem _ h), B.notSynchronized⟩
  have hD := hD0.self (sz := s.heap.size)
  generalize hAe : va_A (vX3_allRidged cI cZ h h_sea h_fast h_level h_ridged h_channel h_arrived f_rows f_columns f_laid f_grown f_melted r_ridged) s.heap.size = A at hD ⊢
  have hA : ∀ q : Nat, s.heap.size ≤ q → A q := fun q h => by rw [← hAe]; exact Or.inr h
  have hl := lv_entry ([.ref h]) (n := 1) (Nat.le_of_ble_eq_true rfl)
  rw [lg_entry_eq]
  generalize (lg_sl ([.ref h]) ++ List.replicate (1 - (lg_sl ([.ref h])).length) Slot.unset).toArray = ls at hl ⊢
  exact tX3_allRidged_e hC hK hA  r_ridged _ _ ls hw hP hD va_S.rf hl

/-! X3_grow -/
def wX3_grow_58 (Q : Int32 → (Nat → Int32) → Prop) (K_2 : Int32 → Int32 → Int32 → Int32 → (Nat → Int32) → (Nat → Int32) → Prop)  (x1 : Int32) (x2 : Int32) (f_rows : Int32) (f_grown : Int32) (r_level : (Nat → Int32)) (r_sea : (Nat → Int32)) : Prop :=
  (K_2 x1 (x2 + (1 : Int32)) f_rows f_grown r_level r_sea)
def wX3_grow_2 (Q : Int32 → (Nat → Int32) → Prop)   : Nat → Int32 → Int32 → Int32 → Int32 → (Nat → Int32) → (Nat → Int32) → Prop
  | 0, _, _, _, _, _, _ => False
  | n + 1, x1, x2, f_rows, f_grown, r_level, r_sea => (((f_rows * (8 : Int32)) ≤ x2 → (Q f_grown r_level)) ∧ (¬ (f_rows * (8 : Int32)) ≤ x2 → (vp_in x2 64 ∧ (((r_sea x2.toNatClampNeg) = 0 → (wX3_grow_58 Q (wX3_grow_2 Q n) x1 x2 f_rows f_grown r_level r_sea)) ∧ (¬ (r_sea x2.toNatClampNeg) = 0 → (vp_in x2 64 ∧ (vp_in x2 64 ∧ (vp_in x2 64 ∧ (wX3_grow_58 Q (wX3_grow_2 Q n) x1 x2 f_rows (f_grown + ((((100 : Int32) - (r_level x2.toNatClampNeg)) * x1) / (400 : Int32))) (upd r_level x2.toNatClampNeg ((r_level x2.toNatClampNeg) + ((((100 : Int32) - (r_level x2.toNatClampNeg)) * x1) / (400 : Int32)))) r_sea)))))))))
def wX3_grow (Q : Int32 → (Nat → Int32) → Prop) (x1 : Int32) (f_rows : Int32) (f_grown : Int32) (r_level : Nat → Int32) (r_sea : Nat → Int32) : Prop :=
  (∃ j_, wX3_grow_2 Q j_ x1 (0 : Int32) f_rows f_grown r_level r_sea)
abbrev vX3_grow (cI cZ : ClassId) (h h_sea h_fast h_level h_ridged h_channel h_arrived : Nat) (f_columns : Int32) (f_laid : Int32) (f_melted : Int32) (f_rows : Int32) (f_grown : Int32) (r_level : Nat → Int32) (r_sea : Nat → Int32) : va_W := [(h, .inr (3, [.ref h_sea, .ref h_fast, .ref h_level, .ref h_ridged, .ref h_channel, .ref h_arrived, .int f_rows, .int f_columns, .int f_laid, .int f_grown, .int f_melted])), (h_level, .inl (cI, 64, .inl r_level)), (h_sea, .inl (cZ, 64, .inl r_sea))]
abbrev rmX3_grow : Room := { frames := 0, cells := 0, slots := 0, locals := 0 }
abbrev qX3_grow (dC : Nat → ClassId) (dI : Nat → Nat → Nat) (cI cZ cO cW : ClassId) (h h_sea h_fast h_level h_ridged h_channel h_arrived : Nat) (f_columns : Int32) (f_laid : Int32) (f_melted : Int32) (f_rows : Int32) (r_sea : Nat → Int32) (Q : Int32 → (Nat → Int32) → Prop) (A : Nat → Prop) : Array Value → State → Outcome → State → Prop := va_Qv (fun (u : Int32 × (Nat → Int32)) => Q u.1 u.2) (fun (u : Int32 × (Nat → Int32)) (t : State) => va_P (dC, dI) vwCl (vX3_grow cI cZ h h_sea h_fast h_level h_ridged h_channel h_arrived f_columns f_laid f_melted f_rows u.1 u.2 r_sea) t.heap ∧ va_K (dC, dI) vwCl (tysA cI cZ cO cW) t ∧ va_D A (vX3_grow cI cZ h h_sea h_fast h_level h_ridged h_channel h_arrived f_columns f_laid f_melted f_rows u.1 u.2 r_sea)) A
def zsX3_grow : List Cond := Cond.code yX3_grow cX3_grow 4 none :: GW
set_option maxHeartbeats 4000000 in
set_option maxRecDepth 100000 in
theorem tX3_grow_58 {p : Program} {l : Launch} {e : Env} {s : State} {m : MethodId} {args : Array Value} {below : List Frame} {meth : Method} {c : Code} {dC : Nat → ClassId} {dI : Nat → Nat → Nat} {cI cZ cO cW : ClassId} {A : Nat → Prop} {h h_sea h_fast h_level h_ridged h_channel h_arrived : Nat} {f_columns f_laid f_melted : Int32} {Q : Int32 → (Nat → Int32) → Prop} {K_2 : Int32 → Int32 → Int32 → Int32 → (Nat → Int32) → (Nat → Int32) → Prop} (hC : Cx p s m args meth c cX3_grow none 4 GW RX3) (hK : va_K (dC, dI) vwCl (tysA cI cZ cO cW) s) (hA : ∀ q : Nat, s.heap.size ≤ q → A q) (hk_2 : ∀ (x1 : Int32) (x2 : Int32) (f_rows : Int32) (f_grown : Int32) (r_level : (Nat → Int32)) (r_sea : (Nat → Int32)) (H : Heap) (locs : List Loc) (ls : Array Slot), K_2 x1 x2 f_rows f_grown r_level r_sea → va_P (dC, dI) vwCl (vX3_grow cI cZ h h_sea h_fast h_level h_ridged h_channel h_arrived f_columns f_laid f_melted f_rows f_grown r_level r_sea) H → va_D A (vX3_grow cI cZ h h_sea h_fast h_level h_ridged h_channel h_arrived f_columns f_laid f_melted f_rows f_grown r_level r_sea) → va_S A s.heap H locs → lv_has ls 4 [(0, .ref h), (1, .int x1), (2, .int x2)] → W p l e rmX3_grow s m args below meth c H locs 0 0 (MQ below (qX3_grow dC dI cI cZ cO cW h h_sea h_fast h_level h_ridged h_channel h_arrived f_columns f_laid f_melted f_rows r_sea Q A) args s 0 0 A) (F0 m 2 ls [])) :
    ∀ (x1 : Int32) (x2 : Int32) (f_rows : Int32) (f_grown : Int32) (r_level : (Nat → Int32)) (r_sea : (Nat → Int32)) (H : Heap) (locs : List Loc) (ls : Array Slot), wX3_grow_58 Q K_2 x1 x2 f_rows f_grown r_level r_sea → va_P (dC, dI) vwCl (vX3_grow cI cZ h h_sea h_fast h_level h_ridged h_channel h_arrived f_columns f_laid f_melted f_rows f_grown r_level r_sea) H → va_D A (vX3_grow cI cZ h h_sea h_fast h_level h_ridged h_channel h_arrived f_columns f_laid f_melted f_rows f_grown r_level r_sea) → va_S A s.heap H locs → lv_has ls 4 [(0, .ref h), (1, .int x1), (2, .int x2)] → W p l e rmX3_grow s m args below meth c H locs 0 0 (MQ below (qX3_grow dC dI cI cZ cO cW h h_sea h_fast h_level h_ridged h_channel h_arrived f_columns f_laid f_melted f_rows r_sea Q A) args s 0 0 A) (F0 m 58 ls []) := by
  obtain ⟨hx, hb, hr, hml, hown, hts, hlocks⟩ := id hC
  intro x1 x2 f_rows f_grown r_level r_sea H locs ls hw hP hD hS hl
  refine lv_iinc (v := (x2 + (1 : Int32))) (lv' := [(2, .int (x2 + (1 : Int32))), (0, .ref h), (1, .int x1)]) hx hb dX3_grow_58 hl (k := 2) rfl rfl (by decide) rfl (fun ls hl => ?_)
  refine lv_goto (tgt := 2) hx hb dX3_grow_61 (by decide) ?_
  exact hk_2 x1 (x2 + (1 : Int32)) f_rows f_grown r_level r_sea _ _ ls hw (hP.sub [0, 1, 2] rfl) (hD.sub [0, 1, 2] (by decide) rfl) hS (lv_sub hl [1, 2, 0] rfl)
set_option maxHeartbeats 4000000 in
set_option maxRecDepth 100000 in
theorem tX3_grow_2 {p : Program} {l : Launch} {e : Env} {s : State} {m : MethodId} {args : Array Value} {below : List Frame} {meth : Method} {c : Code} {dC : Nat → ClassId} {dI : Nat → Nat → Nat} {cI cZ cO cW : ClassId} {A : Nat → Prop} {h h_sea h_fast h_level h_ridged h_channel h_arrived : Nat} {f_columns f_laid f_melted : Int32} {Q : Int32 → (Nat → Int32) → Prop}  (hC : Cx p s m args meth c cX3_grow none 4 GW RX3) (hK : va_K (dC, dI) vwCl (tysA cI cZ cO cW) s) (hA : ∀ q : Nat, s.heap.size ≤ q → A q) :
    ∀ (n : Nat) (x1 : Int32) (x2 : Int32) (f_rows : Int32) (f_grown : Int32) (r_level : (Nat → Int32)) (r_sea : (Nat → Int32)) (H : Heap) (locs : List Loc) (ls : Array Slot), wX3_grow_2 Q  n x1 x2 f_rows f_grown r_level r_sea → va_P (dC, dI) vwCl (vX3_grow cI cZ h h_sea h_fast h_level h_ridged h_channel h_arrived f_columns f_laid f_melted f_rows f_grown r_level r_sea) H → va_D A (vX3_grow cI cZ h h_sea h_fast h_level h_ridged h_channel h_arrived f_columns f_laid f_melted f_rows f_grown r_level r_sea) → va_S A s.heap H locs → lv_has ls 4 [(0, .ref h), (1, .int x1), (2, .int x2)] → W p l e rmX3_grow s m args below meth c H locs 0 0 (MQ below (qX3_grow dC dI cI cZ cO cW h h_sea h_fast h_level h_ridged h_channel h_arrived f_columns f_laid f_melted f_rows r_sea Q A) args s 0 0 A) (F0 m 2 ls []) := by
  obtain ⟨hx, hb, hr, hml, hown, hts, hlocks⟩ := id hC
  intro n
  induction n with
  | zero =>
    intro  x1 x2 f_rows f_grown r_level r_sea H locs ls hw
    exact hw.elim
  | succ n ih =>
    intro  x1 x2 f_rows f_grown r_level r_sea H locs ls hw hP hD hS hl
    refine lv_iload_n hx hb dX3_grow_2 rfl (lv_at hl 2 rfl) ?_
    refine lv_aload_n hx hb dX3_grow_3 rfl (lv_at hl 0 rfl) ?_
    refine va_get (D := (dC, dI)) (ci := 3) (v := .int f_rows) (C := RX3) (T := TX3) (N := 11) hx hb hts gu_X3 hown hK hP 0 rfl rfl 6 (by decide) (hts _ gw_81) (fun _ h9 => h9) rfl dX3_grow_4 ?_
    refine lv_bipush (v := (8 : Int32)) hx hb dX3_grow_7 (by decide) ?_
    refine lv_imul hx hb dX3_grow_9 ?_
    refine lv_icmp_ge (tgt := 64) hx hb dX3_grow_10 (by decide) (fun c_1 => ?_) (fun c_1 => ?_)
    · have hw := hw.1 c_1
      have hP9 := hP.sub (ws' := (vX3_grow cI cZ h h_sea h_fast h_level h_ridged h_channel h_arrived f_columns f_laid f_melted f_rows f_grown r_level r_sea)) [0, 1, 2] rfl
      have hD9 := hD.sub (ws' := (vX3_grow cI cZ h h_sea h_fast h_level h_ridged h_channel h_arrived f_columns f_laid f_melted f_rows f_grown r_level r_sea)) [0, 1, 2] (by decide) rfl
      exact W.vret hx hb hr (fun t ht hW => ⟨⟨(f_grown, r_level), rfl, hw, by rw [ht]; exact hP9, va_K.moved hW.alike hK, hD9⟩, hS.F ht⟩) hS.2.2 dX3_grow_64
    · have hw := hw.2 c_1
      refine lv_aload_n hx hb dX3_grow_13 rfl (lv_at hl 0 rfl) ?_
      refine va_get (D := (dC, dI)) (ci := 3) (v := .ref h_sea) (C := RX3) (T := TX3) (N := 11) hx hb hts gu_X3 hown hK hP 0 rfl rfl 0 (by decide) (hts _ gw_75) (fun _ h9 => h9) rfl dX3_grow_14 ?_
      refine lv_iload_n hx hb dX3_grow_17 rfl (lv_at hl 2 rfl) ?_
      obtain ⟨h_2, hw⟩ := hw
      refine va_zald hx hb hK hP 2 1 rfl rfl h_2 dX3_grow_18 ?_
      refine lv_if_eq (tgt := 58) hx hb dX3_grow_19 (by decide) (fun c_3 => ?_) (fun c_3 => ?_)
      · have hw := hw.1 c_3
        exact tX3_grow_58 hC hK hA ih x1 x2 f_rows f_grown r_level r_sea _ _ ls hw (hP.sub [0, 1, 2] rfl) (hD.sub [0, 1, 2] (by decide) rfl) hS (lv_sub hl [0, 1, 2] rfl)
      · have hw := hw.2 c_3
        refine lv_bipush (v := (100 : Int32)) hx hb dX3_grow_22 (by decide) ?_
        refine lv_aload_n hx hb dX3_grow_24 rfl (lv_at hl 0 rfl) ?_
        refine va_get (D := (dC, dI)) (ci := 3) (v := .ref h_level) (C := RX3) (T := TX3) (N := 11) hx hb hts gu_X3 hown hK hP 0 rfl rfl 2 (by decide) (hts _ gw_77) (fun _ h9 => h9) rfl dX3_grow_25 ?_
        refine lv_iload_n hx hb dX3_grow_28 rfl (lv_at hl 2 rfl) ?_
        obtain ⟨h_4, hw⟩ := hw
        refine va_iald hx hb hK hP 1 0 rfl rfl h_4 dX3_grow_29 ?_
        refine lv_isub hx hb dX3_grow_30 ?_
        refine lv_iload_n hx hb dX3_grow_31 rfl (lv_at hl 1 rfl) ?_
        refine lv_imul hx hb dX3_grow_32 ?_
        refine lv_sipush (v := (400 : Int32)) hx hb dX3_grow_33 (by decide) ?_
        refine lv_idiv hx hb dX3_grow_36 (by decide) ?_
        refine lv_istore_n (lv' := [(3, .int ((((100 : Int32) - (r_level x2.toNatClampNeg)) * x1) / (400 : Int32))), (0, .ref h), (1, .int x1), (2, .int x2)]) hx hb dX3_grow_37 rfl hl (by decide) rfl (fun ls hl => ?_)
        refine lv_aload_n hx hb dX3_grow_38 rfl (lv_at hl 1 rfl) ?_
        refine va_get (D := (dC, dI)) (ci := 3) (v := .ref h_level) (C := RX3) (T := TX3) (N := 11) hx hb hts gu_X3 hown hK hP 0 rfl rfl 2 (by decide) (hts _ gw_77) (fun _ h9 => h9) rfl dX3_grow_39 ?_
        refine lv_iload_n hx hb dX3_grow_42 rfl (lv_at hl 3 rfl) ?_
        refine lv_dup2_11 hx hb dX3_grow_43 rfl rfl ?_
        obtain ⟨h_5, hw⟩ := hw
        refine va_iald hx hb hK hP 1 0 rfl rfl h_5 dX3_grow_44 ?_
        refine lv_iload_n hx hb dX3_grow_45 rfl (lv_at hl 0 rfl) ?_
        refine lv_iadd hx hb dX3_grow_46 ?_
        obtain ⟨h_6, hw⟩ := hw
        refine va_iast hx hb hK hP hD hS 1 0 rfl rfl h_6 dX3_grow_47 (fun H locs hP hD hS => ?_)
        have hP : va_P (dC, dI) vwCl [(h, .inr (3, [.ref h_sea, .ref h_fast, .ref h_level, .ref h_ridged, .ref h_channel, .ref h_arrived, .int f_rows, .int f_columns, .int f_laid, .int f_grown, .int f_melted])), (h_level, .inl (cI, 64, .inl (upd r_level x2.toNatClampNeg ((r_level x2.toNatClampNeg) + ((((100 : Int32) - (r_level x2.toNatClampNeg)) * x1) / (400 : Int32)))))), (h_sea, .inl (cZ, 64, .inl r_sea))] _ := hP
        have hD : va_D A [(h, .inr (3, [.ref h_sea, .ref h_fast, .ref h_level, .ref h_ridged, .ref h_channel, .ref h_arrived, .int f_rows, .int f_columns, .int f_laid, .int f_grown, .int f_melted])), (h_level, .inl (cI, 64, .inl (upd r_level x2.toNatClampNeg ((r_level x2.toNatClampNeg) + ((((100 : Int32) - (r_level x2.toNatClampNeg)) * x1) / (400 : Int32)))))), (h_sea, .inl (cZ, 64, .inl r_sea))] := hD
        refine lv_aload_n hx hb dX3_grow_48 rfl (lv_at hl 1 rfl) ?_
        refine lv_dup hx hb dX3_grow_49 rfl ?_
        refine va_get (D := (dC, dI)) (ci := 3) (v := .int f_grown) (C := RX3) (T := TX3) (N := 11) hx hb hts gu_X3 hown hK hP 0 rfl rfl 9 (by decide) (hts _ gw_84) (fun _ h9 => h9) rfl dX3_grow_50 ?_
        refine lv_iload_n hx hb dX3_grow_53 rfl (lv_at hl 0 rfl) ?_
        refine lv_iadd hx hb dX3_grow_54 ?_
        refine va_put (D := (dC, dI)) (ci := 3) (v := .int (f_grown + ((((100 : Int32) - (r_level x2.toNatClampNeg)) * x1) / (400 : Int32)))) (ty := .int) (C := RX3) (T := TX3) (N := 11) hx hb hts gu_X3 tyX3 tyX3_ok nmX3 hown hK hP hD hS 0 rfl rfl 9 (by decide) (hts _ gw_84) (fun _ h9 => h9) rfl (tyX3_ok 9 (by decide)) rfl rfl (Nat.le_of_ble_eq_true rfl) dX3_grow_55 (fun H locs hP hD hS => ?_)
        have hP : va_P (dC, dI) vwCl [(h, .inr (3, [.ref h_sea, .ref h_fast, .ref h_level, .ref h_ridged, .ref h_channel, .ref h_arrived, .int f_rows, .int f_columns, .int f_laid, .int (f_grown + ((((100 : Int32) - (r_level x2.toNatClampNeg)) * x1) / (400 : Int32))), .int f_melted])), (h_level, .inl (cI, 64, .inl (upd r_level x2.toNatClampNeg ((r_level x2.toNatClampNeg) + ((((100 : Int32) - (r_level x2.toNatClampNeg)) * x1) / (400 : Int32)))))), (h_sea, .inl (cZ, 64, .inl r_sea))] _ := hP
        have hD : va_D A [(h, .inr (3, [.ref h_sea, .ref h_fast, .ref h_level, .ref h_ridged, .ref h_channel, .ref h_arrived, .int f_rows, .int f_columns, .int f_laid, .int (f_grown + ((((100 : Int32) - (r_level x2.toNatClampNeg)) * x1) / (400 : Int32))), .int f_melted])), (h_level, .inl (cI, 64, .inl (upd r_level x2.toNatClampNeg ((r_level x2.toNatClampNeg) + ((((100 : Int32) - (r_level x2.toNatClampNeg)) * x1) / (400 : Int32)))))), (h_sea, .inl (cZ, 64, .inl r_sea))] := hD
        exact tX3_grow_58 hC hK hA ih x1 x2 f_rows (f_grown + ((((100 : Int32) - (r_level x2.toNatClampNeg)) * x1) / (400 : Int32))) (upd r_level x2.toNatClampNeg ((r_level x2.toNatClampNeg) + ((((100 : Int32) - (r_level x2.toNatClampNeg)) * x1) / (400 : Int32)))) r_sea _ _ ls hw (hP.sub [0, 1, 2] rfl) (hD.sub [0, 1, 2] (by decide) rfl) hS (lv_sub hl [1, 2, 3] rfl)
set_option maxHeartbeats 4000000 in
set_option maxRecDepth 100000 in
theorem tX3_grow_e {p : Program} {l : Launch} {e : Env} {s : State} {m : MethodId} {args : Array Value} {below : List Frame} {meth : Method} {c : Code} {dC : Nat → ClassId} {dI : Nat → Nat → Nat} {cI cZ cO cW : ClassId} {A : Nat → Prop} {h h_sea h_fast h_level h_ridged h_channel h_arrived : Nat} {f_columns f_laid f_melted : Int32} {Q : Int32 → (Nat → Int32) → Prop} (hC : Cx p s m args meth c cX3_grow none 4 GW RX3) (hK : va_K (dC, dI) vwCl (tysA cI cZ cO cW) s) (hA : ∀ q : Nat, s.heap.size ≤ q → A q) :
    ∀ (x1 : Int32) (f_rows : Int32) (f_grown : Int32) (r_level : Nat → Int32) (r_sea : Nat → Int32) (H : Heap) (locs : List Loc) (ls : Array Slot), wX3_grow Q x1 f_rows f_grown r_level r_sea → va_P (dC, dI) vwCl (vX3_grow cI cZ h h_sea h_fast h_level h_ridged h_channel h_arrived f_columns f_laid f_melted f_rows f_grown r_level r_sea) H → va_D A (vX3_grow cI cZ h h_sea h_fast h_level h_ridged h_channel h_arrived f_columns f_laid f_melted f_rows f_grown r_level r_sea) → va_S A s.heap H locs → lv_has ls 4 [(0, .ref h), (1, .int x1)] → W p l e rmX3_grow s m args below meth c H locs 0 0 (MQ below (qX3_grow dC dI cI cZ cO cW h h_sea h_fast h_level h_ridged h_channel h_arrived f_columns f_laid f_melted f_rows r_sea Q A) args s 0 0 A) (F0 m 0 ls []) := by
  obtain ⟨hx, hb, hr, hml, hown, hts, hlocks⟩ := id hC
  intro x1 f_rows f_grown r_level r_sea H locs ls hw hP hD hS hl
  refine lv_iconst (v := (0 : Int32)) hx hb dX3_grow_0 (by decide) ?_
  refine lv_istore_n (lv' := [(2, .int (0 : Int32)), (0, .ref h), (1, .int x1)]) hx hb dX3_grow_1 rfl hl (by decide) rfl (fun ls hl => ?_)
  obtain ⟨n_7, hw⟩ := hw
  exact tX3_grow_2 hC hK hA  n_7 x1 (0 : Int32) f_rows f_grown r_level r_sea _ _ ls hw (hP.sub [0, 1, 2] rfl) (hD.sub [0, 1, 2] (by decide) rfl) hS (lv_sub hl [1, 2, 0] rfl)
set_option maxHeartbeats 4000000 in
set_option maxRecDepth 100000 in
theorem kX3_grow (l : Launch) (dC : Nat → ClassId) (dI : Nat → Nat → Nat) (cI cZ cO cW : ClassId) (h h_sea h_fast h_level h_ridged h_channel h_arrived : Nat)  (sz : Nat) (f_columns : Int32) (f_laid : Int32) (f_melted : Int32) (f_rows : Int32) (f_grown : Int32) (r_level : Nat → Int32) (r_sea : Nat → Int32) (x1 : Int32) (Q : Int32 → (Nat → Int32) → Prop) (hw : wX3_grow Q x1 f_rows f_grown r_level r_sea) : Met l yX3_grow zsX3_grow rmX3_grow (va_Pc [.ref h, .int x1] (fun U => U.heap.size = sz ∧ va_P (dC, dI) vwCl (vX3_grow cI cZ h h_sea h_fast h_level h_ridged h_channel h_arrived f_columns f_laid f_melted f_rows f_grown r_level r_sea) U.heap ∧ va_K (dC, dI) vwCl (tysA cI cZ cO cW) U ∧ va_D (fun _ => True) (vX3_grow cI cZ h h_sea h_fast h_level h_ridged h_channel h_arrived f_columns f_laid f_melted f_rows f_grown r_level r_sea))) (qX3_grow dC dI cI cZ cO cW h h_sea h_fast h_level h_ridged h_channel h_arrived f_columns f_laid f_melted f_rows r_sea Q (va_A (vX3_grow cI cZ h h_sea h_fast h_level h_ridged h_channel h_arrived f_columns f_laid f_melted f_rows f_grown r_level r_sea) sz)) 0 0 (va_A (vX3_grow cI cZ h h_sea h_fast h_level h_ridged h_channel h_arrived f_columns f_laid f_melted f_rows f_grown r_level r_sea) sz) := by
  refine Met.ofW (cc := cX3_grow) (maxL := 4) (ret := none) (by decide) rfl ?_
  intro p e s m args below meth c s₁ B hml hv
  obtain ⟨rfl, hsz, hP, hK, hD0⟩ := hv
  subst hsz
  have hC : Cx p s m ([.ref h, .int x1] : List Value).toArray meth c cX3_grow none 4 GW RX3 := ⟨B.exec, B.bytes, B.returns, hml, findClass_of_methodNamed B.named, fun w h => atoms_spec (ws := zsX3_grow) B.pre w (List.mem_cons_of_mem _ h), B.notSynchronized⟩
  have hD := hD0.self (sz := s.heap.size)
  generalize hAe : va_A (vX3_grow cI cZ h h_sea h_fast h_level h_ridged h_channel h_arrived f_columns f_laid f_melted f_rows f_grown r_level r_sea) s.heap.size = A at hD ⊢
  have hA : ∀ q : Nat, s.heap.size ≤ q → A q := fun q h => by rw [← hAe]; exact Or.inr h
  have hl := lv_entry ([.ref h, .int x1]) (n := 4) (Nat.le_of_ble_eq_true rfl)
  rw [lg_entry_eq]
  generalize (lg_sl ([.ref h, .int x1]) ++ List.replicate (4 - (lg_sl ([.ref h, .int x1])).length) Slot.unset).toArray = ls at hl ⊢
  exact tX3_grow_e hC hK hA x1 f_rows f_grown r_level r_sea _ _ ls hw hP hD va_S.rf hl

/-! X3_melt -/
def wX3_melt_83 (Q : Int32 → (Nat → Int32) → (Nat → Int32) → Prop) (K_2 : Int32 → Int32 → Int32 → Int32 → (Nat → Int32) → (Nat → Int32) → (Nat → Int32) → Prop)  (x1 : Int32) (x2 : Int32) (f_rows : Int32) (f_melted : Int32) (r_level : (Nat → Int32)) (r_ridged : (Nat → Int32)) (r_sea : (Nat → Int32)) : Prop :=
  (K_2 x1 (x2 + (1 : Int32)) f_rows f_melted r_level r_ridged r_sea)
def wX3_melt_2 (Q : Int32 → (Nat → Int32) → (Nat → Int32) → Prop)   : Nat → Int32 → Int32 → Int32 → Int32 → (Nat → Int32) → (Nat → Int32) → (Nat → Int32) → Prop
  | 0, _, _, _, _, _, _, _ => False
  | n + 1, x1, x2, f_rows, f_melted, r_level, r_ridged, r_sea => (((f_rows * (8 : Int32)) ≤ x2 → (Q f_melted r_level r_ridged)) ∧ (¬ (f_rows * (8 : Int32)) ≤ x2 → (vp_in x2 64 ∧ (((r_sea x2.toNatClampNeg) = 0 → (wX3_melt_83 Q (wX3_melt_2 Q n) x1 x2 f_rows f_melted r_level r_ridged r_sea)) ∧ (¬ (r_sea x2.toNatClampNeg) = 0 → (vp_in x2 64 ∧ (vp_in x2 64 ∧ (vp_in x2 64 ∧ (vp_in x2 64 ∧ (vp_in x2 64 ∧ (vp_in x2 64 ∧ (wX3_melt_83 Q (wX3_melt_2 Q n) x1 x2 f_rows (f_melted + ((((r_level x2.toNatClampNeg) * x1) / (400 : Int32)) + (((r_ridged x2.toNatClampNeg) * x1) / (800 : Int32)))) (upd r_level x2.toNatClampNeg ((r_level x2.toNatClampNeg) - (((r_level x2.toNatClampNeg) * x1) / (400 : Int32)))) (upd r_ridged x2.toNatClampNeg ((r_ridged x2.toNatClampNeg) - (((r_ridged x2.toNatClampNeg) * x1) / (800 : Int32)))) r_sea))))))))))))
def wX3_melt (Q : Int32 → (Nat → Int32) → (Nat → Int32) → Prop) (x1 : Int32) (f_rows : Int32) (f_melted : Int32) (r_level : Nat → Int32) (r_ridged : Nat → Int32) (r_sea : Nat → Int32) : Prop :=
  (∃ j_, wX3_melt_2 Q j_ x1 (0 : Int32) f_rows f_melted r_level r_ridged r_sea)
abbrev vX3_melt (cI cZ : ClassId) (h h_sea h_fast h_level h_ridged h_channel h_arrived : Nat) (f_columns : Int32) (f_laid : Int32) (f_grown : Int32) (f_rows : Int32) (f_melted : Int32) (r_level : Nat → Int32) (r_ridged : Nat → Int32) (r_sea : Nat → Int32) : va_W := [(h, .inr (3, [.ref h_sea, .ref h_fast, .ref h_level, .ref h_ridged, .ref h_channel, .ref h_arrived, .int f_rows, .int f_columns, .int f_laid, .int f_grown, .int f_melted])), (h_level, .inl (cI, 64, .inl r_level)), (h_ridged, .inl (cI, 64, .inl r_ridged)), (h_sea, .inl (cZ, 64, .inl r_sea))]
abbrev rmX3_melt : Room := { frames := 0, cells := 0, slots := 0, locals := 0 }
abbrev qX3_melt (dC : Nat → ClassId) (dI : Nat → Nat → Nat) (cI cZ cO cW : ClassId) (h h_sea h_fast h_level h_ridged h_channel h_arrived : Nat) (f_columns : Int32) (f_laid : Int32) (f_grown : Int32) (f_rows : Int32) (r_sea : Nat → Int32) (Q : Int32 → (Nat → Int32) → (Nat → Int32) → Prop) (A : Nat → Prop) : Array Value → State → Outcome → State → Prop := va_Qv (fun (u : Int32 × (Nat → Int32) × (Nat → Int32)) => Q u.1 u.2.1 u.2.2) (fun (u : Int32 × (Nat → Int32) × (Nat → Int32)) (t : State) => va_P (dC, dI) vwCl (vX3_melt cI cZ h h_sea h_fast h_level h_ridged h_channel h_arrived f_columns f_laid f_grown f_rows u.1 u.2.1 u.2.2 r_sea) t.heap ∧ va_K (dC, dI) vwCl (tysA cI cZ cO cW) t ∧ va_D A (vX3_melt cI cZ h h_sea h_fast h_level h_ridged h_channel h_arrived f_columns f_laid f_grown f_rows u.1 u.2.1 u.2.2 r_sea)) A
def zsX3_melt : List Cond := Cond.code yX3_melt cX3_melt 5 none :: GW
set_option maxHeartbeats 4000000 in
set_option maxRecDepth 100000 in
theorem tX3_melt_83 {p : Program} {l : Launch} {e : Env} {s : State} {m : MethodId} {args : Array Value} {below : List Frame} {meth : Method} {c : Code} {dC : Nat → ClassId} {dI : Nat → Nat → Nat} {cI cZ cO cW : ClassId} {A : Nat → Prop} {h h_sea h_fast h_level h_ridged h_channel h_arrived : Nat} {f_columns f_laid f_grown : Int32} {Q : Int32 → (Nat → Int32) → (Nat → Int32) → Prop} {K_2 : Int32 → Int32 → Int32 → Int32 → (Nat → Int32) → (Nat → Int32) → (Nat → Int32) → Prop} (hC : Cx p s m args meth c cX3_melt none 5 GW RX3) (hK : va_K (dC, dI) vwCl (tysA cI cZ cO cW) s) (hA : ∀ q : Nat, s.heap.size ≤ q → A q) (hk_2 : ∀ (x1 : Int32) (x2 : Int32) (f_rows : Int32) (f_melted : Int32) (r_level : (Nat → Int32)) (r_ridged : (Nat → Int32)) (r_sea : (Nat → Int32)) (H : Heap) (locs : List Loc) (ls : Array Slot), K_2 x1 x2 f_rows f_melted r_level r_ridged r_sea → va_P (dC, dI) vwCl (vX3_melt cI cZ h h_sea h_fast h_level h_ridged h_channel h_arrived f_columns f_laid f_grown f_rows f_melted r_level r_ridged r_sea) H → va_D A (vX3_melt cI cZ h h_sea h_fast h_level h_ridged h_channel h_arrived f_columns f_laid f_grown f_rows f_melted r_level r_ridged r_sea) → va_S A s.heap H locs → lv_has ls 5 [(0, .ref h), (1, .int x1), (2, .int x2)] → W p l e rmX3_melt s m args below meth c H locs 0 0 (MQ below (qX3_melt dC dI cI cZ cO cW h h_sea h_fast h_level h_ridged h_channel h_arrived f_columns f_laid f_grown f_rows r_sea Q A) args s 0 0 A) (F0 m 2 ls [])) :
    ∀ (x1 : Int32) (x2 : Int32) (f_rows : Int32) (f_melted : Int32) (r_level : (Nat → Int32)) (r_ridged : (Nat → Int32)) (r_sea : (Nat → Int32)) (H : Heap) (locs : List Loc) (ls : Array Slot), wX3_melt_83 Q K_2 x1 x2 f_rows f_melted r_level r_ridged r_sea → va_P (dC, dI) vwCl (vX3_melt cI cZ h h_sea h_fast h_level h_ridged h_channel h_arrived f_columns f_laid f_grown f_rows f_melted r_level r_ridged r_sea) H → va_D A (vX3_melt cI cZ h h_sea h_fast h_level h_ridged h_channel h_arrived f_columns f_laid f_grown f_rows f_melted r_level r_ridged r_sea) → va_S A s.heap H locs → lv_has ls 5 [(0, .ref h), (1, .int x1), (2, .int x2)] → W p l e rmX3_melt s m args below meth c H locs 0 0 (MQ below (qX3_melt dC dI cI cZ cO cW h h_sea h_fast h_level h_ridged h_channel h_arrived f_columns f_laid f_grown f_rows r_sea Q A) args s 0 0 A) (F0 m 83 ls []) := by
  obtain ⟨hx, hb, hr, hml, hown, hts, hlocks⟩ := id hC
  intro x1 x2 f_rows f_melted r_level r_ridged r_sea H locs ls hw hP hD hS hl
  refine lv_iinc (v := (x2 + (1 : Int32))) (lv' := [(2, .int (x2 + (1 : Int32))), (0, .ref h), (1, .int x1)]) hx hb dX3_melt_83 hl (k := 2) rfl rfl (by decide) rfl (fun ls hl => ?_)
  refine lv_goto (tgt := 2) hx hb dX3_melt_86 (by decide) ?_
  exact hk_2 x1 (x2 + (1 : Int32)) f_rows f_melted r_level r_ridged r_sea _ _ ls hw (hP.sub [0, 1, 2, 3] rfl) (hD.sub [0, 1, 2, 3] (by decide) rfl) hS (lv_sub hl [1, 2, 0] rfl)
set_option maxHeartbeats 4000000 in
set_option maxRecDepth 100000 in
theorem tX3_melt_2 {p : Program} {l : Launch} {e : Env} {s : State} {m : MethodId} {args : Array Value} {below : List Frame} {meth : Method} {c : Code} {dC : Nat → ClassId} {dI : Nat → Nat → Nat} {cI cZ cO cW : ClassId} {A : Nat → Prop} {h h_sea h_fast h_level h_ridged h_channel h_arrived : Nat} {f_columns f_laid f_grown : Int32} {Q : Int32 → (Nat → Int32) → (Nat → Int32) → Prop}  (hC : Cx p s m args meth c cX3_melt none 5 GW RX3) (hK : va_K (dC, dI) vwCl (tysA cI cZ cO cW) s) (hA : ∀ q : Nat, s.heap.size ≤ q → A q) :
    ∀ (n : Nat) (x1 : Int32) (x2 : Int32) (f_rows : Int32) (f_melted : Int32) (r_level : (Nat → Int32)) (r_ridged : (Nat → Int32)) (r_sea : (Nat → Int32)) (H : Heap) (locs : List Loc) (ls : Array Slot), wX3_melt_2 Q  n x1 x2 f_rows f_melted r_level r_ridged r_sea → va_P (dC, dI) vwCl (vX3_melt cI cZ h h_sea h_fast h_level h_ridged h_channel h_arrived f_columns f_laid f_grown f_rows f_melted r_level r_ridged r_sea) H → va_D A (vX3_melt cI cZ h h_sea h_fast h_level h_ridged h_channel h_arrived f_columns f_laid f_grown f_rows f_melted r_level r_ridged r_sea) → va_S A s.heap H locs → lv_has ls 5 [(0, .ref h), (1, .int x1), (2, .int x2)] → W p l e rmX3_melt s m args below meth c H locs 0 0 (MQ below (qX3_melt dC dI cI cZ cO cW h h_sea h_fast h_level h_ridged h_channel h_arrived f_columns f_laid f_grown f_rows r_sea Q A) args s 0 0 A) (F0 m 2 ls []) := by
  obtain ⟨hx, hb, hr, hml, hown, hts, hlocks⟩ := id hC
  intro n
  induction n with
  | zero =>
    intro  x1 x2 f_rows f_melted r_level r_ridged r_sea H locs ls hw
    exact hw.elim
  | succ n ih =>
    intro  x1 x2 f_rows f_melted r_level r_ridged r_sea H locs ls hw hP hD hS hl
    refine lv_iload_n hx hb dX3_melt_2 rfl (lv_at hl 2 rfl) ?_
    refine lv_aload_n hx hb dX3_melt_3 rfl (lv_at hl 0 rfl) ?_
    refine va_get (D := (dC, dI)) (ci := 3) (v := .int f_rows) (C := RX3) (T := TX3) (N := 11) hx hb hts gu_X3 hown hK hP 0 rfl rfl 6 (by decide) (hts _ gw_81) (fun _ h9 => h9) rfl dX3_melt_4 ?_
    refine lv_bipush (v := (8 : Int32)) hx hb dX3_melt_7 (by decide) ?_
    refine lv_imul hx hb dX3_melt_9 ?_
    refine lv_icmp_ge (tgt := 89) hx hb dX3_melt_10 (by decide) (fun c_1 => ?_) (fun c_1 => ?_)
    · have hw := hw.1 c_1
      have hP9 := hP.sub (ws' := (vX3_melt cI cZ h h_sea h_fast h_level h_ridged h_channel h_arrived f_columns f_laid f_grown f_rows f_melted r_level r_ridged r_sea)) [0, 1, 2, 3] rfl
      have hD9 := hD.sub (ws' := (vX3_melt cI cZ h h_sea h_fast h_level h_ridged h_channel h_arrived f_columns f_laid f_grown f_rows f_melted r_level r_ridged r_sea)) [0, 1, 2, 3] (by decide) rfl
      exact W.vret hx hb hr (fun t ht hW => ⟨⟨(f_melted, r_level, r_ridged), rfl, hw, by rw [ht]; exact hP9, va_K.moved hW.alike hK, hD9⟩, hS.F ht⟩) hS.2.2 dX3_melt_89
    · have hw := hw.2 c_1
      refine lv_aload_n hx hb dX3_melt_13 rfl (lv_at hl 0 rfl) ?_
      refine va_get (D := (dC, dI)) (ci := 3) (v := .ref h_sea) (C := RX3) (T := TX3) (N := 11) hx hb hts gu_X3 hown hK hP 0 rfl rfl 0 (by decide) (hts _ gw_75) (fun _ h9 => h9) rfl dX3_melt_14 ?_
      refine lv_iload_n hx hb dX3_melt_17 rfl (lv_at hl 2 rfl) ?_
      obtain ⟨h_2, hw⟩ := hw
      refine va_zald hx hb hK hP 3 1 rfl rfl h_2 dX3_melt_18 ?_
      refine lv_if_eq (tgt := 83) hx hb dX3_melt_19 (by decide) (fun c_3 => ?_) (fun c_3 => ?_)
      · have hw := hw.1 c_3
        exact tX3_melt_83 hC hK hA ih x1 x2 f_rows f_melted r_level r_ridged r_sea _ _ ls hw (hP.sub [0, 1, 2, 3] rfl) (hD.sub [0, 1, 2, 3] (by decide) rfl) hS (lv_sub hl [0, 1, 2] rfl)
      · have hw := hw.2 c_3
        refine lv_aload_n hx hb dX3_melt_22 rfl (lv_at hl 0 rfl) ?_
        refine va_get (D := (dC, dI)) (ci := 3) (v := .ref h_level) (C := RX3) (T := TX3) (N := 11) hx hb hts gu_X3 hown hK hP 0 rfl rfl 2 (by decide) (hts _ gw_77) (fun _ h9 => h9) rfl dX3_melt_23 ?_
        refine lv_iload_n hx hb dX3_melt_26 rfl (lv_at hl 2 rfl) ?_
        obtain ⟨h_4, hw⟩ := hw
        refine va_iald hx hb hK hP 1 0 rfl rfl h_4 dX3_melt_27 ?_
        refine lv_iload_n hx hb dX3_melt_28 rfl (lv_at hl 1 rfl) ?_
        refine lv_imul hx hb dX3_melt_29 ?_
        refine lv_sipush (v := (400 : Int32)) hx hb dX3_melt_30 (by decide) ?_
        refine lv_idiv hx hb dX3_melt_33 (by decide) ?_
        refine lv_istore_n (lv' := [(3, .int (((r_level x2.toNatClampNeg) * x1) / (400 : Int32))), (0, .ref h), (1, .int x1), (2, .int x2)]) hx hb dX3_melt_34 rfl hl (by decide) rfl (fun ls hl => ?_)
        refine lv_aload_n hx hb dX3_melt_35 rfl (lv_at hl 1 rfl) ?_
        refine va_get (D := (dC, dI)) (ci := 3) (v := .ref h_ridged) (C := RX3) (T := TX3) (N := 11) hx hb hts gu_X3 hown hK hP 0 rfl rfl 3 (by decide) (hts _ gw_78) (fun _ h9 => h9) rfl dX3_melt_36 ?_
        refine lv_iload_n hx hb dX3_melt_39 rfl (lv_at hl 3 rfl) ?_
        obtain ⟨h_5, hw⟩ := hw
        refine va_iald hx hb hK hP 2 0 rfl rfl h_5 dX3_melt_40 ?_
        refine lv_iload_n hx hb dX3_melt_41 rfl (lv_at hl 2 rfl) ?_
        refine lv_imul hx hb dX3_melt_42 ?_
        refine lv_sipush (v := (800 : Int32)) hx hb dX3_melt_43 (by decide) ?_
        refine lv_idiv hx hb dX3_melt_46 (by decide) ?_
        refine lv_istore (lv' := [(4, .int (((r_ridged x2.toNatClampNeg) * x1) / (800 : Int32))), (3, .int (((r_level x2.toNatClampNeg) * x1) / (400 : Int32))), (0, .ref h), (1, .int x1), (2, .int x2)]) hx hb dX3_melt_47 hl (by decide) rfl (fun ls hl => ?_)
        refine lv_aload_n hx hb dX3_melt_49 rfl (lv_at hl 2 rfl) ?_
        refine va_get (D := (dC, dI)) (ci := 3) (v := .ref h_level) (C := RX3) (T := TX3) (N := 11) hx hb hts gu_X3 hown hK hP 0 rfl rfl 2 (by decide) (hts _ gw_77) (fun _ h9 => h9) rfl dX3_melt_50 ?_
        refine lv_iload_n hx hb dX3_melt_53 rfl (lv_at hl 4 rfl) ?_
        refine lv_dup2_11 hx hb dX3_melt_54 rfl rfl ?_
        obtain ⟨h_6, hw⟩ := hw
        refine va_iald hx hb hK hP 1 0 rfl rfl h_6 dX3_melt_55 ?_
        refine lv_iload_n hx hb dX3_melt_56 rfl (lv_at hl 1 rfl) ?_
        refine lv_isub hx hb dX3_melt_57 ?_
        obtain ⟨h_7, hw⟩ := hw
        refine va_iast hx hb hK hP hD hS 1 0 rfl rfl h_7 dX3_melt_58 (fun H locs hP hD hS => ?_)
        have hP : va_P (dC, dI) vwCl [(h, .inr (3, [.ref h_sea, .ref h_fast, .ref h_level, .ref h_ridged, .ref h_channel, .ref h_arrived, .int f_rows, .int f_columns, .int f_laid, .int f_grown, .int f_melted])), (h_level, .inl (cI, 64, .inl (upd r_level x2.toNatClampNeg ((r_level x2.toNatClampNeg) - (((r_level x2.toNatClampNeg) * x1) / (400 : Int32)))))), (h_ridged, .inl (cI, 64, .inl r_ridged)), (h_sea, .inl (cZ, 64, .inl r_sea))] _ := hP
        have hD : va_D A [(h, .inr (3, [.ref h_sea, .ref h_fast, .ref h_level, .ref h_ridged, .ref h_channel, .ref h_arrived, .int f_rows, .int f_columns, .int f_laid, .int f_grown, .int f_melted])), (h_level, .inl (cI, 64, .inl (upd r_level x2.toNatClampNeg ((r_level x2.toNatClampNeg) - (((r_level x2.toNatClampNeg) * x1) / (400 : Int32)))))), (h_ridged, .inl (cI, 64, .inl r_ridged)), (h_sea, .inl (cZ, 64, .inl r_sea))] := hD
        refine lv_aload_n hx hb dX3_melt_59 rfl (lv_at hl 2 rfl) ?_
        refine va_get (D := (dC, dI)) (ci := 3) (v := .ref h_ridged) (C := RX3) (T := TX3) (N := 11) hx hb hts gu_X3 hown hK hP 0 rfl rfl 3 (by decide) (hts _ gw_78) (fun _ h9 => h9) rfl dX3_melt_60 ?_
        refine lv_iload_n hx hb dX3_melt_63 rfl (lv_at hl 4 rfl) ?_
        refine lv_dup2_11 hx hb dX3_melt_64 rfl rfl ?_
        obtain ⟨h_8, hw⟩ := hw
        refine va_iald hx hb hK hP 2 0 rfl rfl h_8 dX3_melt_65 ?_
        refine lv_iload hx hb dX3_melt_66 (lv_at hl 0 rfl) ?_
        refine lv_isub hx hb dX3_melt_68 ?_
        obtain ⟨h_9, hw⟩ := hw
        refine va_iast hx hb hK hP hD hS 2 0 rfl rfl h_9 dX3_melt_69 (fun H locs hP hD hS => ?_)
        have hP : va_P (dC, dI) vwCl [(h, .inr (3, [.ref h_sea, .ref h_fast, .ref h_level, .ref h_ridged, .ref h_channel, .ref h_arrived, .int f_rows, .int f_columns, .int f_laid, .int f_grown, .int f_melted])), (h_level, .inl (cI, 64, .inl (upd r_level x2.toNatClampNeg ((r_level x2.toNatClampNeg) - (((r_level x2.toNatClampNeg) * x1) / (400 : Int32)))))), (h_ridged, .inl (cI, 64, .inl (upd r_ridged x2.toNatClampNeg ((r_ridged x2.toNatClampNeg) - (((r_ridged x2.toNatClampNeg) * x1) / (800 : Int32)))))), (h_sea, .inl (cZ, 64, .inl r_sea))] _ := hP
        have hD : va_D A [(h, .inr (3, [.ref h_sea, .ref h_fast, .ref h_level, .ref h_ridged, .ref h_channel, .ref h_arrived, .int f_rows, .int f_columns, .int f_laid, .int f_grown, .int f_melted])), (h_level, .inl (cI, 64, .inl (upd r_level x2.toNatClampNeg ((r_level x2.toNatClampNeg) - (((r_level x2.toNatClampNeg) * x1) / (400 : Int32)))))), (h_ridged, .inl (cI, 64, .inl (upd r_ridged x2.toNatClampNeg ((r_ridged x2.toNatClampNeg) - (((r_ridged x2.toNatClampNeg) * x1) / (800 : Int32)))))), (h_sea, .inl (cZ, 64, .inl r_sea))] := hD
        refine lv_aload_n hx hb dX3_melt_70 rfl (lv_at hl 2 rfl) ?_
        refine lv_dup hx hb dX3_melt_71 rfl ?_
        refine va_get (D := (dC, dI)) (ci := 3) (v := .int f_melted) (C := RX3) (T := TX3) (N := 11) hx hb hts gu_X3 hown hK hP 0 rfl rfl 10 (by decide) (hts _ gw_85) (fun _ h9 => h9) rfl dX3_melt_72 ?_
        refine lv_iload_n hx hb dX3_melt_75 rfl (lv_at hl 1 rfl) ?_
        refine lv_iload hx hb dX3_melt_76 (lv_at hl 0 rfl) ?_
        refine lv_iadd hx hb dX3_melt_78 ?_
        refine lv_iadd hx hb dX3_melt_79 ?_
        refine va_put (D := (dC, dI)) (ci := 3) (v := .int (f_melted + ((((r_level x2.toNatClampNeg) * x1) / (400 : Int32)) + (((r_ridged x2.toNatClampNeg) * x1) / (800 : Int32))))) (ty := .int) (C := RX3) (T := TX3) (N := 11) hx hb hts gu_X3 tyX3 tyX3_ok nmX3 hown hK hP hD hS 0 rfl rfl 10 (by decide) (hts _ gw_85) (fun _ h9 => h9) rfl (tyX3_ok 10 (by decide)) rfl rfl (Nat.le_of_ble_eq_true rfl) dX3_melt_80 (fun H locs hP hD hS => ?_)
        have hP : va_P (dC, dI) vwCl [(h, .inr (3, [.ref h_sea, .ref h_fast, .ref h_level, .ref h_ridged, .ref h_channel, .ref h_arrived, .int f_rows, .int f_columns, .int f_laid, .int f_grown, .int (f_melted + ((((r_level x2.toNatClampNeg) * x1) / (400 : Int32)) + (((r_ridged x2.toNatClampNeg) * x1) / (800 : Int32))))])), (h_level, .inl (cI, 64, .inl (upd r_level x2.toNatClampNeg ((r_level x2.toNatClampNeg) - (((r_level x2.toNatClampNeg) * x1) / (400 : Int32)))))), (h_ridged, .inl (cI, 64, .inl (upd r_ridged x2.toNatClampNeg ((r_ridged x2.toNatClampNeg) - (((r_ridged x2.toNatClampNeg) * x1) / (800 : Int32)))))), (h_sea, .inl (cZ, 64, .inl r_sea))] _ := hP
        have hD : va_D A [(h, .inr (3, [.ref h_sea, .ref h_fast, .ref h_level, .ref h_ridged, .ref h_channel, .ref h_arrived, .int f_rows, .int f_columns, .int f_laid, .int f_grown, .int (f_melted + ((((r_level x2.toNatClampNeg) * x1) / (400 : Int32)) + (((r_ridged x2.toNatClampNeg) * x1) / (800 : Int32))))])), (h_level, .inl (cI, 64, .inl (upd r_level x2.toNatClampNeg ((r_level x2.toNatClampNeg) - (((r_level x2.toNatClampNeg) * x1) / (400 : Int32)))))), (h_ridged, .inl (cI, 64, .inl (upd r_ridged x2.toNatClampNeg ((r_ridged x2.toNatClampNeg) - (((r_ridged x2.toNatClampNeg) * x1) / (800 : Int32)))))), (h_sea, .inl (cZ, 64, .inl r_sea))] := hD
        exact tX3_melt_83 hC hK hA ih x1 x2 f_rows (f_melted + ((((r_level x2.toNatClampNeg) * x1) / (400 : Int32)) + (((r_ridged x2.toNatClampNeg) * x1) / (800 : Int32)))) (upd r_level x2.toNatClampNeg ((r_level x2.toNatClampNeg) - (((r_level x2.toNatClampNeg) * x1) / (400 : Int32)))) (upd r_ridged x2.toNatClampNeg ((r_ridged x2.toNatClampNeg) - (((r_ridged x2.toNatClampNeg) * x1) / (800 : Int32)))) r_sea _ _ ls hw (hP.sub [0, 1, 2, 3] rfl) (hD.sub [0, 1, 2, 3] (by decide) rfl) hS (lv_sub hl [2, 3, 4] rfl)
set_option maxHeartbeats 4000000 in
set_option maxRecDepth 100000 in
theorem tX3_melt_e {p : Program} {l : Launch} {e : Env} {s : State} {m : MethodId} {args : Array Value} {below : List Frame} {meth : Method} {c : Code} {dC : Nat → ClassId} {dI : Nat → Nat → Nat} {cI cZ cO cW : ClassId} {A : Nat → Prop} {h h_sea h_fast h_level h_ridged h_channel h_arrived : Nat} {f_columns f_laid f_grown : Int32} {Q : Int32 → (Nat → Int32) → (Nat → Int32) → Prop} (hC : Cx p s m args meth c cX3_melt none 5 GW RX3) (hK : va_K (dC, dI) vwCl (tysA cI cZ cO cW) s) (hA : ∀ q : Nat, s.heap.size ≤ q → A q) :
    ∀ (x1 : Int32) (f_rows : Int32) (f_melted : Int32) (r_level : Nat → Int32) (r_ridged : Nat → Int32) (r_sea : Nat → Int32) (H : Heap) (locs : List Loc) (ls : Array Slot), wX3_melt Q x1 f_rows f_melted r_level r_ridged r_sea → va_P (dC, dI) vwCl (vX3_melt cI cZ h h_sea h_fast h_level h_ridged h_channel h_arrived f_columns f_laid f_grown f_rows f_melted r_level r_ridged r_sea) H → va_D A (vX3_melt cI cZ h h_sea h_fast h_level h_ridged h_channel h_arrived f_columns f_laid f_grown f_rows f_melted r_level r_ridged r_sea) → va_S A s.heap H locs → lv_has ls 5 [(0, .ref h), (1, .int x1)] → W p l e rmX3_melt s m args below meth c H locs 0 0 (MQ below (qX3_melt dC dI cI cZ cO cW h h_sea h_fast h_level h_ridged h_channel h_arrived f_columns f_laid f_grown f_rows r_sea Q A) args s 0 0 A) (F0 m 0 ls []) := by
  obtain ⟨hx, hb, hr, hml, hown, hts, hlocks⟩ := id hC
  intro x1 f_rows f_melted r_level r_ridged r_sea H locs ls hw hP hD hS hl
  refine lv_iconst (v := (0 : Int32)) hx hb dX3_melt_0 (by decide) ?_
  refine lv_istore_n (lv' := [(2, .int (0 : Int32)), (0, .ref h), (1, .int x1)]) hx hb dX3_melt_1 rfl hl (by decide) rfl (fun ls hl => ?_)
  obtain ⟨n_10, hw⟩ := hw
  exact tX3_melt_2 hC hK hA  n_10 x1 (0 : Int32) f_rows f_melted r_level r_ridged r_sea _ _ ls hw (hP.sub [0, 1, 2, 3] rfl) (hD.sub [0, 1, 2, 3] (by decide) rfl) hS (lv_sub hl [1, 2, 0] rfl)
set_option maxHeartbeats 4000000 in
set_option maxRecDepth 100000 in
theorem kX3_melt (l : Launch) (dC : Nat → ClassId) (dI : Nat → Nat → Nat) (cI cZ cO cW : ClassId) (h h_sea h_fast h_level h_ridged h_channel h_arrived : Nat)  (sz : Nat) (f_columns : Int32) (f_laid : Int32) (f_grown : Int32) (f_rows : Int32) (f_melted : Int32) (r_level : Nat → Int32) (r_ridged : Nat → Int32) (r_sea : Nat → Int32) (x1 : Int32) (Q : Int32 → (Nat → Int32) → (Nat → Int32) → Prop) (hw : wX3_melt Q x1 f_rows f_melted r_level r_ridged r_sea) : Met l yX3_melt zsX3_melt rmX3_melt (va_Pc [.ref h, .int x1] (fun U => U.heap.size = sz ∧ va_P (dC, dI) vwCl (vX3_melt cI cZ h h_sea h_fast h_level h_ridged h_channel h_arrived f_columns f_laid f_grown f_rows f_melted r_level r_ridged r_sea) U.heap ∧ va_K (dC, dI) vwCl (tysA cI cZ cO cW) U ∧ va_D (fun _ => True) (vX3_melt cI cZ h h_sea h_fast h_level h_ridged h_channel h_arrived f_columns f_laid f_grown f_rows f_melted r_level r_ridged r_sea))) (qX3_melt dC dI cI cZ cO cW h h_sea h_fast h_level h_ridged h_channel h_arrived f_columns f_laid f_grown f_rows r_sea Q (va_A (vX3_melt cI cZ h h_sea h_fast h_level h_ridged h_channel h_arrived f_columns f_laid f_grown f_rows f_melted r_level r_ridged r_sea) sz)) 0 0 (va_A (vX3_melt cI cZ h h_sea h_fast h_level h_ridged h_channel h_arrived f_columns f_laid f_grown f_rows f_melted r_level r_ridged r_sea) sz) := by
  refine Met.ofW (cc := cX3_melt) (maxL := 5) (ret := none) (by decide) rfl ?_
  intro p e s m args below meth c s₁ B hml hv
  obtain ⟨rfl, hsz, hP, hK, hD0⟩ := hv
  subst hsz
  have hC : Cx p s m ([.ref h, .int x1] : List Value).toArray meth c cX3_melt none 5 GW RX3 := ⟨B.exec, B.bytes, B.returns, hml, findClass_of_methodNamed B.named, fun w h => atoms_spec (ws := zsX3_melt) B.pre w (List.mem_cons_of_mem _ h), B.notSynchronized⟩
  have hD := hD0.self (sz := s.heap.size)
  generalize hAe : va_A (vX3_melt cI cZ h h_sea h_fast h_level h_ridged h_channel h_arrived f_columns f_laid f_grown f_rows f_melted r_level r_ridged r_sea) s.heap.size = A at hD ⊢
  have hA : ∀ q : Nat, s.heap.size ≤ q → A q := fun q h => by rw [← hAe]; exact Or.inr h
  have hl := lv_entry ([.ref h, .int x1]) (n := 5) (Nat.le_of_ble_eq_true rfl)
  rw [lg_entry_eq]
  generalize (lg_sl ([.ref h, .int x1]) ++ List.replicate (5 - (lg_sl ([.ref h, .int x1])).length) Slot.unset).toArray = ls at hl ⊢
  exact tX3_melt_e hC hK hA x1 f_rows f_melted r_level r_ridged r_sea _ _ ls hw hP hD va_S.rf hl

/-! X3_send -/
def wX3_send (Q : (Nat → Int32) → (Nat → Int32) → Prop) (x1 : Int32) (x2 : Int32) (x3 : Int32) (r_arrived : Nat → Int32) (r_level : Nat → Int32) (r_sea : Nat → Int32) : Prop :=
  ((x2 = (-1 : Int32) → (Q r_arrived r_level)) ∧ (¬ x2 = (-1 : Int32) → (vp_in x2 64 ∧ (((r_sea x2.toNatClampNeg) = 0 → (Q r_arrived r_level)) ∧ (¬ (r_sea x2.toNatClampNeg) = 0 → (vp_in x1 64 ∧ (vp_in x1 64 ∧ (vp_in x2 64 ∧ (vp_in x2 64 ∧ (Q (upd r_arrived x2.toNatClampNeg ((r_arrived x2.toNatClampNeg) + x3)) (upd r_level x1.toNatClampNeg ((r_level x1.toNatClampNeg) - x3))))))))))))
abbrev vX3_send (cI cZ : ClassId) (h h_sea h_fast h_level h_ridged h_channel h_arrived : Nat) (f_rows : Int32) (f_columns : Int32) (f_laid : Int32) (f_grown : Int32) (f_melted : Int32) (r_arrived : Nat → Int32) (r_level : Nat → Int32) (r_sea : Nat → Int32) : va_W := [(h, .inr (3, [.ref h_sea, .ref h_fast, .ref h_level, .ref h_ridged, .ref h_channel, .ref h_arrived, .int f_rows, .int f_columns, .int f_laid, .int f_grown, .int f_melted])), (h_arrived, .inl (cI, 64, .inl r_arrived)), (h_level, .inl (cI, 64, .inl r_level)), (h_sea, .inl (cZ, 64, .inl r_sea))]
abbrev rmX3_send : Room := { frames := 0, cells := 0, slots := 0, locals := 0 }
abbrev qX3_send (dC : Nat → ClassId) (dI : Nat → Nat → Nat) (cI cZ cO cW : ClassId) (h h_sea h_fast h_level h_ridged h_channel h_arrived : Nat) (f_rows : Int32) (f_columns : Int32) (f_laid : Int32) (f_grown : Int32) (f_melted : Int32) (r_sea : Nat → Int32) (Q : (Nat → Int32) → (Nat → Int32) → Prop) (A : Nat → Prop) : Array Value → State → Outcome → State → Prop := va_Qv (fun (u : (Nat → Int32) × (Nat → Int32)) => Q u.1 u.2) (fun (u : (Nat → Int32) × (Nat → Int32)) (t : State) => va_P (dC, dI) vwCl (vX3_send cI cZ h h_sea h_fast h_level h_ridged h_channel h_arrived f_rows f_columns f_laid f_grown f_melted u.1 u.2 r_sea) t.heap ∧ va_K (dC, dI) vwCl (tysA cI cZ cO cW) t ∧ va_D A (vX3_send cI cZ h h_sea h_fast h_level h_ridged h_channel h_arrived f_rows f_columns f_laid f_grown f_melted u.1 u.2 r_sea)) A
def zsX3_send : List Cond := Cond.code yX3_send cX3_send 4 none :: GW
set_option maxHeartbeats 4000000 in
set_option maxRecDepth 100000 in
theorem tX3_send_e {p : Program} {l : Launch} {e : Env} {s : State} {m : MethodId} {args : Array Value} {below : List Frame} {meth : Method} {c : Code} {dC : Nat → ClassId} {dI : Nat → Nat → Nat} {cI cZ cO cW : ClassId} {A : Nat → Prop} {h h_sea h_fast h_level h_ridged h_channel h_arrived : Nat} {f_rows f_columns f_laid f_grown f_melted : Int32} {Q : (Nat → Int32) → (Nat → Int32) → Prop} (hC : Cx p s m args meth c cX3_send none 4 GW RX3) (hK : va_K (dC, dI) vwCl (tysA cI cZ cO cW) s) (hA : ∀ q : Nat, s.heap.size ≤ q → A q) :
    ∀ (x1 : Int32) (x2 : Int32) (x3 : Int32) (r_arrived : Nat → Int32) (r_level : Nat → Int32) (r_sea : Nat → Int32) (H : Heap) (locs : List Loc) (ls : Array Slot), wX3_send Q x1 x2 x3 r_arrived r_level r_sea → va_P (dC, dI) vwCl (vX3_send cI cZ h h_sea h_fast h_level h_ridged h_channel h_arrived f_rows f_columns f_laid f_grown f_melted r_arrived r_level r_sea) H → va_D A (vX3_send cI cZ h h_sea h_fast h_level h_ridged h_channel h_arrived f_rows f_columns f_laid f_grown f_melted r_arrived r_level r_sea) → va_S A s.heap H locs → lv_has ls 4 [(0, .ref h), (1, .int x1), (2, .int x2), (3, .int x3)] → W p l e rmX3_send s m args below meth c H locs 0 0 (MQ below (qX3_send dC dI cI cZ cO cW h h_sea h_fast h_level h_ridged h_channel h_arrived f_rows f_columns f_laid f_grown f_melted r_sea Q A) args s 0 0 A) (F0 m 0 ls []) := by
  obtain ⟨hx, hb, hr, hml, hown, hts, hlocks⟩ := id hC
  intro x1 x2 x3 r_arrived r_level r_sea H locs ls hw hP hD hS hl
  refine lv_iload_n hx hb dX3_send_0 rfl (lv_at hl 2 rfl) ?_
  refine lv_iconst (v := (-1 : Int32)) hx hb dX3_send_1 (by decide) ?_
  refine lv_icmp_eq (tgt := 34) hx hb dX3_send_2 (by decide) (fun c_1 => ?_) (fun c_1 => ?_)
  · have hw := hw.1 c_1
    have hP9 := hP.sub (ws' := (vX3_send cI cZ h h_sea h_fast h_level h_ridged h_channel h_arrived f_rows f_columns f_laid f_grown f_melted r_arrived r_level r_sea)) [0, 1, 2, 3] rfl
    have hD9 := hD.sub (ws' := (vX3_send cI cZ h h_sea h_fast h_level h_ridged h_channel h_arrived f_rows f_columns f_laid f_grown f_melted r_arrived r_level r_sea)) [0, 1, 2, 3] (by decide) rfl
    exact W.vret hx hb hr (fun t ht hW => ⟨⟨(r_arrived, r_level), rfl, hw, by rw [ht]; exact hP9, va_K.moved hW.alike hK, hD9⟩, hS.F ht⟩) hS.2.2 dX3_send_34
  · have hw := hw.2 c_1
    refine lv_aload_n hx hb dX3_send_5 rfl (lv_at hl 0 rfl) ?_
    refine va_get (D := (dC, dI)) (ci := 3) (v := .ref h_sea) (C := RX3) (T := TX3) (N := 11) hx hb hts gu_X3 hown hK hP 0 rfl rfl 0 (by decide) (hts _ gw_75) (fun _ h9 => h9) rfl dX3_send_6 ?_
    refine lv_iload_n hx hb dX3_send_9 rfl (lv_at hl 2 rfl) ?_
    obtain ⟨h_2, hw⟩ := hw
    refine va_zald hx hb hK hP 3 1 rfl rfl h_2 dX3_send_10 ?_
    refine lv_if_eq (tgt := 34) hx hb dX3_send_11 (by decide) (fun c_3 => ?_) (fun c_3 => ?_)
    · have hw := hw.1 c_3
      have hP9 := hP.sub (ws' := (vX3_send cI cZ h h_sea h_fast h_level h_ridged h_channel h_arrived f_rows f_columns f_laid f_grown f_melted r_arrived r_level r_sea)) [0, 1, 2, 3] rfl
      have hD9 := hD.sub (ws' := (vX3_send cI cZ h h_sea h_fast h_level h_ridged h_channel h_arrived f_rows f_columns f_laid f_grown f_melted r_arrived r_level r_sea)) [0, 1, 2, 3] (by decide) rfl
      exact W.vret hx hb hr (fun t ht hW => ⟨⟨(r_arrived, r_level), rfl, hw, by rw [ht]; exact hP9, va_K.moved hW.alike hK, hD9⟩, hS.F ht⟩) hS.2.2 dX3_send_34
    · have hw := hw.2 c_3
      refine lv_aload_n hx hb dX3_send_14 rfl (lv_at hl 0 rfl) ?_
      refine va_get (D := (dC, dI)) (ci := 3) (v := .ref h_level) (C := RX3) (T := TX3) (N := 11) hx hb hts gu_X3 hown hK hP 0 rfl rfl 2 (by decide) (hts _ gw_77) (fun _ h9 => h9) rfl dX3_send_15 ?_
      refine lv_iload_n hx hb dX3_send_18 rfl (lv_at hl 1 rfl) ?_
      refine lv_dup2_11 hx hb dX3_send_19 rfl rfl ?_
      obtain ⟨h_4, hw⟩ := hw
      refine va_iald hx hb hK hP 2 0 rfl rfl h_4 dX3_send_20 ?_
      refine lv_iload_n hx hb dX3_send_21 rfl (lv_at hl 3 rfl) ?_
      refine lv_isub hx hb dX3_send_22 ?_
      obtain ⟨h_5, hw⟩ := hw
      refine va_iast hx hb hK hP hD hS 2 0 rfl rfl h_5 dX3_send_23 (fun H locs hP hD hS => ?_)
      have hP : va_P (dC, dI) vwCl [(h, .inr (3, [.ref h_sea, .ref h_fast, .ref h_level, .ref h_ridged, .ref h_channel, .ref h_arrived, .int f_rows, .int f_columns, .int f_laid, .int f_grown, .int f_melted])), (h_arrived, .inl (cI, 64, .inl r_arrived)), (h_level, .inl (cI, 64, .inl (upd r_level x1.toNatClampNeg ((r_level x1.toNatClampNeg) - x3)))), (h_sea, .inl (cZ, 64, .inl r_sea))] _ := hP
      have hD : va_D A [(h, .inr (3, [.ref h_sea, .ref h_fast, .ref h_level, .ref h_ridged, .ref h_channel, .ref h_arrived, .int f_rows, .int f_columns, .int f_laid, .int f_grown, .int f_melted])), (h_arrived, .inl (cI, 64, .inl r_arrived)), (h_level, .inl (cI, 64, .inl (upd r_level x1.toNatClampNeg ((r_level x1.toNatClampNeg) - x3)))), (h_sea, .inl (cZ, 64, .inl r_sea))] := hD
      refine lv_aload_n hx hb dX3_send_24 rfl (lv_at hl 0 rfl) ?_
      refine va_get (D := (dC, dI)) (ci := 3) (v := .ref h_arrived) (C := RX3) (T := TX3) (N := 11) hx hb hts gu_X3 hown hK hP 0 rfl rfl 5 (by decide) (hts _ gw_80) (fun _ h9 => h9) rfl dX3_send_25 ?_
      refine lv_iload_n hx hb dX3_send_28 rfl (lv_at hl 2 rfl) ?_
      refine lv_dup2_11 hx hb dX3_send_29 rfl rfl ?_
      obtain ⟨h_6, hw⟩ := hw
      refine va_iald hx hb hK hP 1 0 rfl rfl h_6 dX3_send_30 ?_
      refine lv_iload_n hx hb dX3_send_31 rfl (lv_at hl 3 rfl) ?_
      refine lv_iadd hx hb dX3_send_32 ?_
      obtain ⟨h_7, hw⟩ := hw
      refine va_iast hx hb hK hP hD hS 1 0 rfl rfl h_7 dX3_send_33 (fun H locs hP hD hS => ?_)
      have hP : va_P (dC, dI) vwCl [(h, .inr (3, [.ref h_sea, .ref h_fast, .ref h_level, .ref h_ridged, .ref h_channel, .ref h_arrived, .int f_rows, .int f_columns, .int f_laid, .int f_grown, .int f_melted])), (h_arrived, .inl (cI, 64, .inl (upd r_arrived x2.toNatClampNeg ((r_arrived x2.toNatClampNeg) + x3)))), (h_level, .inl (cI, 64, .inl (upd r_level x1.toNatClampNeg ((r_level x1.toNatClampNeg) - x3)))), (h_sea, .inl (cZ, 64, .inl r_sea))] _ := hP
      have hD : va_D A [(h, .inr (3, [.ref h_sea, .ref h_fast, .ref h_level, .ref h_ridged, .ref h_channel, .ref h_arrived, .int f_rows, .int f_columns, .int f_laid, .int f_grown, .int f_melted])), (h_arrived, .inl (cI, 64, .inl (upd r_arrived x2.toNatClampNeg ((r_arrived x2.toNatClampNeg) + x3)))), (h_level, .inl (cI, 64, .inl (upd r_level x1.toNatClampNeg ((r_level x1.toNatClampNeg) - x3)))), (h_sea, .inl (cZ, 64, .inl r_sea))] := hD
      have hP9 := hP.sub (ws' := (vX3_send cI cZ h h_sea h_fast h_level h_ridged h_channel h_arrived f_rows f_columns f_laid f_grown f_melted (upd r_arrived x2.toNatClampNeg ((r_arrived x2.toNatClampNeg) + x3)) (upd r_level x1.toNatClampNeg ((r_level x1.toNatClampNeg) - x3)) r_sea)) [0, 1, 2, 3] rfl
      have hD9 := hD.sub (ws' := (vX3_send cI cZ h h_sea h_fast h_level h_ridged h_channel h_arrived f_rows f_columns f_laid f_grown f_melted (upd r_arrived x2.toNatClampNeg ((r_arrived x2.toNatClampNeg) + x3)) (upd r_level x1.toNatClampNeg ((r_level x1.toNatClampNeg) - x3)) r_sea)) [0, 1, 2, 3] (by decide) rfl
      exact W.vret hx hb hr (fun t ht hW => ⟨⟨((upd r_arrived x2.toNatClampNeg ((r_arrived x2.toNatClampNeg) + x3)), (upd r_level x1.toNatClampNeg ((r_level x1.toNatClampNeg) - x3))), rfl, hw, by rw [ht]; exact hP9, va_K.moved hW.alike hK, hD9⟩, hS.F ht⟩) hS.2.2 dX3_send_34
set_option maxHeartbeats 4000000 in
set_option maxRecDepth 100000 in
theorem kX3_send (l : Launch) (dC : Nat → ClassId) (dI : Nat → Nat → Nat) (cI cZ cO cW : ClassId) (h h_sea h_fast h_level h_ridged h_channel h_arrived : Nat)  (sz : Nat) (f_rows : Int32) (f_columns : Int32) (f_laid : Int32) (f_grown : Int32) (f_melted : Int32) (r_arrived : Nat → Int32) (r_level : Nat → Int32) (r_sea : Nat → Int32) (x1 : Int32) (x2 : Int32) (x3 : Int32) (Q : (Nat → Int32) → (Nat → Int32) → Prop) (hw : wX3_send Q x1 x2 x3 r_arrived r_level r_sea) : Met l yX3_send zsX3_send rmX3_send (va_Pc [.ref h, .int x1, .int x2, .int x3] (fun U => U.heap.size = sz ∧ va_P (dC, dI) vwCl (vX3_send cI cZ h h_sea h_fast h_level h_ridged h_channel h_arrived f_rows f_columns f_laid f_grown f_melted r_arrived r_level r_sea) U.heap ∧ va_K (dC, dI) vwCl (tysA cI cZ cO cW) U ∧ va_D (fun _ => True) (vX3_send cI cZ h h_sea h_fast h_level h_ridged h_channel h_arrived f_rows f_columns f_laid f_grown f_melted r_arrived r_level r_sea))) (qX3_send dC dI cI cZ cO cW h h_sea h_fast h_level h_ridged h_channel h_arrived f_rows f_columns f_laid f_grown f_melted r_sea Q (va_A (vX3_send cI cZ h h_sea h_fast h_level h_ridged h_channel h_arrived f_rows f_columns f_laid f_grown f_melted r_arrived r_level r_sea) sz)) 0 0 (va_A (vX3_send cI cZ h h_sea h_fast h_level h_ridged h_channel h_arrived f_rows f_columns f_laid f_grown f_melted r_arrived r_level r_sea) sz) := by
  refine Met.ofW (cc := cX3_send) (maxL := 4) (ret := none) (by decide) rfl ?_
  intro p e s m args below meth c s₁ B hml hv
  obtain ⟨rfl, hsz, hP, hK, hD0⟩ := hv
  subst hsz
  have hC : Cx p s m ([.ref h, .int x1, .int x2, .int x3] : List Value).toArray meth c cX3_send none 4 GW RX3 := ⟨B.exec, B.bytes, B.returns, hml, findClass_of_methodNamed B.named, fun w h => atoms_spec (ws := zsX3_send) B.pre w (List.mem_cons_of_mem _ h), B.notSynchronized⟩
  have hD := hD0.self (sz := s.heap.size)
  generalize hAe : va_A (vX3_send cI cZ h h_sea h_fast h_level h_ridged h_channel h_arrived f_rows f_columns f_laid f_grown f_melted r_arrived r_level r_sea) s.heap.size = A at hD ⊢
  have hA : ∀ q : Nat, s.heap.size ≤ q → A q := fun q h => by rw [← hAe]; exact Or.inr h
  have hl := lv_entry ([.ref h, .int x1, .int x2, .int x3]) (n := 4) (Nat.le_of_ble_eq_true rfl)
  rw [lg_entry_eq]
  generalize (lg_sl ([.ref h, .int x1, .int x2, .int x3]) ++ List.replicate (4 - (lg_sl ([.ref h, .int x1, .int x2, .int x3])).length) Slot.unset).toArray = ls at hl ⊢
  exact tX3_send_e hC hK hA x1 x2 x3 r_arrived r_level r_sea _ _ ls hw hP hD va_S.rf hl

/-! X3_drift -/
def wX3_drift_67 (Q : (Nat → Int32) → (Nat → Int32) → (Nat → Int32) → Prop) (K_15 : Int32 → Int32 → Int32 → Int32 → Int32 → (Nat → Int32) → (Nat → Int32) → (Nat → Int32) → (Nat → Int32) → (Nat → Int32) → Prop)  (x1 : Int32) (x2 : Int32) (x3 : Int32) (f_rows : Int32) (f_columns : Int32) (r_arrived : (Nat → Int32)) (r_fast : (Nat → Int32)) (r_level : (Nat → Int32)) (r_ridged : (Nat → Int32)) (r_sea : (Nat → Int32)) : Prop :=
  (K_15 x1 x2 (x3 + (1 : Int32)) f_rows f_columns r_arrived r_fast r_level r_ridged r_sea)
def wX3_drift_75 (Q : (Nat → Int32) → (Nat → Int32) → (Nat → Int32) → Prop)   : Nat → Int32 → Int32 → Int32 → (Nat → Int32) → (Nat → Int32) → (Nat → Int32) → (Nat → Int32) → (Nat → Int32) → Prop
  | 0, _, _, _, _, _, _, _, _ => False
  | n + 1, x3, f_rows, f_columns, r_arrived, r_fast, r_level, r_ridged, r_sea => (((f_rows * (8 : Int32)) ≤ x3 → (Q r_arrived r_level r_ridged)) ∧ (¬ (f_rows * (8 : Int32)) ≤ x3 → (vp_in x3 64 ∧ (vp_in x3 64 ∧ (vp_in x3 64 ∧ (vp_in x3 64 ∧ (vp_in x3 64 ∧ (vp_in x3 64 ∧ (wX3_drift_75 Q n (x3 + (1 : Int32)) f_rows f_columns r_arrived r_fast (upd r_level x3.toNatClampNeg (if (100 : Int32) < ((r_level x3.toNatClampNeg) + (r_arrived x3.toNatClampNeg)) then (100 : Int32) else ((r_level x3.toNatClampNeg) + (r_arrived x3.toNatClampNeg)))) (upd r_ridged x3.toNatClampNeg ((r_ridged x3.toNatClampNeg) + (((r_level x3.toNatClampNeg) + (r_arrived x3.toNatClampNeg)) - ((upd r_level x3.toNatClampNeg (if (100 : Int32) < ((r_level x3.toNatClampNeg) + (r_arrived x3.toNatClampNeg)) then (100 : Int32) else ((r_level x3.toNatClampNeg) + (r_arrived x3.toNatClampNeg)))) x3.toNatClampNeg)))) r_sea)))))))))
def wX3_drift_15 (Q : (Nat → Int32) → (Nat → Int32) → (Nat → Int32) → Prop)   : Nat → Int32 → Int32 → Int32 → Int32 → Int32 → (Nat → Int32) → (Nat → Int32) → (Nat → Int32) → (Nat → Int32) → (Nat → Int32) → Prop
  | 0, _, _, _, _, _, _, _, _, _, _ => False
  | n + 1, x1, x2, x3, f_rows, f_columns, r_arrived, r_fast, r_level, r_ridged, r_sea => (((f_rows * (8 : Int32)) ≤ x3 → (∃ j_, wX3_drift_75 Q j_ (0 : Int32) f_rows f_columns r_arrived r_fast r_level r_ridged r_sea)) ∧ (¬ (f_rows * (8 : Int32)) ≤ x3 → (vp_in x3 64 ∧ (((r_sea x3.toNatClampNeg) = 0 → (wX3_drift_67 Q (wX3_drift_15 Q n) x1 x2 x3 f_rows f_columns r_arrived r_fast r_level r_ridged r_sea)) ∧ (¬ (r_sea x3.toNatClampNeg) = 0 → (vp_in x3 64 ∧ ((¬ (r_fast x3.toNatClampNeg) = 0 → (wX3_drift_67 Q (wX3_drift_15 Q n) x1 x2 x3 f_rows f_columns r_arrived r_fast r_level r_ridged r_sea)) ∧ ((r_fast x3.toNatClampNeg) = 0 → (wX3_next (fun r_14 => (vp_in x3 64 ∧ (wX3_send (fun r_arrived_16 r_level_17 => (wX3_drift_67 Q (wX3_drift_15 Q n) x1 x2 x3 f_rows f_columns r_arrived_16 r_fast r_level_17 r_ridged r_sea)) x3 r_14 (((r_level x3.toNatClampNeg) * x2) / (200 : Int32)) r_arrived r_level r_sea))) x3 x1 f_rows f_columns)))))))))
def wX3_drift (Q : (Nat → Int32) → (Nat → Int32) → (Nat → Int32) → Prop) (x1 : Int32) (x2 : Int32) (f_rows : Int32) (f_columns : Int32) (r_arrived : Nat → Int32) (r_fast : Nat → Int32) (r_level : Nat → Int32) (r_ridged : Nat → Int32) (r_sea : Nat → Int32) : Prop :=
  (wJ7_fill_53178 (fun r_arrived_18 => ((0 < x2 → (∃ j_, wX3_drift_15 Q j_ x1 x2 (0 : Int32) f_rows f_columns r_arrived_18 r_fast r_level r_ridged r_sea)) ∧ (¬ 0 < x2 → (Q r_arrived_18 r_level r_ridged)))) (0 : Int32) 64 r_arrived)
abbrev vX3_drift (cI cZ : ClassId) (h h_sea h_fast h_level h_ridged h_channel h_arrived : Nat) (f_laid : Int32) (f_grown : Int32) (f_melted : Int32) (f_rows : Int32) (f_columns : Int32) (r_arrived : Nat → Int32) (r_fast : Nat → Int32) (r_level : Nat → Int32) (r_ridged : Nat → Int32) (r_sea : Nat → Int32) : va_W := [(h, .inr (3, [.ref h_sea, .ref h_fast, .ref h_level, .ref h_ridged, .ref h_channel, .ref h_arrived, .int f_rows, .int f_columns, .int f_laid, .int f_grown, .int f_melted])), (h_arrived, .inl (cI, 64, .inl r_arrived)), (h_fast, .inl (cZ, 64, .inl r_fast)), (h_level, .inl (cI, 64, .inl r_level)), (h_ridged, .inl (cI, 64, .inl r_ridged)), (h_sea, .inl (cZ, 64, .inl r_sea))]
abbrev rmX3_drift : Room := { frames := 2, cells := 0, slots := 0, locals := 46 }
abbrev qX3_drift (dC : Nat → ClassId) (dI : Nat → Nat → Nat) (cI cZ cO cW : ClassId) (h h_sea h_fast h_level h_ridged h_channel h_arrived : Nat) (f_laid : Int32) (f_grown : Int32) (f_melted : Int32) (f_rows : Int32) (f_columns : Int32) (r_fast : Nat → Int32) (r_sea : Nat → Int32) (Q : (Nat → Int32) → (Nat → Int32) → (Nat → Int32) → Prop) (A : Nat → Prop) : Array Value → State → Outcome → State → Prop := va_Qv (fun (u : (Nat → Int32) × (Nat → Int32) × (Nat → Int32)) => Q u.1 u.2.1 u.2.2) (fun (u : (Nat → Int32) × (Nat → Int32) × (Nat → Int32)) (t : State) => va_P (dC, dI) vwCl (vX3_drift cI cZ h h_sea h_fast h_level h_ridged h_channel h_arrived f_laid f_grown f_melted f_rows f_columns u.1 r_fast u.2.1 u.2.2 r_sea) t.heap ∧ va_K (dC, dI) vwCl (tysA cI cZ cO cW) t ∧ va_D A (vX3_drift cI cZ h h_sea h_fast h_level h_ridged h_channel h_arrived f_laid f_grown f_melted f_rows f_columns u.1 r_fast u.2.1 u.2.2 r_sea)) A
def zsX3_drift : List Cond := Cond.code yX3_drift cX3_drift 5 none :: GW
set_option maxHeartbeats 4000000 in
set_option maxRecDepth 100000 in
theorem tX3_drift_67 {p : Program} {l : Launch} {e : Env} {s : State} {m : MethodId} {args : Array Value} {below : List Frame} {meth : Method} {c : Code} {dC : Nat → ClassId} {dI : Nat → Nat → Nat} {cI cZ cO cW : ClassId} {A : Nat → Prop} {h h_sea h_fast h_level h_ridged h_channel h_arrived : Nat} {f_laid f_grown f_melted : Int32} {Q : (Nat → Int32) → (Nat → Int32) → (Nat → Int32) → Prop} {K_15 : Int32 → Int32 → Int32 → Int32 → Int32 → (Nat → Int32) → (Nat → Int32) → (Nat → Int32) → (Nat → Int32) → (Nat → Int32) → Prop} (hC : Cx p s m args meth c cX3_drift none 5 GW RX3) (hK : va_K (dC, dI) vwCl (tysA cI cZ cO cW) s) (hA : ∀ q : Nat, s.heap.size ≤ q → A q) (hk_15 : ∀ (x1 : Int32) (x2 : Int32) (x3 : Int32) (f_rows : Int32) (f_columns : Int32) (r_arrived : (Nat → Int32)) (r_fast : (Nat → Int32)) (r_level : (Nat → Int32)) (r_ridged : (Nat → Int32)) (r_sea : (Nat → Int32)) (H : Heap) (locs : List Loc) (ls : Array Slot), K_15 x1 x2 x3 f_rows f_columns r_arrived r_fast r_level r_ridged r_sea → va_P (dC, dI) vwCl (vX3_drift cI cZ h h_sea h_fast h_level h_ridged h_channel h_arrived f_laid f_grown f_melted f_rows f_columns r_arrived r_fast r_level r_ridged r_sea) H → va_D A (vX3_drift cI cZ h h_sea h_fast h_level h_ridged h_channel h_arrived f_laid f_grown f_melted f_rows f_columns r_arrived r_fast r_level r_ridged r_sea) → va_S A s.heap H locs → lv_has ls 5 [(0, .ref h), (1, .int x1), (2, .int x2), (3, .int x3)] → W p l e rmX3_drift s m args below meth c H locs 0 0 (MQ below (qX3_drift dC dI cI cZ cO cW h h_sea h_fast h_level h_ridged h_channel h_arrived f_laid f_grown f_melted f_rows f_columns r_fast r_sea Q A) args s 0 0 A) (F0 m 15 ls [])) :
    ∀ (x1 : Int32) (x2 : Int32) (x3 : Int32) (f_rows : Int32) (f_columns : Int32) (r_arrived : (Nat → Int32)) (r_fast : (Nat → Int32)) (r_level : (Nat → Int32)) (r_ridged : (Nat → Int32)) (r_sea : (Nat → Int32)) (H : Heap) (locs : List Loc) (ls : Array Slot), wX3_drift_67 Q K_15 x1 x2 x3 f_rows f_columns r_arrived r_fast r_level r_ridged r_sea → va_P (dC, dI) vwCl (vX3_drift cI cZ h h_sea h_fast h_level h_ridged h_channel h_arrived f_laid f_grown f_melted f_rows f_columns r_arrived r_fast r_level r_ridged r_sea) H → va_D A (vX3_drift cI cZ h h_sea h_fast h_level h_ridged h_channel h_arrived f_laid f_grown f_melted f_rows f_columns r_arrived r_fast r_level r_ridged r_sea) → va_S A s.heap H locs → lv_has ls 5 [(0, .ref h), (1, .int x1), (2, .int x2), (3, .int x3)] → W p l e rmX3_drift s m args below meth c H locs 0 0 (MQ below (qX3_drift dC dI cI cZ cO cW h h_sea h_fast h_level h_ridged h_channel h_arrived f_laid f_grown f_melted f_rows f_columns r_fast r_sea Q A) args s 0 0 A) (F0 m 67 ls []) := by
  obtain ⟨hx, hb, hr, hml, hown, hts, hlocks⟩ := id hC
  intro x1 x2 x3 f_rows f_columns r_arrived r_fast r_level r_ridged r_sea H locs ls hw hP hD hS hl
  refine lv_iinc (v := (x3 + (1 : Int32))) (lv' := [(3, .int (x3 + (1 : Int32))), (0, .ref h), (1, .int x1), (2, .int x2)]) hx hb dX3_drift_67 hl (k := 3) rfl rfl (by decide) rfl (fun ls hl => ?_)
  refine lv_goto (tgt := 15) hx hb dX3_drift_70 (by decide) ?_
  exact hk_15 x1 x2 (x3 + (1 : Int32)) f_rows f_columns r_arrived r_fast r_level r_ridged r_sea _ _ ls hw (hP.sub [0, 1, 2, 3, 4, 5] rfl) (hD.sub [0, 1, 2, 3, 4, 5] (by decide) rfl) hS (lv_sub hl [1, 2, 3, 0] rfl)
set_option maxHeartbeats 4000000 in
set_option maxRecDepth 100000 in
theorem tX3_drift_75 {p : Program} {l : Launch} {e : Env} {s : State} {m : MethodId} {args : Array Value} {below : List Frame} {meth : Method} {c : Code} {dC : Nat → ClassId} {dI : Nat → Nat → Nat} {cI cZ cO cW : ClassId} {A : Nat → Prop} {h h_sea h_fast h_level h_ridged h_channel h_arrived : Nat} {f_laid f_grown f_melted : Int32} {Q : (Nat → Int32) → (Nat → Int32) → (Nat → Int32) → Prop}  (hC : Cx p s m args meth c cX3_drift none 5 GW RX3) (hK : va_K (dC, dI) vwCl (tysA cI cZ cO cW) s) (hA : ∀ q : Nat, s.heap.size ≤ q → A q) :
    ∀ (n : Nat) (x3 : Int32) (f_rows : Int32) (f_columns : Int32) (r_arrived : (Nat → Int32)) (r_fast : (Nat → Int32)) (r_level : (Nat → Int32)) (r_ridged : (Nat → Int32)) (r_sea : (Nat → Int32)) (H : Heap) (locs : List Loc) (ls : Array Slot), wX3_drift_75 Q  n x3 f_rows f_columns r_arrived r_fast r_level r_ridged r_sea → va_P (dC, dI) vwCl (vX3_drift cI cZ h h_sea h_fast h_level h_ridged h_channel h_arrived f_laid f_grown f_melted f_rows f_columns r_arrived r_fast r_level r_ridged r_sea) H → va_D A (vX3_drift cI cZ h h_sea h_fast h_level h_ridged h_channel h_arrived f_laid f_grown f_melted f_rows f_columns r_arrived r_fast r_level r_ridged r_sea) → va_S A s.heap H locs → lv_has ls 5 [(0, .ref h), (3, .int x3)] → W p l e rmX3_drift s m args below meth c H locs 0 0 (MQ below (qX3_drift dC dI cI cZ cO cW h h_sea h_fast h_level h_ridged h_channel h_arrived f_laid f_grown f_melted f_rows f_columns r_fast r_sea Q A) args s 0 0 A) (F0 m 75 ls []) := by
  obtain ⟨hx, hb, hr, hml, hown, hts, hlocks⟩ := id hC
  intro n
  induction n with
  | zero =>
    intro  x3 f_rows f_columns r_arrived r_fast r_level r_ridged r_sea H locs ls hw
    exact hw.elim
  | succ n ih =>
    intro  x3 f_rows f_columns r_arrived r_fast r_level r_ridged r_sea H locs ls hw hP hD hS hl
    refine lv_iload_n hx hb dX3_drift_75 rfl (lv_at hl 1 rfl) ?_
    refine lv_aload_n hx hb dX3_drift_76 rfl (lv_at hl 0 rfl) ?_
    refine va_get (D := (dC, dI)) (ci := 3) (v := .int f_rows) (C := RX3) (T := TX3) (N := 11) hx hb hts gu_X3 hown hK hP 0 rfl rfl 6 (by decide) (hts _ gw_81) (fun _ h9 => h9) rfl dX3_drift_77 ?_
    refine lv_bipush (v := (8 : Int32)) hx hb dX3_drift_80 (by decide) ?_
    refine lv_imul hx hb dX3_drift_82 ?_
    refine lv_icmp_ge (tgt := 138) hx hb dX3_drift_83 (by decide) (fun c_1 => ?_) (fun c_1 => ?_)
    · have hw := hw.1 c_1
      have hP9 := hP.sub (ws' := (vX3_drift cI cZ h h_sea h_fast h_level h_ridged h_channel h_arrived f_laid f_grown f_melted f_rows f_columns r_arrived r_fast r_level r_ridged r_sea)) [0, 1, 2, 3, 4, 5] rfl
      have hD9 := hD.sub (ws' := (vX3_drift cI cZ h h_sea h_fast h_level h_ridged h_channel h_arrived f_laid f_grown f_melted f_rows f_columns r_arrived r_fast r_level r_ridged r_sea)) [0, 1, 2, 3, 4, 5] (by decide) rfl
      exact W.vret hx hb hr (fun t ht hW => ⟨⟨(r_arrived, r_level, r_ridged), rfl, hw, by rw [ht]; exact hP9, va_K.moved hW.alike hK, hD9⟩, hS.F ht⟩) hS.2.2 dX3_drift_138
    · have hw := hw.2 c_1
      refine lv_aload_n hx hb dX3_drift_86 rfl (lv_at hl 0 rfl) ?_
      refine va_get (D := (dC, dI)) (ci := 3) (v := .ref h_level) (C := RX3) (T := TX3) (N := 11) hx hb hts gu_X3 hown hK hP 0 rfl rfl 2 (by decide) (hts _ gw_77) (fun _ h9 => h9) rfl dX3_drift_87 ?_
      refine lv_iload_n hx hb dX3_drift_90 rfl (lv_at hl 1 rfl) ?_
      obtain ⟨h_2, hw⟩ := hw
      refine va_iald hx hb hK hP 3 0 rfl rfl h_2 dX3_drift_91 ?_
      refine lv_aload_n hx hb dX3_drift_92 rfl (lv_at hl 0 rfl) ?_
      refine va_get (D := (dC, dI)) (ci := 3) (v := .ref h_arrived) (C := RX3) (T := TX3) (N := 11) hx hb hts gu_X3 hown hK hP 0 rfl rfl 5 (by decide) (hts _ gw_80) (fun _ h9 => h9) rfl dX3_drift_93 ?_
      refine lv_iload_n hx hb dX3_drift_96 rfl (lv_at hl 1 rfl) ?_
      obtain ⟨h_3, hw⟩ := hw
      refine va_iald hx hb hK hP 1 0 rfl rfl h_3 dX3_drift_97 ?_
      refine lv_iadd hx hb dX3_drift_98 ?_
      refine lv_istore (lv' := [(4, .int ((r_level x3.toNatClampNeg) + (r_arrived x3.toNatClampNeg))), (0, .ref h), (3, .int x3)]) hx hb dX3_drift_99 hl (by decide) rfl (fun ls hl => ?_)
      refine lv_aload_n hx hb dX3_drift_101 rfl (lv_at hl 1 rfl) ?_
      refine va_get (D := (dC, dI)) (ci := 3) (v := .ref h_level) (C := RX3) (T := TX3) (N := 11) hx hb hts gu_X3 hown hK hP 0 rfl rfl 2 (by decide) (hts _ gw_77) (fun _ h9 => h9) rfl dX3_drift_102 ?_
      refine lv_iload_n hx hb dX3_drift_105 rfl (lv_at hl 2 rfl) ?_
      refine lv_iload hx hb dX3_drift_106 (lv_at hl 0 rfl) ?_
      refine lv_bipush (v := (100 : Int32)) hx hb dX3_drift_108 (by decide) ?_
      refine va_mmin hx hb (hml.trans hl.1.symm) hown (hts _ gw_209) (hts _ gw_210) (hts _ gw_21) (hts _ gw_211) (Nat.le_of_ble_eq_true rfl) (Nat.le_of_ble_eq_true rfl) (Nat.zero_le _) (Nat.zero_le _) dX3_drift_110 ?_
      obtain ⟨h_4, hw⟩ := hw
      refine va_iast hx hb hK hP hD hS 3 0 rfl rfl h_4 dX3_drift_113 (fun H locs hP hD hS => ?_)
      have hP : va_P (dC, dI) vwCl [(h, .inr (3, [.ref h_sea, .ref h_fast, .ref h_level, .ref h_ridged, .ref h_channel, .ref h_arrived, .int f_rows, .int f_columns, .int f_laid, .int f_grown, .int f_melted])), (h_arrived, .inl (cI, 64, .inl r_arrived)), (h_fast, .inl (cZ, 64, .inl r_fast)), (h_level, .inl (cI, 64, .inl (upd r_level x3.toNatClampNeg (if (100 : Int32) < ((r_level x3.toNatClampNeg) + (r_arrived x3.toNatClampNeg)) then (100 : Int32) else ((r_level x3.toNatClampNeg) + (r_arrived x3.toNatClampNeg)))))), (h_ridged, .inl (cI, 64, .inl r_ridged)), (h_sea, .inl (cZ, 64, .inl r_sea))] _ := hP
      have hD : va_D A [(h, .inr (3, [.ref h_sea, .ref h_fast, .ref h_level, .ref h_ridged, .ref h_channel, .ref h_arrived, .int f_rows, .int f_columns, .int f_laid, .int f_grown, .int f_melted])), (h_arrived, .inl (cI, 64, .inl r_arrived)), (h_fast, .inl (cZ, 64, .inl r_fast)), (h_level, .inl (cI, 64, .inl (upd r_level x3.toNatClampNeg (if (100 : Int32) < ((r_level x3.toNatClampNeg) + (r_arrived x3.toNatClampNeg)) then (100 : Int32) else ((r_level x3.toNatClampNeg) + (r_arrived x3.toNatClampNeg)))))), (h_ridged, .inl (cI, 64, .inl r_ridged)), (h_sea, .inl (cZ, 64, .inl r_sea))] := hD
      refine lv_aload_n hx hb dX3_drift_114 rfl (lv_at hl 1 rfl) ?_
      refine va_get (D := (dC, dI)) (ci := 3) (v := .ref h_ridged) (C := RX3) (T := TX3) (N := 11) hx hb hts gu_X3 hown hK hP 0 rfl rfl 3 (by decide) (hts _ gw_78) (fun _ h9 => h9) rfl dX3_drift_115 ?_
      refine lv_iload_n hx hb dX3_drift_118 rfl (lv_at hl 2 rfl) ?_
      refine lv_dup2_11 hx hb dX3_drift_119 rfl rfl ?_
      obtain ⟨h_5, hw⟩ := hw
      refine va_iald hx hb hK hP 4 0 rfl rfl h_5 dX3_drift_120 ?_
      refine lv_iload hx hb dX3_drift_121 (lv_at hl 0 rfl) ?_
      refine lv_aload_n hx hb dX3_drift_123 rfl (lv_at hl 1 rfl) ?_
      refine va_get (D := (dC, dI)) (ci := 3) (v := .ref h_level) (C := RX3) (T := TX3) (N := 11) hx hb hts gu_X3 hown hK hP 0 rfl rfl 2 (by decide) (hts _ gw_77) (fun _ h9 => h9) rfl dX3_drift_124 ?_
      refine lv_iload_n hx hb dX3_drift_127 rfl (lv_at hl 2 rfl) ?_
      obtain ⟨h_6, hw⟩ := hw
      refine va_iald hx hb hK hP 3 0 rfl rfl h_6 dX3_drift_128 ?_
      refine lv_isub hx hb dX3_drift_129 ?_
      refine lv_iadd hx hb dX3_drift_130 ?_
      obtain ⟨h_7, hw⟩ := hw
      refine va_iast hx hb hK hP hD hS 4 0 rfl rfl h_7 dX3_drift_131 (fun H locs hP hD hS => ?_)
      have hP : va_P (dC, dI) vwCl [(h, .inr (3, [.ref h_sea, .ref h_fast, .ref h_level, .ref h_ridged, .ref h_channel, .ref h_arrived, .int f_rows, .int f_columns, .int f_laid, .int f_grown, .int f_melted])), (h_arrived, .inl (cI, 64, .inl r_arrived)), (h_fast, .inl (cZ, 64, .inl r_fast)), (h_level, .inl (cI, 64, .inl (upd r_level x3.toNatClampNeg (if (100 : Int32) < ((r_level x3.toNatClampNeg) + (r_arrived x3.toNatClampNeg)) then (100 : Int32) else ((r_level x3.toNatClampNeg) + (r_arrived x3.toNatClampNeg)))))), (h_ridged, .inl (cI, 64, .inl (upd r_ridged x3.toNatClampNeg ((r_ridged x3.toNatClampNeg) + (((r_level x3.toNatClampNeg) + (r_arrived x3.toNatClampNeg)) - ((upd r_level x3.toNatClampNeg (if (100 : Int32) < ((r_level x3.toNatClampNeg) + (r_arrived x3.toNatClampNeg)) then (100 : Int32) else ((r_level x3.toNatClampNeg) + (r_arrived x3.toNatClampNeg)))) x3.toNatClampNeg)))))), (h_sea, .inl (cZ, 64, .inl r_sea))] _ := hP
      have hD : va_D A [(h, .inr (3, [.ref h_sea, .ref h_fast, .ref h_level, .ref h_ridged, .ref h_channel, .ref h_arrived, .int f_rows, .int f_columns, .int f_laid, .int f_grown, .int f_melted])), (h_arrived, .inl (cI, 64, .inl r_arrived)), (h_fast, .inl (cZ, 64, .inl r_fast)), (h_level, .inl (cI, 64, .inl (upd r_level x3.toNatClampNeg (if (100 : Int32) < ((r_level x3.toNatClampNeg) + (r_arrived x3.toNatClampNeg)) then (100 : Int32) else ((r_level x3.toNatClampNeg) + (r_arrived x3.toNatClampNeg)))))), (h_ridged, .inl (cI, 64, .inl (upd r_ridged x3.toNatClampNeg ((r_ridged x3.toNatClampNeg) + (((r_level x3.toNatClampNeg) + (r_arrived x3.toNatClampNeg)) - ((upd r_level x3.toNatClampNeg (if (100 : Int32) < ((r_level x3.toNatClampNeg) + (r_arrived x3.toNatClampNeg)) then (100 : Int32) else ((r_level x3.toNatClampNeg) + (r_arrived x3.toNatClampNeg)))) x3.toNatClampNeg)))))), (h_sea, .inl (cZ, 64, .inl r_sea))] := hD
      refine lv_iinc (v := (x3 + (1 : Int32))) (lv' := [(3, .int (x3 + (1 : Int32))), (4, .int ((r_level x3.toNatClampNeg) + (r_arrived x3.toNatClampNeg))), (0, .ref h)]) hx hb dX3_drift_132 hl (k := 2) rfl rfl (by decide) rfl (fun ls hl => ?_)
      refine lv_goto (tgt := 75) hx hb dX3_drift_135 (by decide) ?_
      exact ih (x3 + (1 : Int32)) f_rows f_columns r_arrived r_fast (upd r_level x3.toNatClampNeg (if (100 : Int32) < ((r_level x3.toNatClampNeg) + (r_arrived x3.toNatClampNeg)) then (100 : Int32) else ((r_level x3.toNatClampNeg) + (r_arrived x3.toNatClampNeg)))) (upd r_ridged x3.toNatClampNeg ((r_ridged x3.toNatClampNeg) + (((r_level x3.toNatClampNeg) + (r_arrived x3.toNatClampNeg)) - ((upd r_level x3.toNatClampNeg (if (100 : Int32) < ((r_level x3.toNatClampNeg) + (r_arrived x3.toNatClampNeg)) then (100 : Int32) else ((r_level x3.toNatClampNeg) + (r_arrived x3.toNatClampNeg)))) x3.toNatClampNeg)))) r_sea _ _ ls hw (hP.sub [0, 1, 2, 3, 4, 5] rfl) (hD.sub [0, 1, 2, 3, 4, 5] (by decide) rfl) hS (lv_sub hl [2, 0] rfl)
set_option maxHeartbeats 4000000 in
set_option maxRecDepth 100000 in
theorem tX3_drift_15 {p : Program} {l : Launch} {e : Env} {s : State} {m : MethodId} {args : Array Value} {below : List Frame} {meth : Method} {c : Code} {dC : Nat → ClassId} {dI : Nat → Nat → Nat} {cI cZ cO cW : ClassId} {A : Nat → Prop} {h h_sea h_fast h_level h_ridged h_channel h_arrived : Nat} {f_laid f_grown f_melted : Int32} {Q : (Nat → Int32) → (Nat → Int32) → (Nat → Int32) → Prop}  (hC : Cx p s m args meth c cX3_drift none 5 GW RX3) (hK : va_K (dC, dI) vwCl (tysA cI cZ cO cW) s) (hA : ∀ q : Nat, s.heap.size ≤ q → A q) :
    ∀ (n : Nat) (x1 : Int32) (x2 : Int32) (x3 : Int32) (f_rows : Int32) (f_columns : Int32) (r_arrived : (Nat → Int32)) (r_fast : (Nat → Int32)) (r_level : (Nat → Int32)) (r_ridged : (Nat → Int32)) (r_sea : (Nat → Int32)) (H : Heap) (locs : List Loc) (ls : Array Slot), wX3_drift_15 Q  n x1 x2 x3 f_rows f_columns r_arrived r_fast r_level r_ridged r_sea → va_P (dC, dI) vwCl (vX3_drift cI cZ h h_sea h_fast h_level h_ridged h_channel h_arrived f_laid f_grown f_melted f_rows f_columns r_arrived r_fast r_level r_ridged r_sea) H → va_D A (vX3_drift cI cZ h h_sea h_fast h_level h_ridged h_channel h_arrived f_laid f_grown f_melted f_rows f_columns r_arrived r_fast r_level r_ridged r_sea) → va_S A s.heap H locs → lv_has ls 5 [(0, .ref h), (1, .int x1), (2, .int x2), (3, .int x3)] → W p l e rmX3_drift s m args below meth c H locs 0 0 (MQ below (qX3_drift dC dI cI cZ cO cW h h_sea h_fast h_level h_ridged h_channel h_arrived f_laid f_grown f_melted f_rows f_columns r_fast r_sea Q A) args s 0 0 A) (F0 m 15 ls []) := by
  obtain ⟨hx, hb, hr, hml, hown, hts, hlocks⟩ := id hC
  intro n
  induction n with
  | zero =>
    intro  x1 x2 x3 f_rows f_columns r_arrived r_fast r_level r_ridged r_sea H locs ls hw
    exact hw.elim
  | succ n ih =>
    intro  x1 x2 x3 f_rows f_columns r_arrived r_fast r_level r_ridged r_sea H locs ls hw hP hD hS hl
    refine lv_iload_n hx hb dX3_drift_15 rfl (lv_at hl 3 rfl) ?_
    refine lv_aload_n hx hb dX3_drift_16 rfl (lv_at hl 0 rfl) ?_
    refine va_get (D := (dC, dI)) (ci := 3) (v := .int f_rows) (C := RX3) (T := TX3) (N := 11) hx hb hts gu_X3 hown hK hP 0 rfl rfl 6 (by decide) (hts _ gw_81) (fun _ h9 => h9) rfl dX3_drift_17 ?_
    refine lv_bipush (v := (8 : Int32)) hx hb dX3_drift_20 (by decide) ?_
    refine lv_imul hx hb dX3_drift_22 ?_
    refine lv_icmp_ge (tgt := 73) hx hb dX3_drift_23 (by decide) (fun c_8 => ?_) (fun c_8 => ?_)
    · have hw := hw.1 c_8
      refine lv_iconst (v := (0 : Int32)) hx hb dX3_drift_73 (by decide) ?_
      refine lv_istore_n (lv' := [(3, .int (0 : Int32)), (0, .ref h), (1, .int x1), (2, .int x2)]) hx hb dX3_drift_74 rfl hl (by decide) rfl (fun ls hl => ?_)
      obtain ⟨n_9, hw⟩ := hw
      exact tX3_drift_75 hC hK hA  n_9 (0 : Int32) f_rows f_columns r_arrived r_fast r_level r_ridged r_sea _ _ ls hw (hP.sub [0, 1, 2, 3, 4, 5] rfl) (hD.sub [0, 1, 2, 3, 4, 5] (by decide) rfl) hS (lv_sub hl [1, 0] rfl)
    · have hw := hw.2 c_8
      refine lv_aload_n hx hb dX3_drift_26 rfl (lv_at hl 0 rfl) ?_
      refine va_get (D := (dC, dI)) (ci := 3) (v := .ref h_sea) (C := RX3) (T := TX3) (N := 11) hx hb hts gu_X3 hown hK hP 0 rfl rfl 0 (by decide) (hts _ gw_75) (fun _ h9 => h9) rfl dX3_drift_27 ?_
      refine lv_iload_n hx hb dX3_drift_30 rfl (lv_at hl 3 rfl) ?_
      obtain ⟨h_10, hw⟩ := hw
      refine va_zald hx hb hK hP 5 1 rfl rfl h_10 dX3_drift_31 ?_
      refine lv_if_eq (tgt := 67) hx hb dX3_drift_32 (by decide) (fun c_11 => ?_) (fun c_11 => ?_)
      · have hw := hw.1 c_11
        exact tX3_drift_67 hC hK hA ih x1 x2 x3 f_rows f_columns r_arrived r_fast r_level r_ridged r_sea _ _ ls hw (hP.sub [0, 1, 2, 3, 4, 5] rfl) (hD.sub [0, 1, 2, 3, 4, 5] (by decide) rfl) hS (lv_sub hl [0, 1, 2, 3] rfl)
      · have hw := hw.2 c_11
        refine lv_aload_n hx hb dX3_drift_35 rfl (lv_at hl 0 rfl) ?_
        refine va_get (D := (dC, dI)) (ci := 3) (v := .ref h_fast) (C := RX3) (T := TX3) (N := 11) hx hb hts gu_X3 hown hK hP 0 rfl rfl 1 (by decide) (hts _ gw_76) (fun _ h9 => h9) rfl dX3_drift_36 ?_
        refine lv_iload_n hx hb dX3_drift_39 rfl (lv_at hl 3 rfl) ?_
        obtain ⟨h_12, hw⟩ := hw
        refine va_zald hx hb hK hP 2 1 rfl rfl h_12 dX3_drift_40 ?_
        refine lv_if_ne (tgt := 67) hx hb dX3_drift_41 (by decide) (fun c_13 => ?_) (fun c_13 => ?_)
        · have hw := hw.1 c_13
          exact tX3_drift_67 hC hK hA ih x1 x2 x3 f_rows f_columns r_arrived r_fast r_level r_ridged r_sea _ _ ls hw (hP.sub [0, 1, 2, 3, 4, 5] rfl) (hD.sub [0, 1, 2, 3, 4, 5] (by decide) rfl) hS (lv_sub hl [0, 1, 2, 3] rfl)
        · have hw := hw.2 c_13
          refine lv_aload_n hx hb dX3_drift_44 rfl (lv_at hl 0 rfl) ?_
          refine lv_iload_n hx hb dX3_drift_45 rfl (lv_at hl 3 rfl) ?_
          refine lv_aload_n hx hb dX3_drift_46 rfl (lv_at hl 0 rfl) ?_
          refine lv_iload_n hx hb dX3_drift_47 rfl (lv_at hl 3 rfl) ?_
          refine lv_iload_n hx hb dX3_drift_48 rfl (lv_at hl 1 rfl) ?_
          have hPc := hP.sub (ws' := [(h, .inr (3, [.ref h_sea, .ref h_fast, .ref h_level, .ref h_ridged, .ref h_channel, .ref h_arrived, .int f_rows, .int f_columns, .int f_laid, .int f_grown, .int f_melted]))]) [0] rfl
          have hDc := hD.sub (ws' := [(h, .inr (3, [.ref h_sea, .ref h_fast, .ref h_level, .ref h_ridged, .ref h_channel, .ref h_arrived, .int f_rows, .int f_columns, .int f_laid, .int f_grown, .int f_melted]))]) [0] (by decide) rfl
          have hFc := va_free (wc := [(h, .inr (3, [.ref h_sea, .ref h_fast, .ref h_level, .ref h_ridged, .ref h_channel, .ref h_arrived, .int f_rows, .int f_columns, .int f_laid, .int f_grown, .int f_melted]))]) hD hS hA [0] rfl
          refine va_calli (va_runV (As := [.int x3, .int x1]) (rest := [.int x3, .ref h]) ⟨hx, hb, hml, hown, hts⟩ (kX3_next l dC dI cI cZ cO cW h h_sea h_fast h_level h_ridged h_channel h_arrived H.size f_laid f_grown f_melted f_rows f_columns x3 x1 _ hw) (cwV 2 hts (gV gw_215 gw_145 gw_146 gw_89 (gM gw_139)) rfl rfl rfl (by decide +kernel) ⟨Nat.le_of_ble_eq_true rfl, Nat.le_of_ble_eq_true rfl⟩) (pv_of hPc hK hDc (va_recv hK hPc (ci := 3) (q0 := 0) rfl rfl)) rfl rfl hl.1 rfl (lv_room (Nat.le_of_ble_eq_true rfl)) dX3_drift_49 ⟨Nat.zero_le _, Nat.zero_le _⟩) hS (fun q _ h => hFc q h) hFc (fun r_14 u t H locs ht hvm hw hB hz1 hk1 hS => ?_)
          obtain ⟨hP, hD⟩ := af_join (wr := [(h_arrived, .inl (cI, 64, .inl r_arrived)), (h_fast, .inl (cZ, 64, .inl r_fast)), (h_level, .inl (cI, 64, .inl r_level)), (h_ridged, .inl (cI, 64, .inl r_ridged)), (h_sea, .inl (cZ, 64, .inl r_sea))]) (w1 := [(h, .inr (3, [.ref h_sea, .ref h_fast, .ref h_level, .ref h_ridged, .ref h_channel, .ref h_arrived, .int f_rows, .int f_columns, .int f_laid, .int f_grown, .int f_melted]))]) hB ht hP hD [0] [1, 2, 3, 4, 5] rfl rfl (by decide) (by decide) hk1 hFc
          have hP : va_P (dC, dI) vwCl [(h_arrived, .inl (cI, 64, .inl r_arrived)), (h_fast, .inl (cZ, 64, .inl r_fast)), (h_level, .inl (cI, 64, .inl r_level)), (h_ridged, .inl (cI, 64, .inl r_ridged)), (h_sea, .inl (cZ, 64, .inl r_sea)), (h, .inr (3, [.ref h_sea, .ref h_fast, .ref h_level, .ref h_ridged, .ref h_channel, .ref h_arrived, .int f_rows, .int f_columns, .int f_laid, .int f_grown, .int f_melted]))] _ := hP
          have hD : va_D A [(h_arrived, .inl (cI, 64, .inl r_arrived)), (h_fast, .inl (cZ, 64, .inl r_fast)), (h_level, .inl (cI, 64, .inl r_level)), (h_ridged, .inl (cI, 64, .inl r_ridged)), (h_sea, .inl (cZ, 64, .inl r_sea)), (h, .inr (3, [.ref h_sea, .ref h_fast, .ref h_level, .ref h_ridged, .ref h_channel, .ref h_arrived, .int f_rows, .int f_columns, .int f_laid, .int f_grown, .int f_melted]))] := hD
          refine lv_aload_n hx hb dX3_drift_52 rfl (lv_at hl 0 rfl) ?_
          refine va_get (D := (dC, dI)) (ci := 3) (v := .ref h_level) (C := RX3) (T := TX3) (N := 11) hx hb hts gu_X3 hown hK hP 5 rfl rfl 2 (by decide) (hts _ gw_77) (fun _ h9 => h9) rfl dX3_drift_53 ?_
          refine lv_iload_n hx hb dX3_drift_56 rfl (lv_at hl 3 rfl) ?_
          obtain ⟨h_15, hw⟩ := hw
          refine va_iald hx hb hK hP 2 0 rfl rfl h_15 dX3_drift_57 ?_
          refine lv_iload_n hx hb dX3_drift_58 rfl (lv_at hl 2 rfl) ?_
          refine lv_imul hx hb dX3_drift_59 ?_
          refine lv_sipush (v := (200 : Int32)) hx hb dX3_drift_60 (by decide) ?_
          refine lv_idiv hx hb dX3_drift_63 (by decide) ?_
          have hPc := hP.sub (ws' := [(h, .inr (3, [.ref h_sea, .ref h_fast, .ref h_level, .ref h_ridged, .ref h_channel, .ref h_arrived, .int f_rows, .int f_columns, .int f_laid, .int f_grown, .int f_melted])), (h_arrived, .inl (cI, 64, .inl r_arrived)), (h_level, .inl (cI, 64, .inl r_level)), (h_sea, .inl (cZ, 64, .inl r_sea))]) [5, 0, 2, 4] rfl
          have hDc := hD.sub (ws' := [(h, .inr (3, [.ref h_sea, .ref h_fast, .ref h_level, .ref h_ridged, .ref h_channel, .ref h_arrived, .int f_rows, .int f_columns, .int f_laid, .int f_grown, .int f_melted])), (h_arrived, .inl (cI, 64, .inl r_arrived)), (h_level, .inl (cI, 64, .inl r_level)), (h_sea, .inl (cZ, 64, .inl r_sea))]) [5, 0, 2, 4] (by decide) rfl
          have hFc := va_free (wc := [(h, .inr (3, [.ref h_sea, .ref h_fast, .ref h_level, .ref h_ridged, .ref h_channel, .ref h_arrived, .int f_rows, .int f_columns, .int f_laid, .int f_grown, .int f_melted])), (h_arrived, .inl (cI, 64, .inl r_arrived)), (h_level, .inl (cI, 64, .inl r_level)), (h_sea, .inl (cZ, 64, .inl r_sea))]) hD hS hA [5, 0, 2, 4] rfl
          refine va_callv (va_runV (As := [.int x3, .int r_14, .int (((r_level x3.toNatClampNeg) * x2) / (200 : Int32))]) (rest := []) ⟨hx, hb, hml, hown, hts⟩ (kX3_send l dC dI cI cZ cO cW h h_sea h_fast h_level h_ridged h_channel h_arrived H.size f_rows f_columns f_laid f_grown f_melted r_arrived r_level r_sea x3 r_14 (((r_level x3.toNatClampNeg) * x2) / (200 : Int32)) _ hw) (cwV 3 hts (gV gw_216 gw_217 gw_218 gw_89 (gM gw_208)) rfl rfl rfl (by decide +kernel) ⟨Nat.le_of_ble_eq_true rfl, Nat.le_of_ble_eq_true rfl⟩) (pv_of hPc hK hDc (va_recv hK hPc (ci := 3) (q0 := 0) rfl rfl)) rfl rfl hl.1 rfl (lv_room (Nat.le_of_ble_eq_true rfl)) dX3_drift_64 ⟨Nat.zero_le _, Nat.zero_le _⟩) hS (fun q _ h => hFc q h) hFc (fun u t H locs ht hvm hw hB hz1 hk1 hS => ?_)
          obtain ⟨r_arrived_16, r_level_17⟩ := u
          obtain ⟨hP, hD⟩ := af_join (wr := [(h_fast, .inl (cZ, 64, .inl r_fast)), (h_ridged, .inl (cI, 64, .inl r_ridged))]) (w1 := [(h, .inr (3, [.ref h_sea, .ref h_fast, .ref h_level, .ref h_ridged, .ref h_channel, .ref h_arrived, .int f_rows, .int f_columns, .int f_laid, .int f_grown, .int f_melted])), (h_arrived, .inl (cI, 64, .inl r_arrived_16)), (h_level, .inl (cI, 64, .inl r_level_17)), (h_sea, .inl (cZ, 64, .inl r_sea))]) hB ht hP hD [5, 0, 2, 4] [1, 3] rfl rfl (by decide) (by decide) hk1 hFc
          have hP : va_P (dC, dI) vwCl [(h_fast, .inl (cZ, 64, .inl r_fast)), (h_ridged, .inl (cI, 64, .inl r_ridged)), (h, .inr (3, [.ref h_sea, .ref h_fast, .ref h_level, .ref h_ridged, .ref h_channel, .ref h_arrived, .int f_rows, .int f_columns, .int f_laid, .int f_grown, .int f_melted])), (h_arrived, .inl (cI, 64, .inl r_arrived_16)), (h_level, .inl (cI, 64, .inl r_level_17)), (h_sea, .inl (cZ, 64, .inl r_sea))] _ := hP
          have hD : va_D A [(h_fast, .inl (cZ, 64, .inl r_fast)), (h_ridged, .inl (cI, 64, .inl r_ridged)), (h, .inr (3, [.ref h_sea, .ref h_fast, .ref h_level, .ref h_ridged, .ref h_channel, .ref h_arrived, .int f_rows, .int f_columns, .int f_laid, .int f_grown, .int f_melted])), (h_arrived, .inl (cI, 64, .inl r_arrived_16)), (h_level, .inl (cI, 64, .inl r_level_17)), (h_sea, .inl (cZ, 64, .inl r_sea))] := hD
          exact tX3_drift_67 hC hK hA ih x1 x2 x3 f_rows f_columns r_arrived_16 r_fast r_level_17 r_ridged r_sea _ _ ls hw (hP.sub [2, 3, 0, 4, 1, 5] rfl) (hD.sub [2, 3, 0, 4, 1, 5] (by decide) rfl) hS (lv_sub hl [0, 1, 2, 3] rfl)
set_option maxHeartbeats 4000000 in
set_option maxRecDepth 100000 in
theorem tX3_drift_e {p : Program} {l : Launch} {e : Env} {s : State} {m : MethodId} {args : Array Value} {below : List Frame} {meth : Method} {c : Code} {dC : Nat → ClassId} {dI : Nat → Nat → Nat} {cI cZ cO cW : ClassId} {A : Nat → Prop} {h h_sea h_fast h_level h_ridged h_channel h_arrived : Nat} {f_laid f_grown f_melted : Int32} {Q : (Nat → Int32) → (Nat → Int32) → (Nat → Int32) → Prop} (hC : Cx p s m args meth c cX3_drift none 5 GW RX3) (hK : va_K (dC, dI) vwCl (tysA cI cZ cO cW) s) (hA : ∀ q : Nat, s.heap.size ≤ q → A q) :
    ∀ (x1 : Int32) (x2 : Int32) (f_rows : Int32) (f_columns : Int32) (r_arrived : Nat → Int32) (r_fast : Nat → Int32) (r_level : Nat → Int32) (r_ridged : Nat → Int32) (r_sea : Nat → Int32) (H : Heap) (locs : List Loc) (ls : Array Slot), wX3_drift Q x1 x2 f_rows f_columns r_arrived r_fast r_level r_ridged r_sea → va_P (dC, dI) vwCl (vX3_drift cI cZ h h_sea h_fast h_level h_ridged h_channel h_arrived f_laid f_grown f_melted f_rows f_columns r_arrived r_fast r_level r_ridged r_sea) H → va_D A (vX3_drift cI cZ h h_sea h_fast h_level h_ridged h_channel h_arrived f_laid f_grown f_melted f_rows f_columns r_arrived r_fast r_level r_ridged r_sea) → va_S A s.heap H locs → lv_has ls 5 [(0, .ref h), (1, .int x1), (2, .int x2)] → W p l e rmX3_drift s m args below meth c H locs 0 0 (MQ below (qX3_drift dC dI cI cZ cO cW h h_sea h_fast h_level h_ridged h_channel h_arrived f_laid f_grown f_melted f_rows f_columns r_fast r_sea Q A) args s 0 0 A) (F0 m 0 ls []) := by
  obtain ⟨hx, hb, hr, hml, hown, hts, hlocks⟩ := id hC
  intro x1 x2 f_rows f_columns r_arrived r_fast r_level r_ridged r_sea H locs ls hw hP hD hS hl
  refine lv_aload_n hx hb dX3_drift_0 rfl (lv_at hl 0 rfl) ?_
  refine va_get (D := (dC, dI)) (ci := 3) (v := .ref h_arrived) (C := RX3) (T := TX3) (N := 11) hx hb hts gu_X3 hown hK hP 0 rfl rfl 5 (by decide) (hts _ gw_80) (fun _ h9 => h9) rfl dX3_drift_1 ?_
  refine lv_iconst (v := (0 : Int32)) hx hb dX3_drift_4 (by decide) ?_
  have hPc := hP.sub (ws' := [(h_arrived, .inl (cI, 64, .inl r_arrived))]) [1] rfl
  have hDc := hD.sub (ws' := [(h_arrived, .inl (cI, 64, .inl r_arrived))]) [1] (by decide) rfl
  have hFc := va_free (wc := [(h_arrived, .inl (cI, 64, .inl r_arrived))]) hD hS hA [1] rfl
  refine va_callv (va_runS (As := [.ref h_arrived, .int (0 : Int32)]) (rest := []) ⟨hx, hb, hml, hown, hts⟩ (kJ7_fill_53178 l dC dI cI cZ cO cW h_arrived H.size 64 r_arrived (0 : Int32) _ hw) (va_cwS 2 hts (gS gw_212 gw_213 gw_214 (gM gw_207)) rfl rfl rfl (by decide +kernel) ⟨Nat.le_of_ble_eq_true rfl, Nat.le_of_ble_eq_true rfl⟩) (ps_of hPc hK hDc) rfl rfl hl.1 rfl (lv_room (Nat.le_of_ble_eq_true rfl)) dX3_drift_5 ⟨Nat.zero_le _, Nat.zero_le _⟩) hS (fun q _ h => hFc q h) hFc (fun u t H locs ht hvm hw hB hz1 hk1 hS => ?_)
  obtain ⟨r_arrived_18, rfl⟩ : ∃ z, z = u := ⟨_, rfl⟩
  obtain ⟨hP, hD⟩ := af_join (wr := [(h, .inr (3, [.ref h_sea, .ref h_fast, .ref h_level, .ref h_ridged, .ref h_channel, .ref h_arrived, .int f_rows, .int f_columns, .int f_laid, .int f_grown, .int f_melted])), (h_fast, .inl (cZ, 64, .inl r_fast)), (h_level, .inl (cI, 64, .inl r_level)), (h_ridged, .inl (cI, 64, .inl r_ridged)), (h_sea, .inl (cZ, 64, .inl r_sea))]) (w1 := [(h_arrived, .inl (cI, 64, .inl r_arrived_18))]) hB ht hP hD [1] [0, 2, 3, 4, 5] rfl rfl (by decide) (by decide) hk1 hFc
  have hP : va_P (dC, dI) vwCl [(h, .inr (3, [.ref h_sea, .ref h_fast, .ref h_level, .ref h_ridged, .ref h_channel, .ref h_arrived, .int f_rows, .int f_columns, .int f_laid, .int f_grown, .int f_melted])), (h_fast, .inl (cZ, 64, .inl r_fast)), (h_level, .inl (cI, 64, .inl r_level)), (h_ridged, .inl (cI, 64, .inl r_ridged)), (h_sea, .inl (cZ, 64, .inl r_sea)), (h_arrived, .inl (cI, 64, .inl r_arrived_18))] _ := hP
  have hD : va_D A [(h, .inr (3, [.ref h_sea, .ref h_fast, .ref h_level, .ref h_ridged, .ref h_channel, .ref h_arrived, .int f_rows, .int f_columns, .int f_laid, .int f_grown, .int f_melted])), (h_fast, .inl (cZ, 64, .inl r_fast)), (h_level, .inl (cI, 64, .inl r_level)), (h_ridged, .inl (cI, 64, .inl r_ridged)), (h_sea, .inl (cZ, 64, .inl r_sea)), (h_arrived, .inl (cI, 64, .inl r_arrived_18))] := hD
  refine lv_iload_n hx hb dX3_drift_8 rfl (lv_at hl 2 rfl) ?_
  refine lv_if_gt (tgt := 13) hx hb dX3_drift_9 (by decide) (fun c_19 => ?_) (fun c_19 => ?_)
  · have hw := hw.1 c_19
    refine lv_iconst (v := (0 : Int32)) hx hb dX3_drift_13 (by decide) ?_
    refine lv_istore_n (lv' := [(3, .int (0 : Int32)), (0, .ref h), (1, .int x1), (2, .int x2)]) hx hb dX3_drift_14 rfl hl (by decide) rfl (fun ls hl => ?_)
    obtain ⟨n_20, hw⟩ := hw
    exact tX3_drift_15 hC hK hA  n_20 x1 x2 (0 : Int32) f_rows f_columns r_arrived_18 r_fast r_level r_ridged r_sea _ _ ls hw (hP.sub [0, 5, 1, 2, 3, 4] rfl) (hD.sub [0, 5, 1, 2, 3, 4] (by decide) rfl) hS (lv_sub hl [1, 2, 3, 0] rfl)
  · have hw := hw.2 c_19
    have hP9 := hP.sub (ws' := (vX3_drift cI cZ h h_sea h_fast h_level h_ridged h_channel h_arrived f_laid f_grown f_melted f_rows f_columns r_arrived_18 r_fast r_level r_ridged r_sea)) [0, 5, 1, 2, 3, 4] rfl
    have hD9 := hD.sub (ws' := (vX3_drift cI cZ h h_sea h_fast h_level h_ridged h_channel h_arrived f_laid f_grown f_melted f_rows f_columns r_arrived_18 r_fast r_level r_ridged r_sea)) [0, 5, 1, 2, 3, 4] (by decide) rfl
    exact W.vret hx hb hr (fun t ht hW => ⟨⟨(r_arrived_18, r_level, r_ridged), rfl, hw, by rw [ht]; exact hP9, va_K.moved hW.alike hK, hD9⟩, hS.F ht⟩) hS.2.2 dX3_drift_12
set_option maxHeartbeats 4000000 in
set_option maxRecDepth 100000 in
theorem kX3_drift (l : Launch) (dC : Nat → ClassId) (dI : Nat → Nat → Nat) (cI cZ cO cW : ClassId) (h h_sea h_fast h_level h_ridged h_channel h_arrived : Nat)  (sz : Nat) (f_laid : Int32) (f_grown : Int32) (f_melted : Int32) (f_rows : Int32) (f_columns : Int32) (r_arrived : Nat → Int32) (r_fast : Nat → Int32) (r_level : Nat → Int32) (r_ridged : Nat → Int32) (r_sea : Nat → Int32) (x1 : Int32) (x2 : Int32) (Q : (Nat → Int32) → (Nat → Int32) → (Nat → Int32) → Prop) (hw : wX3_drift Q x1 x2 f_rows f_columns r_arrived r_fast r_level r_ridged r_sea) : Met l yX3_drift zsX3_drift rmX3_drift (va_Pc [.ref h, .int x1, .int x2] (fun U => U.heap.size = sz ∧ va_P (dC, dI) vwCl (vX3_drift cI cZ h h_sea h_fast h_level h_ridged h_channel h_arrived f_laid f_grown f_melted f_rows f_columns r_arrived r_fast r_level r_ridged r_sea) U.heap ∧ va_K (dC, dI) vwCl (tysA cI cZ cO cW) U ∧ va_D (fun _ => True) (vX3_drift cI cZ h h_sea h_fast h_level h_ridged h_channel h_arrived f_laid f_grown f_melted f_rows f_columns r_arrived r_fast r_level r_ridged r_sea))) (qX3_drift dC dI cI cZ cO cW h h_sea h_fast h_level h_ridged h_channel h_arrived f_laid f_grown f_melted f_rows f_columns r_fast r_sea Q (va_A (vX3_drift cI cZ h h_sea h_fast h_level h_ridged h_channel h_arrived f_laid f_grown f_melted f_rows f_columns r_arrived r_fast r_level r_ridged r_sea) sz)) 0 0 (va_A (vX3_drift cI cZ h h_sea h_fast h_level h_ridged h_channel h_arrived f_laid f_grown f_melted f_rows f_columns r_arrived r_fast r_level r_ridged r_sea) sz) := by
  refine Met.ofW (cc := cX3_drift) (maxL := 5) (ret := none) (by decide) rfl ?_
  intro p e s m args below meth c s₁ B hml hv
  obtain ⟨rfl, hsz, hP, hK, hD0⟩ := hv
  subst hsz
  have hC : Cx p s m ([.ref h, .int x1, .int x2] : List Value).toArray meth c cX3_drift none 5 GW RX3 := ⟨B.exec, B.bytes, B.returns, hml, findClass_of_methodNamed B.named, fun w h => atoms_spec (ws := zsX3_drift) B.pre w (List.mem_cons_of_mem _ h), B.notSynchronized⟩
  have hD := hD0.self (sz := s.heap.size)
  generalize hAe : va_A (vX3_drift cI cZ h h_sea h_fast h_level h_ridged h_channel h_arrived f_laid f_grown f_melted f_rows f_columns r_arrived r_fast r_level r_ridged r_sea) s.heap.size = A at hD ⊢
  have hA : ∀ q : Nat, s.heap.size ≤ q → A q := fun q h => by rw [← hAe]; exact Or.inr h
  have hl := lv_entry ([.ref h, .int x1, .int x2]) (n := 5) (Nat.le_of_ble_eq_true rfl)
  rw [lg_entry_eq]
  generalize (lg_sl ([.ref h, .int x1, .int x2]) ++ List.replicate (5 - (lg_sl ([.ref h, .int x1, .int x2])).length) Slot.unset).toArray = ls at hl ⊢
  exact tX3_drift_e hC hK hA x1 x2 f_rows f_columns r_arrived r_fast r_level r_ridged r_sea _ _ ls hw hP hD va_S.rf hl

/-! X3_closeChannels -/
def wX3_closeChannels_39 (Q : (Nat → Int32) → Prop) (K_2 : Int32 → Int32 → Int32 → (Nat → Int32) → (Nat → Int32) → Prop)  (x1 : Int32) (x2 : Int32) (f_rows : Int32) (r_arrived : (Nat → Int32)) (r_channel : (Nat → Int32)) : Prop :=
  (K_2 x1 (x2 + (1 : Int32)) f_rows r_arrived r_channel)
def wX3_closeChannels_32 (Q : (Nat → Int32) → Prop) (K_2 : Int32 → Int32 → Int32 → (Nat → Int32) → (Nat → Int32) → Prop)  (x1 : Int32) (x2 : Int32) (f_rows : Int32) (r_arrived : (Nat → Int32)) (r_channel : (Nat → Int32)) : Prop :=
  (vp_in x2 64 ∧ (wX3_closeChannels_39 Q K_2 x1 x2 f_rows r_arrived (upd r_channel x2.toNatClampNeg (-1 : Int32))))
def wX3_closeChannels_2 (Q : (Nat → Int32) → Prop)   : Nat → Int32 → Int32 → Int32 → (Nat → Int32) → (Nat → Int32) → Prop
  | 0, _, _, _, _, _ => False
  | n + 1, x1, x2, f_rows, r_arrived, r_channel => (((f_rows * (8 : Int32)) ≤ x2 → (Q r_channel)) ∧ (¬ (f_rows * (8 : Int32)) ≤ x2 → (vp_in x2 64 ∧ ((0 < (r_arrived x2.toNatClampNeg) → (wX3_closeChannels_32 Q (wX3_closeChannels_2 Q n) x1 x2 f_rows r_arrived r_channel)) ∧ (¬ 0 < (r_arrived x2.toNatClampNeg) → (vp_in x2 64 ∧ ((x1 < (r_channel x2.toNatClampNeg) → (wX3_closeChannels_39 Q (wX3_closeChannels_2 Q n) x1 x2 f_rows r_arrived r_channel)) ∧ (¬ x1 < (r_channel x2.toNatClampNeg) → (wX3_closeChannels_32 Q (wX3_closeChannels_2 Q n) x1 x2 f_rows r_arrived r_channel)))))))))
def wX3_closeChannels (Q : (Nat → Int32) → Prop) (x1 : Int32) (f_rows : Int32) (r_arrived : Nat → Int32) (r_channel : Nat → Int32) : Prop :=
  (∃ j_, wX3_closeChannels_2 Q j_ x1 (0 : Int32) f_rows r_arrived r_channel)
abbrev vX3_closeChannels (cI cZ : ClassId) (h h_sea h_fast h_level h_ridged h_channel h_arrived : Nat) (f_columns : Int32) (f_laid : Int32) (f_grown : Int32) (f_melted : Int32) (f_rows : Int32) (r_arrived : Nat → Int32) (r_channel : Nat → Int32) : va_W := [(h, .inr (3, [.ref h_sea, .ref h_fast, .ref h_level, .ref h_ridged, .ref h_channel, .ref h_arrived, .int f_rows, .int f_columns, .int f_laid, .int f_grown, .int f_melted])), (h_arrived, .inl (cI, 64, .inl r_arrived)), (h_channel, .inl (cI, 64, .inl r_channel))]
abbrev rmX3_closeChannels : Room := { frames := 0, cells := 0, slots := 0, locals := 0 }
abbrev qX3_closeChannels (dC : Nat → ClassId) (dI : Nat → Nat → Nat) (cI cZ cO cW : ClassId) (h h_sea h_fast h_level h_ridged h_channel h_arrived : Nat) (f_columns : Int32) (f_laid : Int32) (f_grown : Int32) (f_melted : Int32) (f_rows : Int32) (r_arrived : Nat → Int32) (Q : (Nat → Int32) → Prop) (A : Nat → Prop) : Array Value → State → Outcome → State → Prop := va_Qv (fun (u : (Nat → Int32)) => Q u) (fun (u : (Nat → Int32)) (t : State) => va_P (dC, dI) vwCl (vX3_closeChannels cI cZ h h_sea h_fast h_level h_ridged h_channel h_arrived f_columns f_laid f_grown f_melted f_rows r_arrived u) t.heap ∧ va_K (dC, dI) vwCl (tysA cI cZ cO cW) t ∧ va_D A (vX3_closeChannels cI cZ h h_sea h_fast h_level h_ridged h_channel h_arrived f_columns f_laid f_grown f_melted f_rows r_arrived u)) A
def zsX3_closeChannels : List Cond := Cond.code yX3_closeChannels cX3_closeChannels 3 none :: GW
set_option maxHeartbeats 4000000 in
set_option maxRecDepth 100000 in
theorem tX3_closeChannels_39 {p : Program} {l : Launch} {e : Env} {s : State} {m : MethodId} {args : Array Value} {below : List Frame} {meth : Method} {c : Code} {dC : Nat → ClassId} {dI : Nat → Nat → Nat} {cI cZ cO cW : ClassId} {A : Nat → Prop} {h h_sea h_fast h_level h_ridged h_channel h_arrived : Nat} {f_columns f_laid f_grown f_melted : Int32} {Q : (Nat → Int32) → Prop} {K_2 : Int32 → Int32 → Int32 → (Nat → Int32) → (Nat → Int32) → Prop} (hC : Cx p s m args meth c cX3_closeChannels none 3 GW RX3) (hK : va_K (dC, dI) vwCl (tysA cI cZ cO cW) s) (hA : ∀ q : Nat, s.heap.size ≤ q → A q) (hk_2 : ∀ (x1 : Int32) (x2 : Int32) (f_rows : Int32) (r_arrived : (Nat → Int32)) (r_channel : (Nat → Int32)) (H : Heap) (locs : List Loc) (ls : Array Slot), K_2 x1 x2 f_rows r_arrived r_channel → va_P (dC, dI) vwCl (vX3_closeChannels cI cZ h h_sea h_fast h_level h_ridged h_channel h_arrived f_columns f_laid f_grown f_melted f_rows r_arrived r_channel) H → va_D A (vX3_closeChannels cI cZ h h_sea h_fast h_level h_ridged h_channel h_arrived f_columns f_laid f_grown f_melted f_rows r_arrived r_channel) → va_S A s.heap H locs → lv_has ls 3 [(0, .ref h), (1, .int x1), (2, .int x2)] → W p l e rmX3_closeChannels s m args below meth c H locs 0 0 (MQ below (qX3_closeChannels dC dI cI cZ cO cW h h_sea h_fast h_level h_ridged h_channel h_arrived f_columns f_laid f_grown f_melted f_rows r_arrived Q A) args s 0 0 A) (F0 m 2 ls [])) :
    ∀ (x1 : Int32) (x2 : Int32) (f_rows : Int32) (r_arrived : (Nat → Int32)) (r_channel : (Nat → Int32)) (H : Heap) (locs : List Loc) (ls : Array Slot), wX3_closeChannels_39 Q K_2 x1 x2 f_rows r_arrived r_channel → va_P (dC, dI) vwCl (vX3_closeChannels cI cZ h h_sea h_fast h_level h_ridged h_channel h_arrived f_columns f_laid f_grown f_melted f_rows r_arrived r_channel) H → va_D A (vX3_closeChannels cI cZ h h_sea h_fast h_level h_ridged h_channel h_arrived f_columns f_laid f_grown f_melted f_rows r_arrived r_channel) → va_S A s.heap H locs → lv_has ls 3 [(0, .ref h), (1, .int x1), (2, .int x2)] → W p l e rmX3_closeChannels s m args below meth c H locs 0 0 (MQ below (qX3_closeChannels dC dI cI cZ cO cW h h_sea h_fast h_level h_ridged h_channel h_arrived f_columns f_laid f_grown f_melted f_rows r_arrived Q A) args s 0 0 A) (F0 m 39 ls []) := by
  obtain ⟨hx, hb, hr, hml, hown, hts, hlocks⟩ := id hC
  intro x1 x2 f_rows r_arrived r_channel H locs ls hw hP hD hS hl
  refine lv_iinc (v := (x2 + (1 : Int32))) (lv' := [(2, .int (x2 + (1 : Int32))), (0, .ref h), (1, .int x1)]) hx hb dX3_closeChannels_39 hl (k := 2) rfl rfl (by decide) rfl (fun ls hl => ?_)
  refine lv_goto (tgt := 2) hx hb dX3_closeChannels_42 (by decide) ?_
  exact hk_2 x1 (x2 + (1 : Int32)) f_rows r_arrived r_channel _ _ ls hw (hP.sub [0, 1, 2] rfl) (hD.sub [0, 1, 2] (by decide) rfl) hS (lv_sub hl [1, 2, 0] rfl)
set_option maxHeartbeats 4000000 in
set_option maxRecDepth 100000 in
theorem tX3_closeChannels_32 {p : Program} {l : Launch} {e : Env} {s : State} {m : MethodId} {args : Array Value} {below : List Frame} {meth : Method} {c : Code} {dC : Nat → ClassId} {dI : Nat → Nat → Nat} {cI cZ cO cW : ClassId} {A : Nat → Prop} {h h_sea h_fast h_level h_ridged h_channel h_arrived : Nat} {f_columns f_laid f_grown f_melted : Int32} {Q : (Nat → Int32) → Prop} {K_2 : Int32 → Int32 → Int32 → (Nat → Int32) → (Nat → Int32) → Prop} (hC : Cx p s m args meth c cX3_closeChannels none 3 GW RX3) (hK : va_K (dC, dI) vwCl (tysA cI cZ cO cW) s) (hA : ∀ q : Nat, s.heap.size ≤ q → A q) (hk_2 : ∀ (x1 : Int32) (x2 : Int32) (f_rows : Int32) (r_arrived : (Nat → Int32)) (r_channel : (Nat → Int32)) (H : Heap) (locs : List Loc) (ls : Array Slot), K_2 x1 x2 f_rows r_arrived r_channel → va_P (dC, dI) vwCl (vX3_closeChannels cI cZ h h_sea h_fast h_level h_ridged h_channel h_arrived f_columns f_laid f_grown f_melted f_rows r_arrived r_channel) H → va_D A (vX3_closeChannels cI cZ h h_sea h_fast h_level h_ridged h_channel h_arrived f_columns f_laid f_grown f_melted f_rows r_arrived r_channel) → va_S A s.heap H locs → lv_has ls 3 [(0, .ref h), (1, .int x1), (2, .int x2)] → W p l e rmX3_closeChannels s m args below meth c H locs 0 0 (MQ below (qX3_closeChannels dC dI cI cZ cO cW h h_sea h_fast h_level h_ridged h_channel h_arrived f_columns f_laid f_grown f_melted f_rows r_arrived Q A) args s 0 0 A) (F0 m 2 ls [])) :
    ∀ (x1 : Int32) (x2 : Int32) (f_rows : Int32) (r_arrived : (Nat → Int32)) (r_channel : (Nat → Int32)) (H : Heap) (locs : List Loc) (ls : Array Slot), wX3_closeChannels_32 Q K_2 x1 x2 f_rows r_arrived r_channel → va_P (dC, dI) vwCl (vX3_closeChannels cI cZ h h_sea h_fast h_level h_ridged h_channel h_arrived f_columns f_laid f_grown f_melted f_rows r_arrived r_channel) H → va_D A (vX3_closeChannels cI cZ h h_sea h_fast h_level h_ridged h_channel h_arrived f_columns f_laid f_grown f_melted f_rows r_arrived r_channel) → va_S A s.heap H locs → lv_has ls 3 [(0, .ref h), (1, .int x1), (2, .int x2)] → W p l e rmX3_closeChannels s m args below meth c H locs 0 0 (MQ below (qX3_closeChannels dC dI cI cZ cO cW h h_sea h_fast h_level h_ridged h_channel h_arrived f_columns f_laid f_grown f_melted f_rows r_arrived Q A) args s 0 0 A) (F0 m 32 ls []) := by
  obtain ⟨hx, hb, hr, hml, hown, hts, hlocks⟩ := id hC
  intro x1 x2 f_rows r_arrived r_channel H locs ls hw hP hD hS hl
  refine lv_aload_n hx hb dX3_closeChannels_32 rfl (lv_at hl 0 rfl) ?_
  refine va_get (D := (dC, dI)) (ci := 3) (v := .ref h_channel) (C := RX3) (T := TX3) (N := 11) hx hb hts gu_X3 hown hK hP 0 rfl rfl 4 (by decide) (hts _ gw_79) (fun _ h9 => h9) rfl dX3_closeChannels_33 ?_
  refine lv_iload_n hx hb dX3_closeChannels_36 rfl (lv_at hl 2 rfl) ?_
  refine lv_iconst (v := (-1 : Int32)) hx hb dX3_closeChannels_37 (by decide) ?_
  obtain ⟨h_1, hw⟩ := hw
  refine va_iast hx hb hK hP hD hS 2 0 rfl rfl h_1 dX3_closeChannels_38 (fun H locs hP hD hS => ?_)
  have hP : va_P (dC, dI) vwCl [(h, .inr (3, [.ref h_sea, .ref h_fast, .ref h_level, .ref h_ridged, .ref h_channel, .ref h_arrived, .int f_rows, .int f_columns, .int f_laid, .int f_grown, .int f_melted])), (h_arrived, .inl (cI, 64, .inl r_arrived)), (h_channel, .inl (cI, 64, .inl (upd r_channel x2.toNatClampNeg (-1 : Int32))))] _ := hP
  have hD : va_D A [(h, .inr (3, [.ref h_sea, .ref h_fast, .ref h_level, .ref h_ridged, .ref h_channel, .ref h_arrived, .int f_rows, .int f_columns, .int f_laid, .int f_grown, .int f_melted])), (h_arrived, .inl (cI, 64, .inl r_arrived)), (h_channel, .inl (cI, 64, .inl (upd r_channel x2.toNatClampNeg (-1 : Int32))))] := hD
  exact tX3_closeChannels_39 hC hK hA hk_2 x1 x2 f_rows r_arrived (upd r_channel x2.toNatClampNeg (-1 : Int32)) _ _ ls hw (hP.sub [0, 1, 2] rfl) (hD.sub [0, 1, 2] (by decide) rfl) hS (lv_sub hl [0, 1, 2] rfl)
set_option maxHeartbeats 4000000 in
set_option maxRecDepth 100000 in
theorem tX3_closeChannels_2 {p : Program} {l : Launch} {e : Env} {s : State} {m : MethodId} {args : Array Value} {below : List Frame} {meth : Method} {c : Code} {dC : Nat → ClassId} {dI : Nat → Nat → Nat} {cI cZ cO cW : ClassId} {A : Nat → Prop} {h h_sea h_fast h_level h_ridged h_channel h_arrived : Nat} {f_columns f_laid f_grown f_melted : Int32} {Q : (Nat → Int32) → Prop}  (hC : Cx p s m args meth c cX3_closeChannels none 3 GW RX3) (hK : va_K (dC, dI) vwCl (tysA cI cZ cO cW) s) (hA : ∀ q : Nat, s.heap.size ≤ q → A q) :
    ∀ (n : Nat) (x1 : Int32) (x2 : Int32) (f_rows : Int32) (r_arrived : (Nat → Int32)) (r_channel : (Nat → Int32)) (H : Heap) (locs : List Loc) (ls : Array Slot), wX3_closeChannels_2 Q  n x1 x2 f_rows r_arrived r_channel → va_P (dC, dI) vwCl (vX3_closeChannels cI cZ h h_sea h_fast h_level h_ridged h_channel h_arrived f_columns f_laid f_grown f_melted f_rows r_arrived r_channel) H → va_D A (vX3_closeChannels cI cZ h h_sea h_fast h_level h_ridged h_channel h_arrived f_columns f_laid f_grown f_melted f_rows r_arrived r_channel) → va_S A s.heap H locs → lv_has ls 3 [(0, .ref h), (1, .int x1), (2, .int x2)] → W p l e rmX3_closeChannels s m args below meth c H locs 0 0 (MQ below (qX3_closeChannels dC dI cI cZ cO cW h h_sea h_fast h_level h_ridged h_channel h_arrived f_columns f_laid f_grown f_melted f_rows r_arrived Q A) args s 0 0 A) (F0 m 2 ls []) := by
  obtain ⟨hx, hb, hr, hml, hown, hts, hlocks⟩ := id hC
  intro n
  induction n with
  | zero =>
    intro  x1 x2 f_rows r_arrived r_channel H locs ls hw
    exact hw.elim
  | succ n ih =>
    intro  x1 x2 f_rows r_arrived r_channel H locs ls hw hP hD hS hl
    refine lv_iload_n hx hb dX3_closeChannels_2 rfl (lv_at hl 2 rfl) ?_
    refine lv_aload_n hx hb dX3_closeChannels_3 rfl (lv_at hl 0 rfl) ?_
    refine va_get (D := (dC, dI)) (ci := 3) (v := .int f_rows) (C := RX3) (T := TX3) (N := 11) hx hb hts gu_X3 hown hK hP 0 rfl rfl 6 (by decide) (hts _ gw_81) (fun _ h9 => h9) rfl dX3_closeChannels_4 ?_
    refine lv_bipush (v := (8 : Int32)) hx hb dX3_closeChannels_7 (by decide) ?_
    refine lv_imul hx hb dX3_closeChannels_9 ?_
    refine lv_icmp_ge (tgt := 45) hx hb dX3_closeChannels_10 (by decide) (fun c_2 => ?_) (fun c_2 => ?_)
    · have hw := hw.1 c_2
      have hP9 := hP.sub (ws' := (vX3_closeChannels cI cZ h h_sea h_fast h_level h_ridged h_channel h_arrived f_columns f_laid f_grown f_melted f_rows r_arrived r_channel)) [0, 1, 2] rfl
      have hD9 := hD.sub (ws' := (vX3_closeChannels cI cZ h h_sea h_fast h_level h_ridged h_channel h_arrived f_columns f_laid f_grown f_melted f_rows r_arrived r_channel)) [0, 1, 2] (by decide) rfl
      exact W.vret hx hb hr (fun t ht hW => ⟨⟨r_channel, rfl, hw, by rw [ht]; exact hP9, va_K.moved hW.alike hK, hD9⟩, hS.F ht⟩) hS.2.2 dX3_closeChannels_45
    · have hw := hw.2 c_2
      refine lv_aload_n hx hb dX3_closeChannels_13 rfl (lv_at hl 0 rfl) ?_
      refine va_get (D := (dC, dI)) (ci := 3) (v := .ref h_arrived) (C := RX3) (T := TX3) (N := 11) hx hb hts gu_X3 hown hK hP 0 rfl rfl 5 (by decide) (hts _ gw_80) (fun _ h9 => h9) rfl dX3_closeChannels_14 ?_
      refine lv_iload_n hx hb dX3_closeChannels_17 rfl (lv_at hl 2 rfl) ?_
      obtain ⟨h_3, hw⟩ := hw
      refine va_iald hx hb hK hP 1 0 rfl rfl h_3 dX3_closeChannels_18 ?_
      refine lv_if_gt (tgt := 32) hx hb dX3_closeChannels_19 (by decide) (fun c_4 => ?_) (fun c_4 => ?_)
      · have hw := hw.1 c_4
        exact tX3_closeChannels_32 hC hK hA ih x1 x2 f_rows r_arrived r_channel _ _ ls hw (hP.sub [0, 1, 2] rfl) (hD.sub [0, 1, 2] (by decide) rfl) hS (lv_sub hl [0, 1, 2] rfl)
      · have hw := hw.2 c_4
        refine lv_aload_n hx hb dX3_closeChannels_22 rfl (lv_at hl 0 rfl) ?_
        refine va_get (D := (dC, dI)) (ci := 3) (v := .ref h_channel) (C := RX3) (T := TX3) (N := 11) hx hb hts gu_X3 hown hK hP 0 rfl rfl 4 (by decide) (hts _ gw_79) (fun _ h9 => h9) rfl dX3_closeChannels_23 ?_
        refine lv_iload_n hx hb dX3_closeChannels_26 rfl (lv_at hl 2 rfl) ?_
        obtain ⟨h_5, hw⟩ := hw
        refine va_iald hx hb hK hP 2 0 rfl rfl h_5 dX3_closeChannels_27 ?_
        refine lv_iload_n hx hb dX3_closeChannels_28 rfl (lv_at hl 1 rfl) ?_
        refine lv_icmp_gt (tgt := 39) hx hb dX3_closeChannels_29 (by decide) (fun c_6 => ?_) (fun c_6 => ?_)
        · have hw := hw.1 c_6
          exact tX3_closeChannels_39 hC hK hA ih x1 x2 f_rows r_arrived r_channel _ _ ls hw (hP.sub [0, 1, 2] rfl) (hD.sub [0, 1, 2] (by decide) rfl) hS (lv_sub hl [0, 1, 2] rfl)
        · have hw := hw.2 c_6
          exact tX3_closeChannels_32 hC hK hA ih x1 x2 f_rows r_arrived r_channel _ _ ls hw (hP.sub [0, 1, 2] rfl) (hD.sub [0, 1, 2] (by decide) rfl) hS (lv_sub hl [0, 1, 2] rfl)
set_option maxHeartbeats 4000000 in
set_option maxRecDepth 100000 in
theorem tX3_closeChannels_e {p : Program} {l : Launch} {e : Env} {s : State} {m : MethodId} {args : Array Value} {below : List Frame} {meth : Method} {c : Code} {dC : Nat → ClassId} {dI : Nat → Nat → Nat} {cI cZ cO cW : ClassId} {A : Nat → Prop} {h h_sea h_fast h_level h_ridged h_channel h_arrived : Nat} {f_columns f_laid f_grown f_melted : Int32} {Q : (Nat → Int32) → Prop} (hC : Cx p s m args meth c cX3_closeChannels none 3 GW RX3) (hK : va_K (dC, dI) vwCl (tysA cI cZ cO cW) s) (hA : ∀ q : Nat, s.heap.size ≤ q → A q) :
    ∀ (x1 : Int32) (f_rows : Int32) (r_arrived : Nat → Int32) (r_channel : Nat → Int32) (H : Heap) (locs : List Loc) (ls : Array Slot), wX3_closeChannels Q x1 f_rows r_arrived r_channel → va_P (dC, dI) vwCl (vX3_closeChannels cI cZ h h_sea h_fast h_level h_ridged h_channel h_arrived f_columns f_laid f_grown f_melted f_rows r_arrived r_channel) H → va_D A (vX3_closeChannels cI cZ h h_sea h_fast h_level h_ridged h_channel h_arrived f_columns f_laid f_grown f_melted f_rows r_arrived r_channel) → va_S A s.heap H locs → lv_has ls 3 [(0, .ref h), (1, .int x1)] → W p l e rmX3_closeChannels s m args below meth c H locs 0 0 (MQ below (qX3_closeChannels dC dI cI cZ cO cW h h_sea h_fast h_level h_ridged h_channel h_arrived f_columns f_laid f_grown f_melted f_rows r_arrived Q A) args s 0 0 A) (F0 m 0 ls []) := by
  obtain ⟨hx, hb, hr, hml, hown, hts, hlocks⟩ := id hC
  intro x1 f_rows r_arrived r_channel H locs ls hw hP hD hS hl
  refine lv_iconst (v := (0 : Int32)) hx hb dX3_closeChannels_0 (by decide) ?_
  refine lv_istore_n (lv' := [(2, .int (0 : Int32)), (0, .ref h), (1, .int x1)]) hx hb dX3_closeChannels_1 rfl hl (by decide) rfl (fun ls hl => ?_)
  obtain ⟨n_7, hw⟩ := hw
  exact tX3_closeChannels_2 hC hK hA  n_7 x1 (0 : Int32) f_rows r_arrived r_channel _ _ ls hw (hP.sub [0, 1, 2] rfl) (hD.sub [0, 1, 2] (by decide) rfl) hS (lv_sub hl [1, 2, 0] rfl)
set_option maxHeartbeats 4000000 in
set_option maxRecDepth 100000 in
theorem kX3_closeChannels (l : Launch) (dC : Nat → ClassId) (dI : Nat → Nat → Nat) (cI cZ cO cW : ClassId) (h h_sea h_fast h_level h_ridged h_channel h_arrived : Nat)  (sz : Nat) (f_columns : Int32) (f_laid : Int32) (f_grown : Int32) (f_melted : Int32) (f_rows : Int32) (r_arrived : Nat → Int32) (r_channel : Nat → Int32) (x1 : Int32) (Q : (Nat → Int32) → Prop) (hw : wX3_closeChannels Q x1 f_rows r_arrived r_channel) : Met l yX3_closeChannels zsX3_closeChannels rmX3_closeChannels (va_Pc [.ref h, .int x1] (fun U => U.heap.size = sz ∧ va_P (dC, dI) vwCl (vX3_closeChannels cI cZ h h_sea h_fast h_level h_ridged h_channel h_arrived f_columns f_laid f_grown f_melted f_rows r_arrived r_channel) U.heap ∧ va_K (dC, dI) vwCl (tysA cI cZ cO cW) U ∧ va_D (fun _ => True) (vX3_closeChannels cI cZ h h_sea h_fast h_level h_ridged h_channel h_arrived f_columns f_laid f_grown f_melted f_rows r_arrived r_channel))) (qX3_closeChannels dC dI cI cZ cO cW h h_sea h_fast h_level h_ridged h_channel h_arrived f_columns f_laid f_grown f_melted f_rows r_arrived Q (va_A (vX3_closeChannels cI cZ h h_sea h_fast h_level h_ridged h_channel h_arrived f_columns f_laid f_grown f_melted f_rows r_arrived r_channel) sz)) 0 0 (va_A (vX3_closeChannels cI cZ h h_sea h_fast h_level h_ridged h_channel h_arrived f_columns f_laid f_grown f_melted f_rows r_arrived r_channel) sz) := by
  refine Met.ofW (cc := cX3_closeChannels) (maxL := 3) (ret := none) (by decide) rfl ?_
  intro p e s m args below meth c s₁ B hml hv
  obtain ⟨rfl, hsz, hP, hK, hD0⟩ := hv
  subst hsz
  have hC : Cx p s m ([.ref h, .int x1] : List Value).toArray meth c cX3_closeChannels none 3 GW RX3 := ⟨B.exec, B.bytes, B.returns, hml, findClass_of_methodNamed B.named, fun w h => atoms_spec (ws := zsX3_closeChannels) B.pre w (List.mem_cons_of_mem _ h), B.notSynchronized⟩
  have hD := hD0.self (sz := s.heap.size)
  generalize hAe : va_A (vX3_closeChannels cI cZ h h_sea h_fast h_level h_ridged h_channel h_arrived f_columns f_laid f_grown f_melted f_rows r_arrived r_channel) s.heap.size = A at hD ⊢
  have hA : ∀ q : Nat, s.heap.size ≤ q → A q := fun q h => by rw [← hAe]; exact Or.inr h
  have hl := lv_entry ([.ref h, .int x1]) (n := 3) (Nat.le_of_ble_eq_true rfl)
  rw [lg_entry_eq]
  generalize (lg_sl ([.ref h, .int x1]) ++ List.replicate (3 - (lg_sl ([.ref h, .int x1])).length) Slot.unset).toArray = ls at hl ⊢
  exact tX3_closeChannels_e hC hK hA x1 f_rows r_arrived r_channel _ _ ls hw hP hD va_S.rf hl
