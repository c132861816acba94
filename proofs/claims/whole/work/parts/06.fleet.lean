theorem dX1_has_0 : decode cX1_has 0 = .ok (.iload_n 1, 1) := by decide +kernel
theorem dX1_has_1 : decode cX1_has 1 = .ok (.ifCond .lt 15, 3) := by decide +kernel
theorem dX1_has_4 : decode cX1_has 4 = .ok (.iload_n 1, 1) := by decide +kernel
theorem dX1_has_5 : decode cX1_has 5 = .ok (.aload_n 0, 1) := by decide +kernel
theorem dX1_has_6 : decode cX1_has 6 = .ok (.getfield 40, 3) := by decide +kernel
theorem dX1_has_9 : decode cX1_has 9 = .ok (.if_icmp .ge 7, 3) := by decide +kernel
theorem dX1_has_12 : decode cX1_has 12 = .ok (.iconst 1, 1) := by decide +kernel
theorem dX1_has_13 : decode cX1_has 13 = .ok (.goto 4, 3) := by decide +kernel
theorem dX1_has_16 : decode cX1_has 16 = .ok (.iconst 0, 1) := by decide +kernel
theorem dX1_has_17 : decode cX1_has 17 = .ok (.ireturn, 1) := by decide +kernel

theorem dX1_isBreaker_0 : decode cX1_isBreaker 0 = .ok (.aload_n 0, 1) := by decide +kernel
theorem dX1_isBreaker_1 : decode cX1_isBreaker 1 = .ok (.getfield 15, 3) := by decide +kernel
theorem dX1_isBreaker_4 : decode cX1_isBreaker 4 = .ok (.iload_n 1, 1) := by decide +kernel
theorem dX1_isBreaker_5 : decode cX1_isBreaker 5 = .ok (.iaload, 1) := by decide +kernel
theorem dX1_isBreaker_6 : decode cX1_isBreaker 6 = .ok (.iconst (-1), 1) := by decide +kernel
theorem dX1_isBreaker_7 : decode cX1_isBreaker 7 = .ok (.if_icmp .eq 7, 3) := by decide +kernel
theorem dX1_isBreaker_10 : decode cX1_isBreaker 10 = .ok (.iconst 1, 1) := by decide +kernel
theorem dX1_isBreaker_11 : decode cX1_isBreaker 11 = .ok (.goto 4, 3) := by decide +kernel
theorem dX1_isBreaker_14 : decode cX1_isBreaker 14 = .ok (.iconst 0, 1) := by decide +kernel
theorem dX1_isBreaker_15 : decode cX1_isBreaker 15 = .ok (.ireturn, 1) := by decide +kernel

theorem dX1_shipIn_0 : decode cX1_shipIn 0 = .ok (.iconst 0, 1) := by decide +kernel
theorem dX1_shipIn_1 : decode cX1_shipIn 1 = .ok (.istore_n 2, 1) := by decide +kernel
theorem dX1_shipIn_2 : decode cX1_shipIn 2 = .ok (.iload_n 2, 1) := by decide +kernel
theorem dX1_shipIn_3 : decode cX1_shipIn 3 = .ok (.aload_n 0, 1) := by decide +kernel
theorem dX1_shipIn_4 : decode cX1_shipIn 4 = .ok (.getfield 40, 3) := by decide +kernel
theorem dX1_shipIn_7 : decode cX1_shipIn 7 = .ok (.if_icmp .ge 21, 3) := by decide +kernel
theorem dX1_shipIn_10 : decode cX1_shipIn 10 = .ok (.aload_n 0, 1) := by decide +kernel
theorem dX1_shipIn_11 : decode cX1_shipIn 11 = .ok (.getfield 18, 3) := by decide +kernel
theorem dX1_shipIn_14 : decode cX1_shipIn 14 = .ok (.iload_n 2, 1) := by decide +kernel
theorem dX1_shipIn_15 : decode cX1_shipIn 15 = .ok (.iaload, 1) := by decide +kernel
theorem dX1_shipIn_16 : decode cX1_shipIn 16 = .ok (.iload_n 1, 1) := by decide +kernel
theorem dX1_shipIn_17 : decode cX1_shipIn 17 = .ok (.if_icmp .ne 5, 3) := by decide +kernel
theorem dX1_shipIn_20 : decode cX1_shipIn 20 = .ok (.iload_n 2, 1) := by decide +kernel
theorem dX1_shipIn_21 : decode cX1_shipIn 21 = .ok (.ireturn, 1) := by decide +kernel
theorem dX1_shipIn_22 : decode cX1_shipIn 22 = .ok (.iinc 2 1, 3) := by decide +kernel
theorem dX1_shipIn_25 : decode cX1_shipIn 25 = .ok (.goto (-23), 3) := by decide +kernel
theorem dX1_shipIn_28 : decode cX1_shipIn 28 = .ok (.iconst (-1), 1) := by decide +kernel
theorem dX1_shipIn_29 : decode cX1_shipIn 29 = .ok (.ireturn, 1) := by decide +kernel

theorem dX1_beside_0 : decode cX1_beside 0 = .ok (.aload_n 0, 1) := by decide +kernel
theorem dX1_beside_1 : decode cX1_beside 1 = .ok (.getfield 18, 3) := by decide +kernel
theorem dX1_beside_4 : decode cX1_beside 4 = .ok (.iload_n 1, 1) := by decide +kernel
theorem dX1_beside_5 : decode cX1_beside 5 = .ok (.iaload, 1) := by decide +kernel
theorem dX1_beside_6 : decode cX1_beside 6 = .ok (.bipush 8, 2) := by decide +kernel
theorem dX1_beside_8 : decode cX1_beside 8 = .ok (.idiv, 1) := by decide +kernel
theorem dX1_beside_9 : decode cX1_beside 9 = .ok (.aload_n 0, 1) := by decide +kernel
theorem dX1_beside_10 : decode cX1_beside 10 = .ok (.getfield 18, 3) := by decide +kernel
theorem dX1_beside_13 : decode cX1_beside 13 = .ok (.iload_n 2, 1) := by decide +kernel
theorem dX1_beside_14 : decode cX1_beside 14 = .ok (.iaload, 1) := by decide +kernel
theorem dX1_beside_15 : decode cX1_beside 15 = .ok (.bipush 8, 2) := by decide +kernel
theorem dX1_beside_17 : decode cX1_beside 17 = .ok (.idiv, 1) := by decide +kernel
theorem dX1_beside_18 : decode cX1_beside 18 = .ok (.isub, 1) := by decide +kernel
theorem dX1_beside_19 : decode cX1_beside 19 = .ok (.istore_n 3, 1) := by decide +kernel
theorem dX1_beside_20 : decode cX1_beside 20 = .ok (.aload_n 0, 1) := by decide +kernel
theorem dX1_beside_21 : decode cX1_beside 21 = .ok (.getfield 18, 3) := by decide +kernel
theorem dX1_beside_24 : decode cX1_beside 24 = .ok (.iload_n 1, 1) := by decide +kernel
theorem dX1_beside_25 : decode cX1_beside 25 = .ok (.iaload, 1) := by decide +kernel
theorem dX1_beside_26 : decode cX1_beside 26 = .ok (.bipush 8, 2) := by decide +kernel
theorem dX1_beside_28 : decode cX1_beside 28 = .ok (.irem, 1) := by decide +kernel
theorem dX1_beside_29 : decode cX1_beside 29 = .ok (.aload_n 0, 1) := by decide +kernel
theorem dX1_beside_30 : decode cX1_beside 30 = .ok (.getfield 18, 3) := by decide +kernel
theorem dX1_beside_33 : decode cX1_beside 33 = .ok (.iload_n 2, 1) := by decide +kernel
theorem dX1_beside_34 : decode cX1_beside 34 = .ok (.iaload, 1) := by decide +kernel
theorem dX1_beside_35 : decode cX1_beside 35 = .ok (.bipush 8, 2) := by decide +kernel
theorem dX1_beside_37 : decode cX1_beside 37 = .ok (.irem, 1) := by decide +kernel
theorem dX1_beside_38 : decode cX1_beside 38 = .ok (.isub, 1) := by decide +kernel
theorem dX1_beside_39 : decode cX1_beside 39 = .ok (.istore 4, 2) := by decide +kernel
theorem dX1_beside_41 : decode cX1_beside 41 = .ok (.iload_n 3, 1) := by decide +kernel
theorem dX1_beside_42 : decode cX1_beside 42 = .ok (.iload_n 3, 1) := by decide +kernel
theorem dX1_beside_43 : decode cX1_beside 43 = .ok (.imul, 1) := by decide +kernel
theorem dX1_beside_44 : decode cX1_beside 44 = .ok (.iload 4, 2) := by decide +kernel
theorem dX1_beside_46 : decode cX1_beside 46 = .ok (.iload 4, 2) := by decide +kernel
theorem dX1_beside_48 : decode cX1_beside 48 = .ok (.imul, 1) := by decide +kernel
theorem dX1_beside_49 : decode cX1_beside 49 = .ok (.iadd, 1) := by decide +kernel
theorem dX1_beside_50 : decode cX1_beside 50 = .ok (.iconst 1, 1) := by decide +kernel
theorem dX1_beside_51 : decode cX1_beside 51 = .ok (.if_icmp .ne 7, 3) := by decide +kernel
theorem dX1_beside_54 : decode cX1_beside 54 = .ok (.iconst 1, 1) := by decide +kernel
theorem dX1_beside_55 : decode cX1_beside 55 = .ok (.goto 4, 3) := by decide +kernel
theorem dX1_beside_58 : decode cX1_beside 58 = .ok (.iconst 0, 1) := by decide +kernel
theorem dX1_beside_59 : decode cX1_beside 59 = .ok (.ireturn, 1) := by decide +kernel

theorem dX1_breakerBeside_0 : decode cX1_breakerBeside 0 = .ok (.iconst 0, 1) := by decide +kernel
theorem dX1_breakerBeside_1 : decode cX1_breakerBeside 1 = .ok (.istore_n 2, 1) := by decide +kernel
theorem dX1_breakerBeside_2 : decode cX1_breakerBeside 2 = .ok (.iload_n 2, 1) := by decide +kernel
theorem dX1_breakerBeside_3 : decode cX1_breakerBeside 3 = .ok (.aload_n 0, 1) := by decide +kernel
theorem dX1_breakerBeside_4 : decode cX1_breakerBeside 4 = .ok (.getfield 40, 3) := by decide +kernel
theorem dX1_breakerBeside_7 : decode cX1_breakerBeside 7 = .ok (.if_icmp .ge 28, 3) := by decide +kernel
theorem dX1_breakerBeside_10 : decode cX1_breakerBeside 10 = .ok (.aload_n 0, 1) := by decide +kernel
theorem dX1_breakerBeside_11 : decode cX1_breakerBeside 11 = .ok (.iload_n 2, 1) := by decide +kernel
theorem dX1_breakerBeside_12 : decode cX1_breakerBeside 12 = .ok (.invokevirtual 53, 3) := by decide +kernel
theorem dX1_breakerBeside_15 : decode cX1_breakerBeside 15 = .ok (.ifCond .eq 14, 3) := by decide +kernel
theorem dX1_breakerBeside_18 : decode cX1_breakerBeside 18 = .ok (.aload_n 0, 1) := by decide +kernel
theorem dX1_breakerBeside_19 : decode cX1_breakerBeside 19 = .ok (.iload_n 1, 1) := by decide +kernel
theorem dX1_breakerBeside_20 : decode cX1_breakerBeside 20 = .ok (.iload_n 2, 1) := by decide +kernel
theorem dX1_breakerBeside_21 : decode cX1_breakerBeside 21 = .ok (.invokevirtual 57, 3) := by decide +kernel
theorem dX1_breakerBeside_24 : decode cX1_breakerBeside 24 = .ok (.ifCond .eq 5, 3) := by decide +kernel
theorem dX1_breakerBeside_27 : decode cX1_breakerBeside 27 = .ok (.iconst 1, 1) := by decide +kernel
theorem dX1_breakerBeside_28 : decode cX1_breakerBeside 28 = .ok (.ireturn, 1) := by decide +kernel
theorem dX1_breakerBeside_29 : decode cX1_breakerBeside 29 = .ok (.iinc 2 1, 3) := by decide +kernel
theorem dX1_breakerBeside_32 : decode cX1_breakerBeside 32 = .ok (.goto (-30), 3) := by decide +kernel
theorem dX1_breakerBeside_35 : decode cX1_breakerBeside 35 = .ok (.iconst 0, 1) := by decide +kernel
theorem dX1_breakerBeside_36 : decode cX1_breakerBeside 36 = .ok (.ireturn, 1) := by decide +kernel

theorem dX1_shipsBeside_0 : decode cX1_shipsBeside 0 = .ok (.iconst 0, 1) := by decide +kernel
theorem dX1_shipsBeside_1 : decode cX1_shipsBeside 1 = .ok (.istore_n 2, 1) := by decide +kernel
theorem dX1_shipsBeside_2 : decode cX1_shipsBeside 2 = .ok (.iconst 0, 1) := by decide +kernel
theorem dX1_shipsBeside_3 : decode cX1_shipsBeside 3 = .ok (.istore_n 3, 1) := by decide +kernel
theorem dX1_shipsBeside_4 : decode cX1_shipsBeside 4 = .ok (.iload_n 3, 1) := by decide +kernel
theorem dX1_shipsBeside_5 : decode cX1_shipsBeside 5 = .ok (.aload_n 0, 1) := by decide +kernel
theorem dX1_shipsBeside_6 : decode cX1_shipsBeside 6 = .ok (.getfield 40, 3) := by decide +kernel
theorem dX1_shipsBeside_9 : decode cX1_shipsBeside 9 = .ok (.if_icmp .ge 21, 3) := by decide +kernel
theorem dX1_shipsBeside_12 : decode cX1_shipsBeside 12 = .ok (.aload_n 0, 1) := by decide +kernel
theorem dX1_shipsBeside_13 : decode cX1_shipsBeside 13 = .ok (.iload_n 1, 1) := by decide +kernel
theorem dX1_shipsBeside_14 : decode cX1_shipsBeside 14 = .ok (.iload_n 3, 1) := by decide +kernel
theorem dX1_shipsBeside_15 : decode cX1_shipsBeside 15 = .ok (.invokevirtual 57, 3) := by decide +kernel
theorem dX1_shipsBeside_18 : decode cX1_shipsBeside 18 = .ok (.ifCond .eq 6, 3) := by decide +kernel
theorem dX1_shipsBeside_21 : decode cX1_shipsBeside 21 = .ok (.iinc 2 1, 3) := by decide +kernel
theorem dX1_shipsBeside_24 : decode cX1_shipsBeside 24 = .ok (.iinc 3 1, 3) := by decide +kernel
theorem dX1_shipsBeside_27 : decode cX1_shipsBeside 27 = .ok (.goto (-23), 3) := by decide +kernel
theorem dX1_shipsBeside_30 : decode cX1_shipsBeside 30 = .ok (.iload_n 2, 1) := by decide +kernel
theorem dX1_shipsBeside_31 : decode cX1_shipsBeside 31 = .ok (.ireturn, 1) := by decide +kernel

theorem dX1_tellOthers_0 : decode cX1_tellOthers 0 = .ok (.iconst 0, 1) := by decide +kernel
theorem dX1_tellOthers_1 : decode cX1_tellOthers 1 = .ok (.istore_n 3, 1) := by decide +kernel
theorem dX1_tellOthers_2 : decode cX1_tellOthers 2 = .ok (.iload_n 3, 1) := by decide +kernel
theorem dX1_tellOthers_3 : decode cX1_tellOthers 3 = .ok (.aload_n 0, 1) := by decide +kernel
theorem dX1_tellOthers_4 : decode cX1_tellOthers 4 = .ok (.getfield 40, 3) := by decide +kernel
theorem dX1_tellOthers_7 : decode cX1_tellOthers 7 = .ok (.if_icmp .ge 21, 3) := by decide +kernel
theorem dX1_tellOthers_10 : decode cX1_tellOthers 10 = .ok (.iload_n 3, 1) := by decide +kernel
theorem dX1_tellOthers_11 : decode cX1_tellOthers 11 = .ok (.iload_n 1, 1) := by decide +kernel
theorem dX1_tellOthers_12 : decode cX1_tellOthers 12 = .ok (.if_icmp .eq 10, 3) := by decide +kernel
theorem dX1_tellOthers_15 : decode cX1_tellOthers 15 = .ok (.aload_n 0, 1) := by decide +kernel
theorem dX1_tellOthers_16 : decode cX1_tellOthers 16 = .ok (.getfield 21, 3) := by decide +kernel
theorem dX1_tellOthers_19 : decode cX1_tellOthers 19 = .ok (.iload_n 3, 1) := by decide +kernel
theorem dX1_tellOthers_20 : decode cX1_tellOthers 20 = .ok (.iload_n 2, 1) := by decide +kernel
theorem dX1_tellOthers_21 : decode cX1_tellOthers 21 = .ok (.iastore, 1) := by decide +kernel
theorem dX1_tellOthers_22 : decode cX1_tellOthers 22 = .ok (.iinc 3 1, 3) := by decide +kernel
theorem dX1_tellOthers_25 : decode cX1_tellOthers 25 = .ok (.goto (-23), 3) := by decide +kernel
theorem dX1_tellOthers_28 : decode cX1_tellOthers 28 = .ok (.return_, 1) := by decide +kernel

theorem dX4_comparison_0 : decode cX4_comparison 0 = .ok (.iload_n 0, 1) := by decide +kernel
theorem dX4_comparison_1 : decode cX4_comparison 1 = .ok (.bipush 22, 2) := by decide +kernel
theorem dX4_comparison_3 : decode cX4_comparison 3 = .ok (.ishl, 1) := by decide +kernel
theorem dX4_comparison_4 : decode cX4_comparison 4 = .ok (.iload_n 1, 1) := by decide +kernel
theorem dX4_comparison_5 : decode cX4_comparison 5 = .ok (.bipush 14, 2) := by decide +kernel
theorem dX4_comparison_7 : decode cX4_comparison 7 = .ok (.ishl, 1) := by decide +kernel
theorem dX4_comparison_8 : decode cX4_comparison 8 = .ok (.ior, 1) := by decide +kernel
theorem dX4_comparison_9 : decode cX4_comparison 9 = .ok (.iload_n 2, 1) := by decide +kernel
theorem dX4_comparison_10 : decode cX4_comparison 10 = .ok (.ior, 1) := by decide +kernel
theorem dX4_comparison_11 : decode cX4_comparison 11 = .ok (.ireturn, 1) := by decide +kernel

theorem dX4_whatOf_0 : decode cX4_whatOf 0 = .ok (.iload_n 0, 1) := by decide +kernel
theorem dX4_whatOf_1 : decode cX4_whatOf 1 = .ok (.bipush 22, 2) := by decide +kernel
theorem dX4_whatOf_3 : decode cX4_whatOf 3 = .ok (.ishr, 1) := by decide +kernel
theorem dX4_whatOf_4 : decode cX4_whatOf 4 = .ok (.ireturn, 1) := by decide +kernel

theorem dX4_agrees_0 : decode cX4_agrees 0 = .ok (.iload_n 0, 1) := by decide +kernel
theorem dX4_agrees_1 : decode cX4_agrees 1 = .ok (.sipush 16383, 3) := by decide +kernel
theorem dX4_agrees_4 : decode cX4_agrees 4 = .ok (.iand, 1) := by decide +kernel
theorem dX4_agrees_5 : decode cX4_agrees 5 = .ok (.istore_n 2, 1) := by decide +kernel
theorem dX4_agrees_6 : decode cX4_agrees 6 = .ok (.iload_n 0, 1) := by decide +kernel
theorem dX4_agrees_7 : decode cX4_agrees 7 = .ok (.bipush 14, 2) := by decide +kernel
theorem dX4_agrees_9 : decode cX4_agrees 9 = .ok (.ishr, 1) := by decide +kernel
theorem dX4_agrees_10 : decode cX4_agrees 10 = .ok (.sipush 255, 3) := by decide +kernel
theorem dX4_agrees_13 : decode cX4_agrees 13 = .ok (.iand, 1) := by decide +kernel
theorem dX4_agrees_14 : decode cX4_agrees 14 = .ok (.lookupswitch 48 #[(60, 26), (62, 37)], 26) := by decide +kernel
theorem dX4_agrees_40 : decode cX4_agrees 40 = .ok (.iload_n 1, 1) := by decide +kernel
theorem dX4_agrees_41 : decode cX4_agrees 41 = .ok (.iload_n 2, 1) := by decide +kernel
theorem dX4_agrees_42 : decode cX4_agrees 42 = .ok (.if_icmp .ge 7, 3) := by decide +kernel
theorem dX4_agrees_45 : decode cX4_agrees 45 = .ok (.iconst 1, 1) := by decide +kernel
theorem dX4_agrees_46 : decode cX4_agrees 46 = .ok (.goto 4, 3) := by decide +kernel
theorem dX4_agrees_49 : decode cX4_agrees 49 = .ok (.iconst 0, 1) := by decide +kernel
theorem dX4_agrees_50 : decode cX4_agrees 50 = .ok (.ireturn, 1) := by decide +kernel
theorem dX4_agrees_51 : decode cX4_agrees 51 = .ok (.iload_n 1, 1) := by decide +kernel
theorem dX4_agrees_52 : decode cX4_agrees 52 = .ok (.iload_n 2, 1) := by decide +kernel
theorem dX4_agrees_53 : decode cX4_agrees 53 = .ok (.if_icmp .le 7, 3) := by decide +kernel
theorem dX4_agrees_56 : decode cX4_agrees 56 = .ok (.iconst 1, 1) := by decide +kernel
theorem dX4_agrees_57 : decode cX4_agrees 57 = .ok (.goto 4, 3) := by decide +kernel
theorem dX4_agrees_60 : decode cX4_agrees 60 = .ok (.iconst 0, 1) := by decide +kernel
theorem dX4_agrees_61 : decode cX4_agrees 61 = .ok (.ireturn, 1) := by decide +kernel
theorem dX4_agrees_62 : decode cX4_agrees 62 = .ok (.iload_n 1, 1) := by decide +kernel
theorem dX4_agrees_63 : decode cX4_agrees 63 = .ok (.iload_n 2, 1) := by decide +kernel
theorem dX4_agrees_64 : decode cX4_agrees 64 = .ok (.if_icmp .ne 7, 3) := by decide +kernel
theorem dX4_agrees_67 : decode cX4_agrees 67 = .ok (.iconst 1, 1) := by decide +kernel
theorem dX4_agrees_68 : decode cX4_agrees 68 = .ok (.goto 4, 3) := by decide +kernel
theorem dX4_agrees_71 : decode cX4_agrees 71 = .ok (.iconst 0, 1) := by decide +kernel
theorem dX4_agrees_72 : decode cX4_agrees 72 = .ok (.ireturn, 1) := by decide +kernel

theorem dX6_append_0 : decode cX6_append 0 = .ok (.bipush 24, 2) := by decide +kernel
theorem dX6_append_2 : decode cX6_append 2 = .ok (.istore_n 2, 1) := by decide +kernel
theorem dX6_append_3 : decode cX6_append 3 = .ok (.iload_n 2, 1) := by decide +kernel
theorem dX6_append_4 : decode cX6_append 4 = .ok (.ifCond .lt 45, 3) := by decide +kernel
theorem dX6_append_7 : decode cX6_append 7 = .ok (.aload_n 0, 1) := by decide +kernel
theorem dX6_append_8 : decode cX6_append 8 = .ok (.getfield 15, 3) := by decide +kernel
theorem dX6_append_11 : decode cX6_append 11 = .ok (.sipush 400, 3) := by decide +kernel
theorem dX6_append_14 : decode cX6_append 14 = .ok (.if_icmp .ge 35, 3) := by decide +kernel
theorem dX6_append_17 : decode cX6_append 17 = .ok (.aload_n 0, 1) := by decide +kernel
theorem dX6_append_18 : decode cX6_append 18 = .ok (.getfield 9, 3) := by decide +kernel
theorem dX6_append_21 : decode cX6_append 21 = .ok (.aload_n 0, 1) := by decide +kernel
theorem dX6_append_22 : decode cX6_append 22 = .ok (.getfield 15, 3) := by decide +kernel
theorem dX6_append_25 : decode cX6_append 25 = .ok (.iload_n 1, 1) := by decide +kernel
theorem dX6_append_26 : decode cX6_append 26 = .ok (.iload_n 2, 1) := by decide +kernel
theorem dX6_append_27 : decode cX6_append 27 = .ok (.iushr, 1) := by decide +kernel
theorem dX6_append_28 : decode cX6_append 28 = .ok (.sipush 255, 3) := by decide +kernel
theorem dX6_append_31 : decode cX6_append 31 = .ok (.iand, 1) := by decide +kernel
theorem dX6_append_32 : decode cX6_append 32 = .ok (.iastore, 1) := by decide +kernel
theorem dX6_append_33 : decode cX6_append 33 = .ok (.aload_n 0, 1) := by decide +kernel
theorem dX6_append_34 : decode cX6_append 34 = .ok (.dup, 1) := by decide +kernel
theorem dX6_append_35 : decode cX6_append 35 = .ok (.getfield 15, 3) := by decide +kernel
theorem dX6_append_38 : decode cX6_append 38 = .ok (.iconst 1, 1) := by decide +kernel
theorem dX6_append_39 : decode cX6_append 39 = .ok (.iadd, 1) := by decide +kernel
theorem dX6_append_40 : decode cX6_append 40 = .ok (.putfield 15, 3) := by decide +kernel
theorem dX6_append_43 : decode cX6_append 43 = .ok (.iinc 2 (-8), 3) := by decide +kernel
theorem dX6_append_46 : decode cX6_append 46 = .ok (.goto (-43), 3) := by decide +kernel
theorem dX6_append_49 : decode cX6_append 49 = .ok (.return_, 1) := by decide +kernel

theorem dX6_at_0 : decode cX6_at 0 = .ok (.iload_n 1, 1) := by decide +kernel
theorem dX6_at_1 : decode cX6_at 1 = .ok (.ifCond .lt 20, 3) := by decide +kernel
theorem dX6_at_4 : decode cX6_at 4 = .ok (.iload_n 1, 1) := by decide +kernel
theorem dX6_at_5 : decode cX6_at 5 = .ok (.aload_n 0, 1) := by decide +kernel
theorem dX6_at_6 : decode cX6_at 6 = .ok (.getfield 15, 3) := by decide +kernel
theorem dX6_at_9 : decode cX6_at 9 = .ok (.if_icmp .ge 12, 3) := by decide +kernel
theorem dX6_at_12 : decode cX6_at 12 = .ok (.aload_n 0, 1) := by decide +kernel
theorem dX6_at_13 : decode cX6_at 13 = .ok (.getfield 9, 3) := by decide +kernel
theorem dX6_at_16 : decode cX6_at 16 = .ok (.iload_n 1, 1) := by decide +kernel
theorem dX6_at_17 : decode cX6_at 17 = .ok (.iaload, 1) := by decide +kernel
theorem dX6_at_18 : decode cX6_at 18 = .ok (.goto 4, 3) := by decide +kernel
theorem dX6_at_21 : decode cX6_at 21 = .ok (.iconst 0, 1) := by decide +kernel
theorem dX6_at_22 : decode cX6_at 22 = .ok (.ireturn, 1) := by decide +kernel

theorem dX6_copy_0 : decode cX6_copy 0 = .ok (.aload_n 0, 1) := by decide +kernel
theorem dX6_copy_1 : decode cX6_copy 1 = .ok (.aload_n 1, 1) := by decide +kernel
theorem dX6_copy_2 : decode cX6_copy 2 = .ok (.getfield 15, 3) := by decide +kernel
theorem dX6_copy_5 : decode cX6_copy 5 = .ok (.putfield 15, 3) := by decide +kernel
theorem dX6_copy_8 : decode cX6_copy 8 = .ok (.aload_n 1, 1) := by decide +kernel
theorem dX6_copy_9 : decode cX6_copy 9 = .ok (.getfield 9, 3) := by decide +kernel
theorem dX6_copy_12 : decode cX6_copy 12 = .ok (.iconst 0, 1) := by decide +kernel
theorem dX6_copy_13 : decode cX6_copy 13 = .ok (.aload_n 0, 1) := by decide +kernel
theorem dX6_copy_14 : decode cX6_copy 14 = .ok (.getfield 9, 3) := by decide +kernel
theorem dX6_copy_17 : decode cX6_copy 17 = .ok (.iconst 0, 1) := by decide +kernel
theorem dX6_copy_18 : decode cX6_copy 18 = .ok (.sipush 400, 3) := by decide +kernel
theorem dX6_copy_21 : decode cX6_copy 21 = .ok (.invokestatic 19, 3) := by decide +kernel
theorem dX6_copy_24 : decode cX6_copy 24 = .ok (.return_, 1) := by decide +kernel

theorem dX7_put_0 : decode cX7_put 0 = .ok (.iload_n 1, 1) := by decide +kernel
theorem dX7_put_1 : decode cX7_put 1 = .ok (.iconst 0, 1) := by decide +kernel
theorem dX7_put_2 : decode cX7_put 2 = .ok (.invokestatic 21, 3) := by decide +kernel
theorem dX7_put_5 : decode cX7_put 5 = .ok (.istore 6, 2) := by decide +kernel
theorem dX7_put_7 : decode cX7_put 7 = .ok (.iload 6, 2) := by decide +kernel
theorem dX7_put_9 : decode cX7_put 9 = .ok (.iload_n 2, 1) := by decide +kernel
theorem dX7_put_10 : decode cX7_put 10 = .ok (.if_icmp .ge 43, 3) := by decide +kernel
theorem dX7_put_13 : decode cX7_put 13 = .ok (.iload 6, 2) := by decide +kernel
theorem dX7_put_15 : decode cX7_put 15 = .ok (.sipush 1000, 3) := by decide +kernel
theorem dX7_put_18 : decode cX7_put 18 = .ok (.if_icmp .ge 35, 3) := by decide +kernel
theorem dX7_put_21 : decode cX7_put 21 = .ok (.aload_n 0, 1) := by decide +kernel
theorem dX7_put_22 : decode cX7_put 22 = .ok (.getfield 9, 3) := by decide +kernel
theorem dX7_put_25 : decode cX7_put 25 = .ok (.iload 6, 2) := by decide +kernel
theorem dX7_put_27 : decode cX7_put 27 = .ok (.iload_n 3, 1) := by decide +kernel
theorem dX7_put_28 : decode cX7_put 28 = .ok (.iastore, 1) := by decide +kernel
theorem dX7_put_29 : decode cX7_put 29 = .ok (.aload_n 0, 1) := by decide +kernel
theorem dX7_put_30 : decode cX7_put 30 = .ok (.getfield 15, 3) := by decide +kernel
theorem dX7_put_33 : decode cX7_put 33 = .ok (.iload 6, 2) := by decide +kernel
theorem dX7_put_35 : decode cX7_put 35 = .ok (.iload 4, 2) := by decide +kernel
theorem dX7_put_37 : decode cX7_put 37 = .ok (.iastore, 1) := by decide +kernel
theorem dX7_put_38 : decode cX7_put 38 = .ok (.aload_n 0, 1) := by decide +kernel
theorem dX7_put_39 : decode cX7_put 39 = .ok (.getfield 18, 3) := by decide +kernel
theorem dX7_put_42 : decode cX7_put 42 = .ok (.iload 6, 2) := by decide +kernel
theorem dX7_put_44 : decode cX7_put 44 = .ok (.iload 5, 2) := by decide +kernel
theorem dX7_put_46 : decode cX7_put 46 = .ok (.iastore, 1) := by decide +kernel
theorem dX7_put_47 : decode cX7_put 47 = .ok (.iinc 6 1, 3) := by decide +kernel
theorem dX7_put_50 : decode cX7_put 50 = .ok (.goto (-43), 3) := by decide +kernel
theorem dX7_put_53 : decode cX7_put 53 = .ok (.return_, 1) := by decide +kernel

theorem dX7_copy_0 : decode cX7_copy 0 = .ok (.aload_n 1, 1) := by decide +kernel
theorem dX7_copy_1 : decode cX7_copy 1 = .ok (.getfield 9, 3) := by decide +kernel
theorem dX7_copy_4 : decode cX7_copy 4 = .ok (.iconst 0, 1) := by decide +kernel
theorem dX7_copy_5 : decode cX7_copy 5 = .ok (.aload_n 0, 1) := by decide +kernel
theorem dX7_copy_6 : decode cX7_copy 6 = .ok (.getfield 9, 3) := by decide +kernel
theorem dX7_copy_9 : decode cX7_copy 9 = .ok (.iconst 0, 1) := by decide +kernel
theorem dX7_copy_10 : decode cX7_copy 10 = .ok (.sipush 1000, 3) := by decide +kernel
theorem dX7_copy_13 : decode cX7_copy 13 = .ok (.invokestatic 27, 3) := by decide +kernel
theorem dX7_copy_16 : decode cX7_copy 16 = .ok (.aload_n 1, 1) := by decide +kernel
theorem dX7_copy_17 : decode cX7_copy 17 = .ok (.getfield 15, 3) := by decide +kernel
theorem dX7_copy_20 : decode cX7_copy 20 = .ok (.iconst 0, 1) := by decide +kernel
theorem dX7_copy_21 : decode cX7_copy 21 = .ok (.aload_n 0, 1) := by decide +kernel
theorem dX7_copy_22 : decode cX7_copy 22 = .ok (.getfield 15, 3) := by decide +kernel
theorem dX7_copy_25 : decode cX7_copy 25 = .ok (.iconst 0, 1) := by decide +kernel
theorem dX7_copy_26 : decode cX7_copy 26 = .ok (.sipush 1000, 3) := by decide +kernel
theorem dX7_copy_29 : decode cX7_copy 29 = .ok (.invokestatic 27, 3) := by decide +kernel
theorem dX7_copy_32 : decode cX7_copy 32 = .ok (.aload_n 1, 1) := by decide +kernel
theorem dX7_copy_33 : decode cX7_copy 33 = .ok (.getfield 18, 3) := by decide +kernel
theorem dX7_copy_36 : decode cX7_copy 36 = .ok (.iconst 0, 1) := by decide +kernel
theorem dX7_copy_37 : decode cX7_copy 37 = .ok (.aload_n 0, 1) := by decide +kernel
theorem dX7_copy_38 : decode cX7_copy 38 = .ok (.getfield 18, 3) := by decide +kernel
theorem dX7_copy_41 : decode cX7_copy 41 = .ok (.iconst 0, 1) := by decide +kernel
theorem dX7_copy_42 : decode cX7_copy 42 = .ok (.sipush 1000, 3) := by decide +kernel
theorem dX7_copy_45 : decode cX7_copy 45 = .ok (.invokestatic 27, 3) := by decide +kernel
theorem dX7_copy_48 : decode cX7_copy 48 = .ok (.return_, 1) := by decide +kernel

theorem dX9_isWhat_0 : decode cX9_isWhat 0 = .ok (.iload_n 0, 1) := by decide +kernel
theorem dX9_isWhat_1 : decode cX9_isWhat 1 = .ok (.ifCond .lt 13, 3) := by decide +kernel
theorem dX9_isWhat_4 : decode cX9_isWhat 4 = .ok (.iload_n 0, 1) := by decide +kernel
theorem dX9_isWhat_5 : decode cX9_isWhat 5 = .ok (.bipush 12, 2) := by decide +kernel
theorem dX9_isWhat_7 : decode cX9_isWhat 7 = .ok (.if_icmp .gt 7, 3) := by decide +kernel
theorem dX9_isWhat_10 : decode cX9_isWhat 10 = .ok (.iconst 1, 1) := by decide +kernel
theorem dX9_isWhat_11 : decode cX9_isWhat 11 = .ok (.goto 4, 3) := by decide +kernel
theorem dX9_isWhat_14 : decode cX9_isWhat 14 = .ok (.iconst 0, 1) := by decide +kernel
theorem dX9_isWhat_15 : decode cX9_isWhat 15 = .ok (.ireturn, 1) := by decide +kernel

theorem dX9_isAct_0 : decode cX9_isAct 0 = .ok (.iload_n 0, 1) := by decide +kernel
theorem dX9_isAct_1 : decode cX9_isAct 1 = .ok (.ifCond .lt 8, 3) := by decide +kernel
theorem dX9_isAct_4 : decode cX9_isAct 4 = .ok (.iload_n 0, 1) := by decide +kernel
theorem dX9_isAct_5 : decode cX9_isAct 5 = .ok (.iconst 3, 1) := by decide +kernel
theorem dX9_isAct_6 : decode cX9_isAct 6 = .ok (.if_icmp .le 21, 3) := by decide +kernel
theorem dX9_isAct_9 : decode cX9_isAct 9 = .ok (.iload_n 0, 1) := by decide +kernel
theorem dX9_isAct_10 : decode cX9_isAct 10 = .ok (.bipush 13, 2) := by decide +kernel
theorem dX9_isAct_12 : decode cX9_isAct 12 = .ok (.if_icmp .eq 15, 3) := by decide +kernel
theorem dX9_isAct_15 : decode cX9_isAct 15 = .ok (.iload_n 0, 1) := by decide +kernel
theorem dX9_isAct_16 : decode cX9_isAct 16 = .ok (.bipush 14, 2) := by decide +kernel
theorem dX9_isAct_18 : decode cX9_isAct 18 = .ok (.if_icmp .eq 9, 3) := by decide +kernel
theorem dX9_isAct_21 : decode cX9_isAct 21 = .ok (.iload_n 0, 1) := by decide +kernel
theorem dX9_isAct_22 : decode cX9_isAct 22 = .ok (.bipush 15, 2) := by decide +kernel
theorem dX9_isAct_24 : decode cX9_isAct 24 = .ok (.if_icmp .ne 7, 3) := by decide +kernel
theorem dX9_isAct_27 : decode cX9_isAct 27 = .ok (.iconst 1, 1) := by decide +kernel
theorem dX9_isAct_28 : decode cX9_isAct 28 = .ok (.goto 4, 3) := by decide +kernel
theorem dX9_isAct_31 : decode cX9_isAct 31 = .ok (.iconst 0, 1) := by decide +kernel
theorem dX9_isAct_32 : decode cX9_isAct 32 = .ok (.ireturn, 1) := by decide +kernel

/-! X1_has -/
def wX1_has (Q : Int32 → Prop) (x1 : Int32) (f_size : Int32) : Prop :=
  ((x1 < 0 → (Q (0 : Int32))) ∧ (¬ x1 < 0 → ((f_size ≤ x1 → (Q (0 : Int32))) ∧ (¬ f_size ≤ x1 → (Q (1 : Int32))))))
abbrev vX1_has (cI cZ : ClassId) (h h_strength h_fuel h_place h_told h_moved h_line h_done h_orders : Nat) (f_size : Int32) : va_W := [(h, .inr (1, [.ref h_strength, .ref h_fuel, .ref h_place, .ref h_told, .ref h_moved, .ref h_line, .ref h_done, .ref h_orders, .int f_size]))]
abbrev rmX1_has : Room := { frames := 0, cells := 0, slots := 0, locals := 0 }
abbrev qX1_has (dC : Nat → ClassId) (dI : Nat → Nat → Nat) (cI cZ cO cW : ClassId) (h h_strength h_fuel h_place h_told h_moved h_line h_done h_orders : Nat) (f_size : Int32) (Q : Int32 → Prop) (A : Nat → Prop) : Array Value → State → Outcome → State → Prop := va_Qi (fun (r : Int32) (u : Unit) => Q r) (fun (u : Unit) (t : State) => va_P (dC, dI) vwCl (vX1_has cI cZ h h_strength h_fuel h_place h_told h_moved h_line h_done h_orders f_size) t.heap ∧ va_K (dC, dI) vwCl (tysA cI cZ cO cW) t ∧ va_D A (vX1_has cI cZ h h_strength h_fuel h_place h_told h_moved h_line h_done h_orders f_size)) A
def zsX1_has : List Cond := Cond.code yX1_has cX1_has 2 (some .boolean) :: GW
set_option maxHeartbeats 4000000 in
set_option maxRecDepth 100000 in
theorem tX1_has_e {p : Program} {l : Launch} {e : Env} {s : State} {m : MethodId} {args : Array Value} {below : List Frame} {meth : Method} {c : Code} {dC : Nat → ClassId} {dI : Nat → Nat → Nat} {cI cZ cO cW : ClassId} {A : Nat → Prop} {h h_strength h_fuel h_place h_told h_moved h_line h_done h_orders : Nat} {Q : Int32 → Prop} (hC : Cx p s m args meth c cX1_has (some .boolean) 2 GW RX1) (hK : va_K (dC, dI) vwCl (tysA cI cZ cO cW) s) (hA : ∀ q : Nat, s.heap.size ≤ q → A q) :
    ∀ (x1 : Int32) (f_size : Int32) (H : Heap) (locs : List Loc) (ls : Array Slot), wX1_has Q x1 f_size → va_P (dC, dI) vwCl (vX1_has cI cZ h h_strength h_fuel h_place h_told h_moved h_line h_done h_orders f_size) H → va_D A (vX1_has cI cZ h h_strength h_fuel h_place h_told h_moved h_line h_done h_orders f_size) → va_S A s.heap H locs → lv_has ls 2 [(0, .ref h), (1, .int x1)] → W p l e rmX1_has s m args below meth c H locs 0 0 (MQ below (qX1_has dC dI cI cZ cO cW h h_strength h_fuel h_place h_told h_moved h_line h_done h_orders f_size Q A) args s 0 0 A) (F0 m 0 ls []) := by
  obtain ⟨hx, hb, hr, hml, hown, hts, hlocks⟩ := id hC
  intro x1 f_size H locs ls hw hP hD hS hl
  refine lv_iload_n hx hb dX1_has_0 rfl (lv_at hl 1 rfl) ?_
  refine lv_if_lt (tgt := 16) hx hb dX1_has_1 (by decide) (fun c_1 => ?_) (fun c_1 => ?_)
  · have hw := hw.1 c_1
    refine lv_iconst (v := (0 : Int32)) hx hb dX1_has_16 (by decide) ?_
    have hP9 := hP.sub (ws' := (vX1_has cI cZ h h_strength h_fuel h_place h_told h_moved h_line h_done h_orders f_size)) [0] rfl
    have hD9 := hD.sub (ws' := (vX1_has cI cZ h h_strength h_fuel h_place h_told h_moved h_line h_done h_orders f_size)) [0] (by decide) rfl
    exact W.zret (v := (0 : Int32)) (ty := .boolean) hx hb hr rfl (fun t ht hW => ⟨⟨(0 : Int32), (), rfl, hw, by rw [ht]; exact hP9, va_K.moved hW.alike hK, hD9⟩, hS.F ht⟩) hS.2.2 dX1_has_17
  · have hw := hw.2 c_1
    refine lv_iload_n hx hb dX1_has_4 rfl (lv_at hl 1 rfl) ?_
    refine lv_aload_n hx hb dX1_has_5 rfl (lv_at hl 0 rfl) ?_
    refine va_get (D := (dC, dI)) (ci := 1) (v := .int f_size) (C := RX1) (T := TX1) (N := 9) hx hb hts gu_X1 hown hK hP 0 rfl rfl 8 (by decide) (hts _ gw_53) (fun _ h9 => h9) rfl dX1_has_6 ?_
    refine lv_icmp_ge (tgt := 16) hx hb dX1_has_9 (by decide) (fun c_2 => ?_) (fun c_2 => ?_)
    · have hw := hw.1 c_2
      refine lv_iconst (v := (0 : Int32)) hx hb dX1_has_16 (by decide) ?_
      have hP9 := hP.sub (ws' := (vX1_has cI cZ h h_strength h_fuel h_place h_told h_moved h_line h_done h_orders f_size)) [0] rfl
      have hD9 := hD.sub (ws' := (vX1_has cI cZ h h_strength h_fuel h_place h_told h_moved h_line h_done h_orders f_size)) [0] (by decide) rfl
      exact W.zret (v := (0 : Int32)) (ty := .boolean) hx hb hr rfl (fun t ht hW => ⟨⟨(0 : Int32), (), rfl, hw, by rw [ht]; exact hP9, va_K.moved hW.alike hK, hD9⟩, hS.F ht⟩) hS.2.2 dX1_has_17
    · have hw := hw.2 c_2
      refine lv_iconst (v := (1 : Int32)) hx hb dX1_has_12 (by decide) ?_
      refine lv_goto (tgt := 17) hx hb dX1_has_13 (by decide) ?_
      have hP9 := hP.sub (ws' := (vX1_has cI cZ h h_strength h_fuel h_place h_told h_moved h_line h_done h_orders f_size)) [0] rfl
      have hD9 := hD.sub (ws' := (vX1_has cI cZ h h_strength h_fuel h_place h_told h_moved h_line h_done h_orders f_size)) [0] (by decide) rfl
      exact W.zret (v := (1 : Int32)) (ty := .boolean) hx hb hr rfl (fun t ht hW => ⟨⟨(1 : Int32), (), rfl, hw, by rw [ht]; exact hP9, va_K.moved hW.alike hK, hD9⟩, hS.F ht⟩) hS.2.2 dX1_has_17
set_option maxHeartbeats 4000000 in
set_option maxRecDepth 100000 in
theorem kX1_has (l : Launch) (dC : Nat → ClassId) (dI : Nat → Nat → Nat) (cI cZ cO cW : ClassId) (h h_strength h_fuel h_place h_told h_moved h_line h_done h_orders : Nat)  (sz : Nat) (f_size : Int32) (x1 : Int32) (Q : Int32 → Prop) (hw : wX1_has Q x1 f_size) : Met l yX1_has zsX1_has rmX1_has (va_Pc [.ref h, .int x1] (fun U => U.heap.size = sz ∧ va_P (dC, dI) vwCl (vX1_has cI cZ h h_strength h_fuel h_place h_told h_moved h_line h_done h_orders f_size) U.heap ∧ va_K (dC, dI) vwCl (tysA cI cZ cO cW) U ∧ va_D (fun _ => True) (vX1_has cI cZ h h_strength h_fuel h_place h_told h_moved h_line h_done h_orders f_size))) (qX1_has dC dI cI cZ cO cW h h_strength h_fuel h_place h_told h_moved h_line h_done h_orders f_size Q (va_A (vX1_has cI cZ h h_strength h_fuel h_place h_told h_moved h_line h_done h_orders f_size) sz)) 0 0 (va_A (vX1_has cI cZ h h_strength h_fuel h_place h_told h_moved h_line h_done h_orders f_size) sz) := by
  refine Met.ofW (cc := cX1_has) (maxL := 2) (ret := (some .boolean)) (by decide) rfl ?_
  intro p e s m args below meth c s₁ B hml hv
  obtain ⟨rfl, hsz, hP, hK, hD0⟩ := hv
  subst hsz
  have hC : Cx p s m ([.ref h, .int x1] : List Value).toArray meth c cX1_has (some .boolean) 2 GW RX1 := ⟨B.exec, B.bytes, B.returns, hml, findClass_of_methodNamed B.named, fun w h => atoms_spec (ws := zsX1_has) B.pre w (List.mem_cons_of_mem _ h), B.notSynchronized⟩
  have hD := hD0.self (sz := s.heap.size)
  generalize hAe : va_A (vX1_has cI cZ h h_strength h_fuel h_place h_told h_moved h_line h_done h_orders f_size) s.heap.size = A at hD ⊢
  have hA : ∀ q : Nat, s.heap.size ≤ q → A q := fun q h => by rw [← hAe]; exact Or.inr h
  have hl := lv_entry ([.ref h, .int x1]) (n := 2) (Nat.le_of_ble_eq_true rfl)
  rw [lg_entry_eq]
  generalize (lg_sl ([.ref h, .int x1]) ++ List.replicate (2 - (lg_sl ([.ref h, .int x1])).length) Slot.unset).toArray = ls at hl ⊢
  exact tX1_has_e hC hK hA x1 f_size _ _ ls hw hP hD va_S.rf hl

/-! X1_isBreaker -/
def wX1_isBreaker (Q : Int32 → Prop) (x1 : Int32) (r_fuel : Nat → Int32) : Prop :=
  (vp_in x1 8 ∧ (((r_fuel x1.toNatClampNeg) = (-1 : Int32) → (Q (0 : Int32))) ∧ (¬ (r_fuel x1.toNatClampNeg) = (-1 : Int32) → (Q (1 : Int32)))))
abbrev vX1_isBreaker (cI cZ : ClassId) (h h_strength h_fuel h_place h_told h_moved h_line h_done h_orders : Nat) (f_size : Int32) (r_fuel : Nat → Int32) : va_W := [(h, .inr (1, [.ref h_strength, .ref h_fuel, .ref h_place, .ref h_told, .ref h_moved, .ref h_line, .ref h_done, .ref h_orders, .int f_size])), (h_fuel, .inl (cI, 8, .inl r_fuel))]
abbrev rmX1_isBreaker : Room := { frames := 0, cells := 0, slots := 0, locals := 0 }
abbrev qX1_isBreaker (dC : Nat → ClassId) (dI : Nat → Nat → Nat) (cI cZ cO cW : ClassId) (h h_strength h_fuel h_place h_told h_moved h_line h_done h_orders : Nat) (f_size : Int32) (r_fuel : Nat → Int32) (Q : Int32 → Prop) (A : Nat → Prop) : Array Value → State → Outcome → State → Prop := va_Qi (fun (r : Int32) (u : Unit) => Q r) (fun (u : Unit) (t : State) => va_P (dC, dI) vwCl (vX1_isBreaker cI cZ h h_strength h_fuel h_place h_told h_moved h_line h_done h_orders f_size r_fuel) t.heap ∧ va_K (dC, dI) vwCl (tysA cI cZ cO cW) t ∧ va_D A (vX1_isBreaker cI cZ h h_strength h_fuel h_place h_told h_moved h_line h_done h_orders f_size r_fuel)) A
def zsX1_isBreaker : List Cond := Cond.code yX1_isBreaker cX1_isBreaker 2 (some .boolean) :: GW
set_option maxHeartbeats 4000000 in
set_option maxRecDepth 100000 in
theorem tX1_isBreaker_e {p : Program} {l : Launch} {e : Env} {s : State} {m : MethodId} {args : Array Value} {below : List Frame} {meth : Method} {c : Code} {dC : Nat → ClassId} {dI : Nat → Nat → Nat} {cI cZ cO cW : ClassId} {A : Nat → Prop} {h h_strength h_fuel h_place h_told h_moved h_line h_done h_orders : Nat} {f_size : Int32} {Q : Int32 → Prop} (hC : Cx p s m args meth c cX1_isBreaker (some .boolean) 2 GW RX1) (hK : va_K (dC, dI) vwCl (tysA cI cZ cO cW) s) (hA : ∀ q : Nat, s.heap.size ≤ q → A q) :
    ∀ (x1 : Int32) (r_fuel : Nat → Int32) (H : Heap) (locs : List Loc) (ls : Array Slot), wX1_isBreaker Q x1 r_fuel → va_P (dC, dI) vwCl (vX1_isBreaker cI cZ h h_strength h_fuel h_place h_told h_moved h_line h_done h_orders f_size r_fuel) H → va_D A (vX1_isBreaker cI cZ h h_strength h_fuel h_place h_told h_moved h_line h_done h_orders f_size r_fuel) → va_S A s.heap H locs → lv_has ls 2 [(0, .ref h), (1, .int x1)] → W p l e rmX1_isBreaker s m args below meth c H locs 0 0 (MQ below (qX1_isBreaker dC dI cI cZ cO cW h h_strength h_fuel h_place h_told h_moved h_line h_done h_orders f_size r_fuel Q A) args s 0 0 A) (F0 m 0 ls []) := by
  obtain ⟨hx, hb, hr, hml, hown, hts, hlocks⟩ := id hC
  intro x1 r_fuel H locs ls hw hP hD hS hl
  refine lv_aload_n hx hb dX1_isBreaker_0 rfl (lv_at hl 0 rfl) ?_
  refine va_get (D := (dC, dI)) (ci := 1) (v := .ref h_fuel) (C := RX1) (T := TX1) (N := 9) hx hb hts gu_X1 hown hK hP 0 rfl rfl 1 (by decide) (hts _ gw_44) (fun _ h9 => h9) rfl dX1_isBreaker_1 ?_
  refine lv_iload_n hx hb dX1_isBreaker_4 rfl (lv_at hl 1 rfl) ?_
  obtain ⟨h_1, hw⟩ := hw
  refine va_iald hx hb hK hP 1 0 rfl rfl h_1 dX1_isBreaker_5 ?_
  refine lv_iconst (v := (-1 : Int32)) hx hb dX1_isBreaker_6 (by decide) ?_
  refine lv_icmp_eq (tgt := 14) hx hb dX1_isBreaker_7 (by decide) (fun c_2 => ?_) (fun c_2 => ?_)
  · have hw := hw.1 c_2
    refine lv_iconst (v := (0 : Int32)) hx hb dX1_isBreaker_14 (by decide) ?_
    have hP9 := hP.sub (ws' := (vX1_isBreaker cI cZ h h_strength h_fuel h_place h_told h_moved h_line h_done h_orders f_size r_fuel)) [0, 1] rfl
    have hD9 := hD.sub (ws' := (vX1_isBreaker cI cZ h h_strength h_fuel h_place h_told h_moved h_line h_done h_orders f_size r_fuel)) [0, 1] (by decide) rfl
    exact W.zret (v := (0 : Int32)) (ty := .boolean) hx hb hr rfl (fun t ht hW => ⟨⟨(0 : Int32), (), rfl, hw, by rw [ht]; exact hP9, va_K.moved hW.alike hK, hD9⟩, hS.F ht⟩) hS.2.2 dX1_isBreaker_15
  · have hw := hw.2 c_2
    refine lv_iconst (v := (1 : Int32)) hx hb dX1_isBreaker_10 (by decide) ?_
    refine lv_goto (tgt := 15) hx hb dX1_isBreaker_11 (by decide) ?_
    have hP9 := hP.sub (ws' := (vX1_isBreaker cI cZ h h_strength h_fuel h_place h_told h_moved h_line h_done h_orders f_size r_fuel)) [0, 1] rfl
    have hD9 := hD.sub (ws' := (vX1_isBreaker cI cZ h h_strength h_fuel h_place h_told h_moved h_line h_done h_orders f_size r_fuel)) [0, 1] (by decide) rfl
    exact W.zret (v := (1 : Int32)) (ty := .boolean) hx hb hr rfl (fun t ht hW => ⟨⟨(1 : Int32), (), rfl, hw, by rw [ht]; exact hP9, va_K.moved hW.alike hK, hD9⟩, hS.F ht⟩) hS.2.2 dX1_isBreaker_15
set_option maxHeartbeats 4000000 in
set_option maxRecDepth 100000 in
theorem kX1_isBreaker (l : Launch) (dC : Nat → ClassId) (dI : Nat → Nat → Nat) (cI cZ cO cW : ClassId) (h h_strength h_fuel h_place h_told h_moved h_line h_done h_orders : Nat)  (sz : Nat) (f_size : Int32) (r_fuel : Nat → Int32) (x1 : Int32) (Q : Int32 → Prop) (hw : wX1_isBreaker Q x1 r_fuel) : Met l yX1_isBreaker zsX1_isBreaker rmX1_isBreaker (va_Pc [.ref h, .int x1] (fun U => U.heap.size = sz ∧ va_P (dC, dI) vwCl (vX1_isBreaker cI cZ h h_strength h_fuel h_place h_told h_moved h_line h_done h_orders f_size r_fuel) U.heap ∧ va_K (dC, dI) vwCl (tysA cI cZ cO cW) U ∧ va_D (fun _ => True) (vX1_isBreaker cI cZ h h_strength h_fuel h_place h_told h_moved h_line h_done h_orders f_size r_fuel))) (qX1_isBreaker dC dI cI cZ cO cW h h_strength h_fuel h_place h_told h_moved h_line h_done h_orders f_size r_fuel Q (va_A (vX1_isBreaker cI cZ h h_strength h_fuel h_place h_told h_moved h_line h_done h_orders f_size r_fuel) sz)) 0 0 (va_A (vX1_isBreaker cI cZ h h_strength h_fuel h_place h_told h_moved h_line h_done h_orders f_size r_fuel) sz) := by
  refine Met.ofW (cc := cX1_isBreaker) (maxL := 2) (ret := (some .boolean)) (by decide) rfl ?_
  intro p e s m args below meth c s₁ B hml hv
  obtain ⟨rfl, hsz, hP, hK, hD0⟩ := hv
  subst hsz
  have hC : Cx p s m ([.ref h, .int x1] : List Value).toArray meth c cX1_isBreaker (some .boolean) 2 GW RX1 := ⟨B.exec, B.bytes, B.returns, hml, findClass_of_methodNamed B.named, fun w h => atoms_spec (ws := zsX1_isBreaker) B.pre w (List.mem_cons_of_mem _ h), B.notSynchronized⟩
  have hD := hD0.self (sz := s.heap.size)
  generalize hAe : va_A (vX1_isBreaker cI cZ h h_strength h_fuel h_place h_told h_moved h_line h_done h_orders f_size r_fuel) s.heap.size = A at hD ⊢
  have hA : ∀ q : Nat, s.heap.size ≤ q → A q := fun q h => by rw [← hAe]; exact Or.inr h
  have hl := lv_entry ([.ref h, .int x1]) (n := 2) (Nat.le_of_ble_eq_true rfl)
  rw [lg_entry_eq]
  generalize (lg_sl ([.ref h, .int x1]) ++ List.replicate (2 - (lg_sl ([.ref h, .int x1])).length) Slot.unset).toArray = ls at hl ⊢
  exact tX1_isBreaker_e hC hK hA x1 r_fuel _ _ ls hw hP hD va_S.rf hl

/-! X1_shipIn -/
def wX1_shipIn_2 (Q : Int32 → Prop)   : Nat → Int32 → Int32 → Int32 → (Nat → Int32) → Prop
  | 0, _, _, _, _ => False
  | n + 1, x1, x2, f_size, r_place => ((f_size ≤ x2 → (Q (-1 : Int32))) ∧ (¬ f_size ≤ x2 → (vp_in x2 8 ∧ ((¬ (r_place x2.toNatClampNeg) = x1 → (wX1_shipIn_2 Q n x1 (x2 + (1 : Int32)) f_size r_place)) ∧ ((r_place x2.toNatClampNeg) = x1 → (Q x2))))))
def wX1_shipIn (Q : Int32 → Prop) (x1 : Int32) (f_size : Int32) (r_place : Nat → Int32) : Prop :=
  (∃ j_, wX1_shipIn_2 Q j_ x1 (0 : Int32) f_size r_place)
abbrev vX1_shipIn (cI cZ : ClassId) (h h_strength h_fuel h_place h_told h_moved h_line h_done h_orders : Nat) (f_size : Int32) (r_place : Nat → Int32) : va_W := [(h, .inr (1, [.ref h_strength, .ref h_fuel, .ref h_place, .ref h_told, .ref h_moved, .ref h_line, .ref h_done, .ref h_orders, .int f_size])), (h_place, .inl (cI, 8, .inl r_place))]
abbrev rmX1_shipIn : Room := { frames := 0, cells := 0, slots := 0, locals := 0 }
abbrev qX1_shipIn (dC : Nat → ClassId) (dI : Nat → Nat → Nat) (cI cZ cO cW : ClassId) (h h_strength h_fuel h_place h_told h_moved h_line h_done h_orders : Nat) (f_size : Int32) (r_place : Nat → Int32) (Q : Int32 → Prop) (A : Nat → Prop) : Array Value → State → Outcome → State → Prop := va_Qi (fun (r : Int32) (u : Unit) => Q r) (fun (u : Unit) (t : State) => va_P (dC, dI) vwCl (vX1_shipIn cI cZ h h_strength h_fuel h_place h_told h_moved h_line h_done h_orders f_size r_place) t.heap ∧ va_K (dC, dI) vwCl (tysA cI cZ cO cW) t ∧ va_D A (vX1_shipIn cI cZ h h_strength h_fuel h_place h_told h_moved h_line h_done h_orders f_size r_place)) A
def zsX1_shipIn : List Cond := Cond.code yX1_shipIn cX1_shipIn 3 (some .int) :: GW
set_option maxHeartbeats 4000000 in
set_option maxRecDepth 100000 in
theorem tX1_shipIn_2 {p : Program} {l : Launch} {e : Env} {s : State} {m : MethodId} {args : Array Value} {below : List Frame} {meth : Method} {c : Code} {dC : Nat → ClassId} {dI : Nat → Nat → Nat} {cI cZ cO cW : ClassId} {A : Nat → Prop} {h h_strength h_fuel h_place h_told h_moved h_line h_done h_orders : Nat} {Q : Int32 → Prop}  (hC : Cx p s m args meth c cX1_shipIn (some .int) 3 GW RX1) (hK : va_K (dC, dI) vwCl (tysA cI cZ cO cW) s) (hA : ∀ q : Nat, s.heap.size ≤ q → A q) :
    ∀ (n : Nat) (x1 : Int32) (x2 : Int32) (f_size : Int32) (r_place : (Nat → Int32)) (H : Heap) (locs : List Loc) (ls : Array Slot), wX1_shipIn_2 Q  n x1 x2 f_size r_place → va_P (dC, dI) vwCl (vX1_shipIn cI cZ h h_strength h_fuel h_place h_told h_moved h_line h_done h_orders f_size r_place) H → va_D A (vX1_shipIn cI cZ h h_strength h_fuel h_place h_told h_moved h_line h_done h_orders f_size r_place) → va_S A s.heap H locs → lv_has ls 3 [(0, .ref h), (1, .int x1), (2, .int x2)] → W p l e rmX1_shipIn s m args below meth c H locs 0 0 (MQ below (qX1_shipIn dC dI cI cZ cO cW h h_strength h_fuel h_place h_told h_moved h_line h_done h_orders f_size r_place Q A) args s 0 0 A) (F0 m 2 ls []) := by
  obtain ⟨hx, hb, hr, hml, hown, hts, hlocks⟩ := id hC
  intro n
  induction n with
  | zero =>
    intro  x1 x2 f_size r_place H locs ls hw
    exact hw.elim
  | succ n ih =>
    intro  x1 x2 f_size r_place H locs ls hw hP hD hS hl
    refine lv_iload_n hx hb dX1_shipIn_2 rfl (lv_at hl 2 rfl) ?_
    refine lv_aload_n hx hb dX1_shipIn_3 rfl (lv_at hl 0 rfl) ?_
    refine va_get (D := (dC, dI)) (ci := 1) (v := .int f_size) (C := RX1) (T := TX1) (N := 9) hx hb hts gu_X1 hown hK hP 0 rfl rfl 8 (by decide) (hts _ gw_53) (fun _ h9 => h9) rfl dX1_shipIn_4 ?_
    refine lv_icmp_ge (tgt := 28) hx hb dX1_shipIn_7 (by decide) (fun c_1 => ?_) (fun c_1 => ?_)
    · have hw := hw.1 c_1
      refine lv_iconst (v := (-1 : Int32)) hx hb dX1_shipIn_28 (by decide) ?_
      have hP9 := hP.sub (ws' := (vX1_shipIn cI cZ h h_strength h_fuel h_place h_told h_moved h_line h_done h_orders f_size r_place)) [0, 1] rfl
      have hD9 := hD.sub (ws' := (vX1_shipIn cI cZ h h_strength h_fuel h_place h_told h_moved h_line h_done h_orders f_size r_place)) [0, 1] (by decide) rfl
      exact W.iret (v := (-1 : Int32)) hx hb hr (fun t ht hW => ⟨⟨(-1 : Int32), (), rfl, hw, by rw [ht]; exact hP9, va_K.moved hW.alike hK, hD9⟩, hS.F ht⟩) hS.2.2 dX1_shipIn_29
    · have hw := hw.2 c_1
      refine lv_aload_n hx hb dX1_shipIn_10 rfl (lv_at hl 0 rfl) ?_
      refine va_get (D := (dC, dI)) (ci := 1) (v := .ref h_place) (C := RX1) (T := TX1) (N := 9) hx hb hts gu_X1 hown hK hP 0 rfl rfl 2 (by decide) (hts _ gw_45) (fun _ h9 => h9) rfl dX1_shipIn_11 ?_
      refine lv_iload_n hx hb dX1_shipIn_14 rfl (lv_at hl 2 rfl) ?_
      obtain ⟨h_2, hw⟩ := hw
      refine va_iald hx hb hK hP 1 0 rfl rfl h_2 dX1_shipIn_15 ?_
      refine lv_iload_n hx hb dX1_shipIn_16 rfl (lv_at hl 1 rfl) ?_
      refine lv_icmp_ne (tgt := 22) hx hb dX1_shipIn_17 (by decide) (fun c_3 => ?_) (fun c_3 => ?_)
      · have hw := hw.1 c_3
        refine lv_iinc (v := (x2 + (1 : Int32))) (lv' := [(2, .int (x2 + (1 : Int32))), (0, .ref h), (1, .int x1)]) hx hb dX1_shipIn_22 hl (k := 2) rfl rfl (by decide) rfl (fun ls hl => ?_)
        refine lv_goto (tgt := 2) hx hb dX1_shipIn_25 (by decide) ?_
        exact ih x1 (x2 + (1 : Int32)) f_size r_place _ _ ls hw (hP.sub [0, 1] rfl) (hD.sub [0, 1] (by decide) rfl) hS (lv_sub hl [1, 2, 0] rfl)
      · have hw := hw.2 c_3
        refine lv_iload_n hx hb dX1_shipIn_20 rfl (lv_at hl 2 rfl) ?_
        have hP9 := hP.sub (ws' := (vX1_shipIn cI cZ h h_strength h_fuel h_place h_told h_moved h_line h_done h_orders f_size r_place)) [0, 1] rfl
        have hD9 := hD.sub (ws' := (vX1_shipIn cI cZ h h_strength h_fuel h_place h_told h_moved h_line h_done h_orders f_size r_place)) [0, 1] (by decide) rfl
        exact W.iret (v := x2) hx hb hr (fun t ht hW => ⟨⟨x2, (), rfl, hw, by rw [ht]; exact hP9, va_K.moved hW.alike hK, hD9⟩, hS.F ht⟩) hS.2.2 dX1_shipIn_21
set_option maxHeartbeats 4000000 in
set_option maxRecDepth 100000 in
theorem tX1_shipIn_e {p : Program} {l : Launch} {e : Env} {s : State} {m : MethodId} {args : Array Value} {below : List Frame} {meth : Method} {c : Code} {dC : Nat → ClassId} {dI : Nat → Nat → Nat} {cI cZ cO cW : ClassId} {A : Nat → Prop} {h h_strength h_fuel h_place h_told h_moved h_line h_done h_orders : Nat} {Q : Int32 → Prop} (hC : Cx p s m args meth c cX1_shipIn (some .int) 3 GW RX1) (hK : va_K (dC, dI) vwCl (tysA cI cZ cO cW) s) (hA : ∀ q : Nat, s.heap.size ≤ q → A q) :
    ∀ (x1 : Int32) (f_size : Int32) (r_place : Nat → Int32) (H : Heap) (locs : List Loc) (ls : Array Slot), wX1_shipIn Q x1 f_size r_place → va_P (dC, dI) vwCl (vX1_shipIn cI cZ h h_strength h_fuel h_place h_told h_moved h_line h_done h_orders f_size r_place) H → va_D A (vX1_shipIn cI cZ h h_strength h_fuel h_place h_told h_moved h_line h_done h_orders f_size r_place) → va_S A s.heap H locs → lv_has ls 3 [(0, .ref h), (1, .int x1)] → W p l e rmX1_shipIn s m args below meth c H locs 0 0 (MQ below (qX1_shipIn dC dI cI cZ cO cW h h_strength h_fuel h_place h_told h_moved h_line h_done h_orders f_size r_place Q A) args s 0 0 A) (F0 m 0 ls []) := by
  obtain ⟨hx, hb, hr, hml, hown, hts, hlocks⟩ := id hC
  intro x1 f_size r_place H locs ls hw hP hD hS hl
  refine lv_iconst (v := (0 : Int32)) hx hb dX1_shipIn_0 (by decide) ?_
  refine lv_istore_n (lv' := [(2, .int (0 : Int32)), (0, .ref h), (1, .int x1)]) hx hb dX1_shipIn_1 rfl hl (by decide) rfl (fun ls hl => ?_)
  obtain ⟨n_4, hw⟩ := hw
  exact tX1_shipIn_2 hC hK hA  n_4 x1 (0 : Int32) f_size r_place _ _ ls hw (hP.sub [0, 1] rfl) (hD.sub [0, 1] (by decide) rfl) hS (lv_sub hl [1, 2, 0] rfl)
set_option maxHeartbeats 4000000 in
set_option maxRecDepth 100000 in
theorem kX1_shipIn (l : Launch) (dC : Nat → ClassId) (dI : Nat → Nat → Nat) (cI cZ cO cW : ClassId) (h h_strength h_fuel h_place h_told h_moved h_line h_done h_orders : Nat)  (sz : Nat) (f_size : Int32) (r_place : Nat → Int32) (x1 : Int32) (Q : Int32 → Prop) (hw : wX1_shipIn Q x1 f_size r_place) : Met l yX1_shipIn zsX1_shipIn rmX1_shipIn (va_Pc [.ref h, .int x1] (fun U => U.heap.size = sz ∧ va_P (dC, dI) vwCl (vX1_shipIn cI cZ h h_strength h_fuel h_place h_told h_moved h_line h_done h_orders f_size r_place) U.heap ∧ va_K (dC, dI) vwCl (tysA cI cZ cO cW) U ∧ va_D (fun _ => True) (vX1_shipIn cI cZ h h_strength h_fuel h_place h_told h_moved h_line h_done h_orders f_size r_place))) (qX1_shipIn dC dI cI cZ cO cW h h_strength h_fuel h_place h_told h_moved h_line h_done h_orders f_size r_place Q (va_A (vX1_shipIn cI cZ h h_strength h_fuel h_place h_told h_moved h_line h_done h_orders f_size r_place) sz)) 0 0 (va_A (vX1_shipIn cI cZ h h_strength h_fuel h_place h_told h_moved h_line h_done h_orders f_size r_place) sz) := by
  refine Met.ofW (cc := cX1_shipIn) (maxL := 3) (ret := (some .int)) (by decide) rfl ?_
  intro p e s m args below meth c s₁ B hml hv
  obtain ⟨rfl, hsz, hP, hK, hD0⟩ := hv
  subst hsz
  have hC : Cx p s m ([.ref h, .int x1] : List Value).toArray meth c cX1_shipIn (some .int) 3 GW RX1 := ⟨B.exec, B.bytes, B.returns, hml, findClass_of_methodNamed B.named, fun w h => atoms_spec (ws := zsX1_shipIn) B.pre w (List.mem_cons_of_mem _ h), B.notSynchronized⟩
  have hD := hD0.self (sz := s.heap.size)
  generalize hAe : va_A (vX1_shipIn cI cZ h h_strength h_fuel h_place h_told h_moved h_line h_done h_orders f_size r_place) s.heap.size = A at hD ⊢
  have hA : ∀ q : Nat, s.heap.size ≤ q → A q := fun q h => by rw [← hAe]; exact Or.inr h
  have hl := lv_entry ([.ref h, .int x1]) (n := 3) (Nat.le_of_ble_eq_true rfl)
  rw [lg_entry_eq]
  generalize (lg_sl ([.ref h, .int x1]) ++ List.replicate (3 - (lg_sl ([.ref h, .int x1])).length) Slot.unset).toArray = ls at hl ⊢
  exact tX1_shipIn_e hC hK hA x1 f_size r_place _ _ ls hw hP hD va_S.rf hl

/-! X1_beside -/
def wX1_beside (Q : Int32 → Prop) (x1 : Int32) (x2 : Int32) (r_place : Nat → Int32) : Prop :=
  (vp_in x1 8 ∧ (vp_in x2 8 ∧ (vp_in x1 8 ∧ (vp_in x2 8 ∧ ((¬ (((((r_place x1.toNatClampNeg) / (8 : Int32)) - ((r_place x2.toNatClampNeg) / (8 : Int32))) * (((r_place x1.toNatClampNeg) / (8 : Int32)) - ((r_place x2.toNatClampNeg) / (8 : Int32)))) + ((((r_place x1.toNatClampNeg) - (r_place x1.toNatClampNeg) / (8 : Int32) * (8 : Int32)) - ((r_place x2.toNatClampNeg) - (r_place x2.toNatClampNeg) / (8 : Int32) * (8 : Int32))) * (((r_place x1.toNatClampNeg) - (r_place x1.toNatClampNeg) / (8 : Int32) * (8 : Int32)) - ((r_place x2.toNatClampNeg) - (r_place x2.toNatClampNeg) / (8 : Int32) * (8 : Int32))))) = (1 : Int32) → (Q (0 : Int32))) ∧ ((((((r_place x1.toNatClampNeg) / (8 : Int32)) - ((r_place x2.toNatClampNeg) / (8 : Int32))) * (((r_place x1.toNatClampNeg) / (8 : Int32)) - ((r_place x2.toNatClampNeg) / (8 : Int32)))) + ((((r_place x1.toNatClampNeg) - (r_place x1.toNatClampNeg) / (8 : Int32) * (8 : Int32)) - ((r_place x2.toNatClampNeg) - (r_place x2.toNatClampNeg) / (8 : Int32) * (8 : Int32))) * (((r_place x1.toNatClampNeg) - (r_place x1.toNatClampNeg) / (8 : Int32) * (8 : Int32)) - ((r_place x2.toNatClampNeg) - (r_place x2.toNatClampNeg) / (8 : Int32) * (8 : Int32))))) = (1 : Int32) → (Q (1 : Int32))))))))
abbrev vX1_beside (cI cZ : ClassId) (h h_strength h_fuel h_place h_told h_moved h_line h_done h_orders : Nat) (f_size : Int32) (r_place : Nat → Int32) : va_W := [(h, .inr (1, [.ref h_strength, .ref h_fuel, .ref h_place, .ref h_told, .ref h_moved, .ref h_line, .ref h_done, .ref h_orders, .int f_size])), (h_place, .inl (cI, 8, .inl r_place))]
abbrev rmX1_beside : Room := { frames := 0, cells := 0, slots := 0, locals := 0 }
abbrev qX1_beside (dC : Nat → ClassId) (dI : Nat → Nat → Nat) (cI cZ cO cW : ClassId) (h h_strength h_fuel h_place h_told h_moved h_line h_done h_orders : Nat) (f_size : Int32) (r_place : Nat → Int32) (Q : Int32 → Prop) (A : Nat → Prop) : Array Value → State → Outcome → State → Prop := va_Qi (fun (r : Int32) (u : Unit) => Q r) (fun (u : Unit) (t : State) => va_P (dC, dI) vwCl (vX1_beside cI cZ h h_strength h_fuel h_place h_told h_moved h_line h_done h_orders f_size r_place) t.heap ∧ va_K (dC, dI) vwCl (tysA cI cZ cO cW) t ∧ va_D A (vX1_beside cI cZ h h_strength h_fuel h_place h_told h_moved h_line h_done h_orders f_size r_place)) A
def zsX1_beside : List Cond := Cond.code yX1_beside cX1_beside 5 (some .boolean) :: GW
set_option maxHeartbeats 4000000 in
set_option maxRecDepth 100000 in
theorem tX1_beside_e {p : Program} {l : Launch} {e : Env} {s : State} {m : MethodId} {args : Array Value} {below : List Frame} {meth : Method} {c : Code} {dC : Nat → ClassId} {dI : Nat → Nat → Nat} {cI cZ cO cW : ClassId} {A : Nat → Prop} {h h_strength h_fuel h_place h_told h_moved h_line h_done h_orders : Nat} {f_size : Int32} {Q : Int32 → Prop} (hC : Cx p s m args meth c cX1_beside (some .boolean) 5 GW RX1) (hK : va_K (dC, dI) vwCl (tysA cI cZ cO cW) s) (hA : ∀ q : Nat, s.heap.size ≤ q → A q) :
    ∀ (x1 : Int32) (x2 : Int32) (r_place : Nat → Int32) (H : Heap) (locs : List Loc) (ls : Array Slot), wX1_beside Q x1 x2 r_place → va_P (dC, dI) vwCl (vX1_beside cI cZ h h_strength h_fuel h_place h_told h_moved h_line h_done h_orders f_size r_place) H → va_D A (vX1_beside cI cZ h h_strength h_fuel h_place h_told h_moved h_line h_done h_orders f_size r_place) → va_S A s.heap H locs → lv_has ls 5 [(0, .ref h), (1, .int x1), (2, .int x2)] → W p l e rmX1_beside s m args below meth c H locs 0 0 (MQ below (qX1_beside dC dI cI cZ cO cW h h_strength h_fuel h_place h_told h_moved h_line h_done h_orders f_size r_place Q A) args s 0 0 A) (F0 m 0 ls []) := by
  obtain ⟨hx, hb, hr, hml, hown, hts, hlocks⟩ := id hC
  intro x1 x2 r_place H locs ls hw hP hD hS hl
  refine lv_aload_n hx hb dX1_beside_0 rfl (lv_at hl 0 rfl) ?_
  refine va_get (D := (dC, dI)) (ci := 1) (v := .ref h_place) (C := RX1) (T := TX1) (N := 9) hx hb hts gu_X1 hown hK hP 0 rfl rfl 2 (by decide) (hts _ gw_45) (fun _ h9 => h9) rfl dX1_beside_1 ?_
  refine lv_iload_n hx hb dX1_beside_4 rfl (lv_at hl 1 rfl) ?_
  obtain ⟨h_1, hw⟩ := hw
  refine va_iald hx hb hK hP 1 0 rfl rfl h_1 dX1_beside_5 ?_
  refine lv_bipush (v := (8 : Int32)) hx hb dX1_beside_6 (by decide) ?_
  refine lv_idiv hx hb dX1_beside_8 (by decide) ?_
  refine lv_aload_n hx hb dX1_beside_9 rfl (lv_at hl 0 rfl) ?_
  refine va_get (D := (dC, dI)) (ci := 1) (v := .ref h_place) (C := RX1) (T := TX1) (N := 9) hx hb hts gu_X1 hown hK hP 0 rfl rfl 2 (by decide) (hts _ gw_45) (fun _ h9 => h9) rfl dX1_beside_10 ?_
  refine lv_iload_n hx hb dX1_beside_13 rfl (lv_at hl 2 rfl) ?_
  obtain ⟨h_2, hw⟩ := hw
  refine va_iald hx hb hK hP 1 0 rfl rfl h_2 dX1_beside_14 ?_
  refine lv_bipush (v := (8 : Int32)) hx hb dX1_beside_15 (by decide) ?_
  refine lv_idiv hx hb dX1_beside_17 (by decide) ?_
  refine lv_isub hx hb dX1_beside_18 ?_
  refine lv_istore_n (lv' := [(3, .int (((r_place x1.toNatClampNeg) / (8 : Int32)) - ((r_place x2.toNatClampNeg) / (8 : Int32)))), (0, .ref h), (1, .int x1), (2, .int x2)]) hx hb dX1_beside_19 rfl hl (by decide) rfl (fun ls hl => ?_)
  refine lv_aload_n hx hb dX1_beside_20 rfl (lv_at hl 1 rfl) ?_
  refine va_get (D := (dC, dI)) (ci := 1) (v := .ref h_place) (C := RX1) (T := TX1) (N := 9) hx hb hts gu_X1 hown hK hP 0 rfl rfl 2 (by decide) (hts _ gw_45) (fun _ h9 => h9) rfl dX1_beside_21 ?_
  refine lv_iload_n hx hb dX1_beside_24 rfl (lv_at hl 2 rfl) ?_
  obtain ⟨h_3, hw⟩ := hw
  refine va_iald hx hb hK hP 1 0 rfl rfl h_3 dX1_beside_25 ?_
  refine lv_bipush (v := (8 : Int32)) hx hb dX1_beside_26 (by decide) ?_
  refine lv_irem hx hb dX1_beside_28 (by decide) ?_
  refine lv_aload_n hx hb dX1_beside_29 rfl (lv_at hl 1 rfl) ?_
  refine va_get (D := (dC, dI)) (ci := 1) (v := .ref h_place) (C := RX1) (T := TX1) (N := 9) hx hb hts gu_X1 hown hK hP 0 rfl rfl 2 (by decide) (hts _ gw_45) (fun _ h9 => h9) rfl dX1_beside_30 ?_
  refine lv_iload_n hx hb dX1_beside_33 rfl (lv_at hl 3 rfl) ?_
  obtain ⟨h_4, hw⟩ := hw
  refine va_iald hx hb hK hP 1 0 rfl rfl h_4 dX1_beside_34 ?_
  refine lv_bipush (v := (8 : Int32)) hx hb dX1_beside_35 (by decide) ?_
  refine lv_irem hx hb dX1_beside_37 (by decide) ?_
  refine lv_isub hx hb dX1_beside_38 ?_
  refine lv_istore (lv' := [(4, .int (((r_place x1.toNatClampNeg) - (r_place x1.toNatClampNeg) / (8 : Int32) * (8 : Int32)) - ((r_place x2.toNatClampNeg) - (r_place x2.toNatClampNeg) / (8 : Int32) * (8 : Int32)))), (3, .int (((r_place x1.toNatClampNeg) / (8 : Int32)) - ((r_place x2.toNatClampNeg) / (8 : Int32)))), (0, .ref h), (1, .int x1), (2, .int x2)]) hx hb dX1_beside_39 hl (by decide) rfl (fun ls hl => ?_)
  refine lv_iload_n hx hb dX1_beside_41 rfl (lv_at hl 1 rfl) ?_
  refine lv_iload_n hx hb dX1_beside_42 rfl (lv_at hl 1 rfl) ?_
  refine lv_imul hx hb dX1_beside_43 ?_
  refine lv_iload hx hb dX1_beside_44 (lv_at hl 0 rfl) ?_
  refine lv_iload hx hb dX1_beside_46 (lv_at hl 0 rfl) ?_
  refine lv_imul hx hb dX1_beside_48 ?_
  refine lv_iadd hx hb dX1_beside_49 ?_
  refine lv_iconst (v := (1 : Int32)) hx hb dX1_beside_50 (by decide) ?_
  refine lv_icmp_ne (tgt := 58) hx hb dX1_beside_51 (by decide) (fun c_5 => ?_) (fun c_5 => ?_)
  · have hw := hw.1 c_5
    refine lv_iconst (v := (0 : Int32)) hx hb dX1_beside_58 (by decide) ?_
    have hP9 := hP.sub (ws' := (vX1_beside cI cZ h h_strength h_fuel h_place h_told h_moved h_line h_done h_orders f_size r_place)) [0, 1] rfl
    have hD9 := hD.sub (ws' := (vX1_beside cI cZ h h_strength h_fuel h_place h_told h_moved h_line h_done h_orders f_size r_place)) [0, 1] (by decide) rfl
    exact W.zret (v := (0 : Int32)) (ty := .boolean) hx hb hr rfl (fun t ht hW => ⟨⟨(0 : Int32), (), rfl, hw, by rw [ht]; exact hP9, va_K.moved hW.alike hK, hD9⟩, hS.F ht⟩) hS.2.2 dX1_beside_59
  · have hw := hw.2 c_5
    refine lv_iconst (v := (1 : Int32)) hx hb dX1_beside_54 (by decide) ?_
    refine lv_goto (tgt := 59) hx hb dX1_beside_55 (by decide) ?_
    have hP9 := hP.sub (ws' := (vX1_beside cI cZ h h_strength h_fuel h_place h_told h_moved h_line h_done h_orders f_size r_place)) [0, 1] rfl
    have hD9 := hD.sub (ws' := (vX1_beside cI cZ h h_strength h_fuel h_place h_told h_moved h_line h_done h_orders f_size r_place)) [0, 1] (by decide) rfl
    exact W.zret (v := (1 : Int32)) (ty := .boolean) hx hb hr rfl (fun t ht hW => ⟨⟨(1 : Int32), (), rfl, hw, by rw [ht]; exact hP9, va_K.moved hW.alike hK, hD9⟩, hS.F ht⟩) hS.2.2 dX1_beside_59
set_option maxHeartbeats 4000000 in
set_option maxRecDepth 100000 in
theorem kX1_beside (l : Launch) (dC : Nat → ClassId) (dI : Nat → Nat → Nat) (cI cZ cO cW : ClassId) (h h_strength h_fuel h_place h_told h_moved h_line h_done h_orders : Nat)  (sz : Nat) (f_size : Int32) (r_place : Nat → Int32) (x1 : Int32) (x2 : Int32) (Q : Int32 → Prop) (hw : wX1_beside Q x1 x2 r_place) : Met l yX1_beside zsX1_beside rmX1_beside (va_Pc [.ref h, .int x1, .int x2] (fun U => U.heap.size = sz ∧ va_P (dC, dI) vwCl (vX1_beside cI cZ h h_strength h_fuel h_place h_told h_moved h_line h_done h_orders f_size r_place) U.heap ∧ va_K (dC, dI) vwCl (tysA cI cZ cO cW) U ∧ va_D (fun _ => True) (vX1_beside cI cZ h h_strength h_fuel h_place h_told h_moved h_line h_done h_orders f_size r_place))) (qX1_beside dC dI cI cZ cO cW h h_strength h_fuel h_place h_told h_moved h_line h_done h_orders f_size r_place Q (va_A (vX1_beside cI cZ h h_strength h_fuel h_place h_told h_moved h_line h_done h_orders f_size r_place) sz)) 0 0 (va_A (vX1_beside cI cZ h h_strength h_fuel h_place h_told h_moved h_line h_done h_orders f_size r_place) sz) := by
  refine Met.ofW (cc := cX1_beside) (maxL := 5) (ret := (some .boolean)) (by decide) rfl ?_
  intro p e s m args below meth c s₁ B hml hv
  obtain ⟨rfl, hsz, hP, hK, hD0⟩ := hv
  subst hsz
  have hC : Cx p s m ([.ref h, .int x1, .int x2] : List Value).toArray meth c cX1_beside (some .boolean) 5 GW RX1 := ⟨B.exec, B.bytes, B.returns, hml, findClass_of_methodNamed B.named, fun w h => atoms_spec (ws := zsX1_beside) B.pre w (List.mem_cons_of_mem _ h), B.notSynchronized⟩
  have hD := hD0.self (sz := s.heap.size)
  generalize hAe : va_A (vX1_beside cI cZ h h_strength h_fuel h_place h_told h_moved h_line h_done h_orders f_size r_place) s.heap.size = A at hD ⊢
  have hA : ∀ q : Nat, s.heap.size ≤ q → A q := fun q h => by rw [← hAe]; exact Or.inr h
  have hl := lv_entry ([.ref h, .int x1, .int x2]) (n := 5) (Nat.le_of_ble_eq_true rfl)
  rw [lg_entry_eq]
  generalize (lg_sl ([.ref h, .int x1, .int x2]) ++ List.replicate (5 - (lg_sl ([.ref h, .int x1, .int x2])).length) Slot.unset).toArray = ls at hl ⊢
  exact tX1_beside_e hC hK hA x1 x2 r_place _ _ ls hw hP hD va_S.rf hl

/-! X1_breakerBeside -/
def wX1_breakerBeside_29 (Q : Int32 → Prop) (K_2 : Int32 → Int32 → Int32 → (Nat → Int32) → (Nat → Int32) → Prop)  (x1 : Int32) (x2 : Int32) (f_size : Int32) (r_fuel : (Nat → Int32)) (r_place : (Nat → Int32)) : Prop :=
  (K_2 x1 (x2 + (1 : Int32)) f_size r_fuel r_place)
def wX1_breakerBeside_2 (Q : Int32 → Prop)   : Nat → Int32 → Int32 → Int32 → (Nat → Int32) → (Nat → Int32) → Prop
  | 0, _, _, _, _, _ => False
  | n + 1, x1, x2, f_size, r_fuel, r_place => ((f_size ≤ x2 → (Q (0 : Int32))) ∧ (¬ f_size ≤ x2 → (wX1_isBreaker (fun r_2 => ((r_2 = 0 → (wX1_breakerBeside_29 Q (wX1_breakerBeside_2 Q n) x1 x2 f_size r_fuel r_place)) ∧ (¬ r_2 = 0 → (wX1_beside (fun r_4 => ((r_4 = 0 → (wX1_breakerBeside_29 Q (wX1_breakerBeside_2 Q n) x1 x2 f_size r_fuel r_place)) ∧ (¬ r_4 = 0 → (Q (1 : Int32))))) x1 x2 r_place)))) x2 r_fuel)))
def wX1_breakerBeside (Q : Int32 → Prop) (x1 : Int32) (f_size : Int32) (r_fuel : Nat → Int32) (r_place : Nat → Int32) : Prop :=
  (∃ j_, wX1_breakerBeside_2 Q j_ x1 (0 : Int32) f_size r_fuel r_place)
abbrev vX1_breakerBeside (cI cZ : ClassId) (h h_strength h_fuel h_place h_told h_moved h_line h_done h_orders : Nat) (f_size : Int32) (r_fuel : Nat → Int32) (r_place : Nat → Int32) : va_W := [(h, .inr (1, [.ref h_strength, .ref h_fuel, .ref h_place, .ref h_told, .ref h_moved, .ref h_line, .ref h_done, .ref h_orders, .int f_size])), (h_fuel, .inl (cI, 8, .inl r_fuel)), (h_place, .inl (cI, 8, .inl r_place))]
abbrev rmX1_breakerBeside : Room := { frames := 1, cells := 0, slots := 0, locals := 24 }
abbrev qX1_breakerBeside (dC : Nat → ClassId) (dI : Nat → Nat → Nat) (cI cZ cO cW : ClassId) (h h_strength h_fuel h_place h_told h_moved h_line h_done h_orders : Nat) (f_size : Int32) (r_fuel : Nat → Int32) (r_place : Nat → Int32) (Q : Int32 → Prop) (A : Nat → Prop) : Array Value → State → Outcome → State → Prop := va_Qi (fun (r : Int32) (u : Unit) => Q r) (fun (u : Unit) (t : State) => va_P (dC, dI) vwCl (vX1_breakerBeside cI cZ h h_strength h_fuel h_place h_told h_moved h_line h_done h_orders f_size r_fuel r_place) t.heap ∧ va_K (dC, dI) vwCl (tysA cI cZ cO cW) t ∧ va_D A (vX1_breakerBeside cI cZ h h_strength h_fuel h_place h_told h_moved h_line h_done h_orders f_size r_fuel r_place)) A
def zsX1_breakerBeside : List Cond := Cond.code yX1_breakerBeside cX1_breakerBeside 3 (some .boolean) :: GW
set_option maxHeartbeats 4000000 in
set_option maxRecDepth 100000 in
theorem tX1_breakerBeside_29 {p : Program} {l : Launch} {e : Env} {s : State} {m : MethodId} {args : Array Value} {below : List Frame} {meth : Method} {c : Code} {dC : Nat → ClassId} {dI : Nat → Nat → Nat} {cI cZ cO cW : ClassId} {A : Nat → Prop} {h h_strength h_fuel h_place h_told h_moved h_line h_done h_orders : Nat} {Q : Int32 → Prop} {K_2 : Int32 → Int32 → Int32 → (Nat → Int32) → (Nat → Int32) → Prop} (hC : Cx p s m args meth c cX1_breakerBeside (some .boolean) 3 GW RX1) (hK : va_K (dC, dI) vwCl (tysA cI cZ cO cW) s) (hA : ∀ q : Nat, s.heap.size ≤ q → A q) (hk_2 : ∀ (x1 : Int32) (x2 : Int32) (f_size : Int32) (r_fuel : (Nat → Int32)) (r_place : (Nat → Int32)) (H : Heap) (locs : List Loc) (ls : Array Slot), K_2 x1 x2 f_size r_fuel r_place → va_P (dC, dI) vwCl (vX1_breakerBeside cI cZ h h_strength h_fuel h_place h_told h_moved h_line h_done h_orders f_size r_fuel r_place) H → va_D A (vX1_breakerBeside cI cZ h h_strength h_fuel h_place h_told h_moved h_line h_done h_orders f_size r_fuel r_place) → va_S A s.heap H locs → lv_has ls 3 [(0, .ref h), (1, .int x1), (2, .int x2)] → W p l e rmX1_breakerBeside s m args below meth c H locs 0 0 (MQ below (qX1_breakerBeside dC dI cI cZ cO cW h h_strength h_fuel h_place h_told h_moved h_line h_done h_orders f_size r_fuel r_place Q A) args s 0 0 A) (F0 m 2 ls [])) :
    ∀ (x1 : Int32) (x2 : Int32) (f_size : Int32) (r_fuel : (Nat → Int32)) (r_place : (Nat → Int32)) (H : Heap) (locs : List Loc) (ls : Array Slot), wX1_breakerBeside_29 Q K_2 x1 x2 f_size r_fuel r_place → va_P (dC, dI) vwCl (vX1_breakerBeside cI cZ h h_strength h_fuel h_place h_told h_moved h_line h_done h_orders f_size r_fuel r_place) H → va_D A (vX1_breakerBeside cI cZ h h_strength h_fuel h_place h_told h_moved h_line h_done h_orders f_size r_fuel r_place) → va_S A s.heap H locs → lv_has ls 3 [(0, .ref h), (1, .int x1), (2, .int x2)] → W p l e rmX1_breakerBeside s m args below meth c H locs 0 0 (MQ below (qX1_breakerBeside dC dI cI cZ cO cW h h_strength h_fuel h_place h_told h_moved h_line h_done h_orders f_size r_fuel r_place Q A) args s 0 0 A) (F0 m 29 ls []) := by
  obtain ⟨hx, hb, hr, hml, hown, hts, hlocks⟩ := id hC
  intro x1 x2 f_size r_fuel r_place H locs ls hw hP hD hS hl
  refine lv_iinc (v := (x2 + (1 : Int32))) (lv' := [(2, .int (x2 + (1 : Int32))), (0, .ref h), (1, .int x1)]) hx hb dX1_breakerBeside_29 hl (k := 2) rfl rfl (by decide) rfl (fun ls hl => ?_)
  refine lv_goto (tgt := 2) hx hb dX1_breakerBeside_32 (by decide) ?_
  exact hk_2 x1 (x2 + (1 : Int32)) f_size r_fuel r_place _ _ ls hw (hP.sub [0, 1, 2] rfl) (hD.sub [0, 1, 2] (by decide) rfl) hS (lv_sub hl [1, 2, 0] rfl)
set_option maxHeartbeats 4000000 in
set_option maxRecDepth 100000 in
theorem tX1_breakerBeside_2 {p : Program} {l : Launch} {e : Env} {s : State} {m : MethodId} {args : Array Value} {below : List Frame} {meth : Method} {c : Code} {dC : Nat → ClassId} {dI : Nat → Nat → Nat} {cI cZ cO cW : ClassId} {A : Nat → Prop} {h h_strength h_fuel h_place h_told h_moved h_line h_done h_orders : Nat} {Q : Int32 → Prop}  (hC : Cx p s m args meth c cX1_breakerBeside (some .boolean) 3 GW RX1) (hK : va_K (dC, dI) vwCl (tysA cI cZ cO cW) s) (hA : ∀ q : Nat, s.heap.size ≤ q → A q) :
    ∀ (n : Nat) (x1 : Int32) (x2 : Int32) (f_size : Int32) (r_fuel : (Nat → Int32)) (r_place : (Nat → Int32)) (H : Heap) (locs : List Loc) (ls : Array Slot), wX1_breakerBeside_2 Q  n x1 x2 f_size r_fuel r_place → va_P (dC, dI) vwCl (vX1_breakerBeside cI cZ h h_strength h_fuel h_place h_told h_moved h_line h_done h_orders f_size r_fuel r_place) H → va_D A (vX1_breakerBeside cI cZ h h_strength h_fuel h_place h_told h_moved h_line h_done h_orders f_size r_fuel r_place) → va_S A s.heap H locs → lv_has ls 3 [(0, .ref h), (1, .int x1), (2, .int x2)] → W p l e rmX1_breakerBeside s m args below meth c H locs 0 0 (MQ below (qX1_breakerBeside dC dI cI cZ cO cW h h_strength h_fuel h_place h_told h_moved h_line h_done h_orders f_size r_fuel r_place Q A) args s 0 0 A) (F0 m 2 ls []) := by
  obtain ⟨hx, hb, hr, hml, hown, hts, hlocks⟩ := id hC
  intro n
  induction n with
  | zero =>
    intro  x1 x2 f_size r_fuel r_place H locs ls hw
    exact hw.elim
  | succ n ih =>
    intro  x1 x2 f_size r_fuel r_place H locs ls hw hP hD hS hl
    refine lv_iload_n hx hb dX1_breakerBeside_2 rfl (lv_at hl 2 rfl) ?_
    refine lv_aload_n hx hb dX1_breakerBeside_3 rfl (lv_at hl 0 rfl) ?_
    refine va_get (D := (dC, dI)) (ci := 1) (v := .int f_size) (C := RX1) (T := TX1) (N := 9) hx hb hts gu_X1 hown hK hP 0 rfl rfl 8 (by decide) (hts _ gw_53) (fun _ h9 => h9) rfl dX1_breakerBeside_4 ?_
    refine lv_icmp_ge (tgt := 35) hx hb dX1_breakerBeside_7 (by decide) (fun c_1 => ?_) (fun c_1 => ?_)
    · have hw := hw.1 c_1
      refine lv_iconst (v := (0 : Int32)) hx hb dX1_breakerBeside_35 (by decide) ?_
      have hP9 := hP.sub (ws' := (vX1_breakerBeside cI cZ h h_strength h_fuel h_place h_told h_moved h_line h_done h_orders f_size r_fuel r_place)) [0, 1, 2] rfl
      have hD9 := hD.sub (ws' := (vX1_breakerBeside cI cZ h h_strength h_fuel h_place h_told h_moved h_line h_done h_orders f_size r_fuel r_place)) [0, 1, 2] (by decide) rfl
      exact W.zret (v := (0 : Int32)) (ty := .boolean) hx hb hr rfl (fun t ht hW => ⟨⟨(0 : Int32), (), rfl, hw, by rw [ht]; exact hP9, va_K.moved hW.alike hK, hD9⟩, hS.F ht⟩) hS.2.2 dX1_breakerBeside_36
    · have hw := hw.2 c_1
      refine lv_aload_n hx hb dX1_breakerBeside_10 rfl (lv_at hl 0 rfl) ?_
      refine lv_iload_n hx hb dX1_breakerBeside_11 rfl (lv_at hl 2 rfl) ?_
      have hPc := hP.sub (ws' := [(h, .inr (1, [.ref h_strength, .ref h_fuel, .ref h_place, .ref h_told, .ref h_moved, .ref h_line, .ref h_done, .ref h_orders, .int f_size])), (h_fuel, .inl (cI, 8, .inl r_fuel))]) [0, 1] rfl
      have hDc := hD.sub (ws' := [(h, .inr (1, [.ref h_strength, .ref h_fuel, .ref h_place, .ref h_told, .ref h_moved, .ref h_line, .ref h_done, .ref h_orders, .int f_size])), (h_fuel, .inl (cI, 8, .inl r_fuel))]) [0, 1] (by decide) rfl
      have hFc := va_free (wc := [(h, .inr (1, [.ref h_strength, .ref h_fuel, .ref h_place, .ref h_told, .ref h_moved, .ref h_line, .ref h_done, .ref h_orders, .int f_size])), (h_fuel, .inl (cI, 8, .inl r_fuel))]) hD hS hA [0, 1] rfl
      refine va_calli (va_runV (As := [.int x2]) (rest := []) ⟨hx, hb, hml, hown, hts⟩ (kX1_isBreaker l dC dI cI cZ cO cW h h_strength h_fuel h_place h_told h_moved h_line h_done h_orders H.size f_size r_fuel x2 _ hw) (cwV 1 hts (gV gw_64 gw_65 gw_66 gw_67 (gM gw_58)) rfl rfl rfl (by decide +kernel) ⟨Nat.le_of_ble_eq_true rfl, Nat.le_of_ble_eq_true rfl⟩) (pv_of hPc hK hDc (va_recv hK hPc (ci := 1) (q0 := 0) rfl rfl)) rfl rfl hl.1 rfl (lv_room (Nat.le_of_ble_eq_true rfl)) dX1_breakerBeside_12 ⟨Nat.zero_le _, Nat.zero_le _⟩) hS (fun q _ h => hFc q h) hFc (fun r_2 u t H locs ht hvm hw hB hz1 hk1 hS => ?_)
      obtain ⟨hP, hD⟩ := af_join (wr := [(h_place, .inl (cI, 8, .inl r_place))]) (w1 := [(h, .inr (1, [.ref h_strength, .ref h_fuel, .ref h_place, .ref h_told, .ref h_moved, .ref h_line, .ref h_done, .ref h_orders, .int f_size])), (h_fuel, .inl (cI, 8, .inl r_fuel))]) hB ht hP hD [0, 1] [2] rfl rfl (by decide) (by decide) hk1 hFc
      have hP : va_P (dC, dI) vwCl [(h_place, .inl (cI, 8, .inl r_place)), (h, .inr (1, [.ref h_strength, .ref h_fuel, .ref h_place, .ref h_told, .ref h_moved, .ref h_line, .ref h_done, .ref h_orders, .int f_size])), (h_fuel, .inl (cI, 8, .inl r_fuel))] _ := hP
      have hD : va_D A [(h_place, .inl (cI, 8, .inl r_place)), (h, .inr (1, [.ref h_strength, .ref h_fuel, .ref h_place, .ref h_told, .ref h_moved, .ref h_line, .ref h_done, .ref h_orders, .int f_size])), (h_fuel, .inl (cI, 8, .inl r_fuel))] := hD
      refine lv_if_eq (tgt := 29) hx hb dX1_breakerBeside_15 (by decide) (fun c_3 => ?_) (fun c_3 => ?_)
      · have hw := hw.1 c_3
        exact tX1_breakerBeside_29 hC hK hA ih x1 x2 f_size r_fuel r_place _ _ ls hw (hP.sub [1, 2, 0] rfl) (hD.sub [1, 2, 0] (by decide) rfl) hS (lv_sub hl [0, 1, 2] rfl)
      · have hw := hw.2 c_3
        refine lv_aload_n hx hb dX1_breakerBeside_18 rfl (lv_at hl 0 rfl) ?_
        refine lv_iload_n hx hb dX1_breakerBeside_19 rfl (lv_at hl 1 rfl) ?_
        refine lv_iload_n hx hb dX1_breakerBeside_20 rfl (lv_at hl 2 rfl) ?_
        have hPc := hP.sub (ws' := [(h, .inr (1, [.ref h_strength, .ref h_fuel, .ref h_place, .ref h_told, .ref h_moved, .ref h_line, .ref h_done, .ref h_orders, .int f_size])), (h_place, .inl (cI, 8, .inl r_place))]) [1, 0] rfl
        have hDc := hD.sub (ws' := [(h, .inr (1, [.ref h_strength, .ref h_fuel, .ref h_place, .ref h_told, .ref h_moved, .ref h_line, .ref h_done, .ref h_orders, .int f_size])), (h_place, .inl (cI, 8, .inl r_place))]) [1, 0] (by decide) rfl
        have hFc := va_free (wc := [(h, .inr (1, [.ref h_strength, .ref h_fuel, .ref h_place, .ref h_told, .ref h_moved, .ref h_line, .ref h_done, .ref h_orders, .int f_size])), (h_place, .inl (cI, 8, .inl r_place))]) hD hS hA [1, 0] rfl
        refine va_calli (va_runV (As := [.int x1, .int x2]) (rest := []) ⟨hx, hb, hml, hown, hts⟩ (kX1_beside l dC dI cI cZ cO cW h h_strength h_fuel h_place h_told h_moved h_line h_done h_orders H.size f_size r_place x1 x2 _ hw) (cwV 2 hts (gV gw_68 gw_69 gw_70 gw_67 (gM gw_62)) rfl rfl rfl (by decide +kernel) ⟨Nat.le_of_ble_eq_true rfl, Nat.le_of_ble_eq_true rfl⟩) (pv_of hPc hK hDc (va_recv hK hPc (ci := 1) (q0 := 0) rfl rfl)) rfl rfl hl.1 rfl (lv_room (Nat.le_of_ble_eq_true rfl)) dX1_breakerBeside_21 ⟨Nat.zero_le _, Nat.zero_le _⟩) hS (fun q _ h => hFc q h) hFc (fun r_4 u t H locs ht hvm hw hB hz1 hk1 hS => ?_)
        obtain ⟨hP, hD⟩ := af_join (wr := [(h_fuel, .inl (cI, 8, .inl r_fuel))]) (w1 := [(h, .inr (1, [.ref h_strength, .ref h_fuel, .ref h_place, .ref h_told, .ref h_moved, .ref h_line, .ref h_done, .ref h_orders, .int f_size])), (h_place, .inl (cI, 8, .inl r_place))]) hB ht hP hD [1, 0] [2] rfl rfl (by decide) (by decide) hk1 hFc
        have hP : va_P (dC, dI) vwCl [(h_fuel, .inl (cI, 8, .inl r_fuel)), (h, .inr (1, [.ref h_strength, .ref h_fuel, .ref h_place, .ref h_told, .ref h_moved, .ref h_line, .ref h_done, .ref h_orders, .int f_size])), (h_place, .inl (cI, 8, .inl r_place))] _ := hP
        have hD : va_D A [(h_fuel, .inl (cI, 8, .inl r_fuel)), (h, .inr (1, [.ref h_strength, .ref h_fuel, .ref h_place, .ref h_told, .ref h_moved, .ref h_line, .ref h_done, .ref h_orders, .int f_size])), (h_place, .inl (cI, 8, .inl r_place))] := hD
        refine lv_if_eq (tgt := 29) hx hb dX1_breakerBeside_24 (by decide) (fun c_5 => ?_) (fun c_5 => ?_)
        · have hw := hw.1 c_5
          exact tX1_breakerBeside_29 hC hK hA ih x1 x2 f_size r_fuel r_place _ _ ls hw (hP.sub [1, 0, 2] rfl) (hD.sub [1, 0, 2] (by decide) rfl) hS (lv_sub hl [0, 1, 2] rfl)
        · have hw := hw.2 c_5
          refine lv_iconst (v := (1 : Int32)) hx hb dX1_breakerBeside_27 (by decide) ?_
          have hP9 := hP.sub (ws' := (vX1_breakerBeside cI cZ h h_strength h_fuel h_place h_told h_moved h_line h_done h_orders f_size r_fuel r_place)) [1, 0, 2] rfl
          have hD9 := hD.sub (ws' := (vX1_breakerBeside cI cZ h h_strength h_fuel h_place h_told h_moved h_line h_done h_orders f_size r_fuel r_place)) [1, 0, 2] (by decide) rfl
          exact W.zret (v := (1 : Int32)) (ty := .boolean) hx hb hr rfl (fun t ht hW => ⟨⟨(1 : Int32), (), rfl, hw, by rw [ht]; exact hP9, va_K.moved hW.alike hK, hD9⟩, hS.F ht⟩) hS.2.2 dX1_breakerBeside_28
set_option maxHeartbeats 4000000 in
set_option maxRecDepth 100000 in
theorem tX1_breakerBeside_e {p : Program} {l : Launch} {e : Env} {s : State} {m : MethodId} {args : Array Value} {below : List Frame} {meth : Method} {c : Code} {dC : Nat → ClassId} {dI : Nat → Nat → Nat} {cI cZ cO cW : ClassId} {A : Nat → Prop} {h h_strength h_fuel h_place h_told h_moved h_line h_done h_orders : Nat} {Q : Int32 → Prop} (hC : Cx p s m args meth c cX1_breakerBeside (some .boolean) 3 GW RX1) (hK : va_K (dC, dI) vwCl (tysA cI cZ cO cW) s) (hA : ∀ q : Nat, s.heap.size ≤ q → A q) :
    ∀ (x1 : Int32) (f_size : Int32) (r_fuel : Nat → Int32) (r_place : Nat → Int32) (H : Heap) (locs : List Loc) (ls : Array Slot), wX1_breakerBeside Q x1 f_size r_fuel r_place → va_P (dC, dI) vwCl (vX1_breakerBeside cI cZ h h_strength h_fuel h_place h_told h_moved h_line h_done h_orders f_size r_fuel r_place) H → va_D A (vX1_breakerBeside cI cZ h h_strength h_fuel h_place h_told h_moved h_line h_done h_orders f_size r_fuel r_place) → va_S A s.heap H locs → lv_has ls 3 [(0, .ref h), (1, .int x1)] → W p l e rmX1_breakerBeside s m args below meth c H locs 0 0 (MQ below (qX1_breakerBeside dC dI cI cZ cO cW h h_strength h_fuel h_place h_told h_moved h_line h_done h_orders f_size r_fuel r_place Q A) args s 0 0 A) (F0 m 0 ls []) := by
  obtain ⟨hx, hb, hr, hml, hown, hts, hlocks⟩ := id hC
  intro x1 f_size r_fuel r_place H locs ls hw hP hD hS hl
  refine lv_iconst (v := (0 : Int32)) hx hb dX1_breakerBeside_0 (by decide) ?_
  refine lv_istore_n (lv' := [(2, .int (0 : Int32)), (0, .ref h), (1, .int x1)]) hx hb dX1_breakerBeside_1 rfl hl (by decide) rfl (fun ls hl => ?_)
  obtain ⟨n_6, hw⟩ := hw
  exact tX1_breakerBeside_2 hC hK hA  n_6 x1 (0 : Int32) f_size r_fuel r_place _ _ ls hw (hP.sub [0, 1, 2] rfl) (hD.sub [0, 1, 2] (by decide) rfl) hS (lv_sub hl [1, 2, 0] rfl)
set_option maxHeartbeats 4000000 in
set_option maxRecDepth 100000 in
theorem kX1_breakerBeside (l : Launch) (dC : Nat → ClassId) (dI : Nat → Nat → Nat) (cI cZ cO cW : ClassId) (h h_strength h_fuel h_place h_told h_moved h_line h_done h_orders : Nat)  (sz : Nat) (f_size : Int32) (r_fuel : Nat → Int32) (r_place : Nat → Int32) (x1 : Int32) (Q : Int32 → Prop) (hw : wX1_breakerBeside Q x1 f_size r_fuel r_place) : Met l yX1_breakerBeside zsX1_breakerBeside rmX1_breakerBeside (va_Pc [.ref h, .int x1] (fun U => U.heap.size = sz ∧ va_P (dC, dI) vwCl (vX1_breakerBeside cI cZ h h_strength h_fuel h_place h_told h_moved h_line h_done h_orders f_size r_fuel r_place) U.heap ∧ va_K (dC, dI) vwCl (tysA cI cZ cO cW) U ∧ va_D (fun _ => True) (vX1_breakerBeside cI cZ h h_strength h_fuel h_place h_told h_moved h_line h_done h_orders f_size r_fuel r_place))) (qX1_breakerBeside dC dI cI cZ cO cW h h_strength h_fuel h_place h_told h_moved h_line h_done h_orders f_size r_fuel r_place Q (va_A (vX1_breakerBeside cI cZ h h_strength h_fuel h_place h_told h_moved h_line h_done h_orders f_size r_fuel r_place) sz)) 0 0 (va_A (vX1_breakerBeside cI cZ h h_strength h_fuel h_place h_told h_moved h_line h_done h_orders f_size r_fuel r_place) sz) := by
  refine Met.ofW (cc := cX1_breakerBeside) (maxL := 3) (ret := (some .boolean)) (by decide) rfl ?_
  intro p e s m args below meth c s₁ B hml hv
  obtain ⟨rfl, hsz, hP, hK, hD0⟩ := hv
  subst hsz
  have hC : Cx p s m ([.ref h, .int x1] : List Value).toArray meth c cX1_breakerBeside (some .boolean) 3 GW RX1 := ⟨B.exec, B.bytes, B.returns, hml, findClass_of_methodNamed B.named, fun w h => atoms_spec (ws := zsX1_breakerBeside) B.pre w (List.mem_cons_of_mem _ h), B.notSynchronized⟩
  have hD := hD0.self (sz := s.heap.size)
  generalize hAe : va_A (vX1_breakerBeside cI cZ h h_strength h_fuel h_place h_told h_moved h_line h_done h_orders f_size r_fuel r_place) s.heap.size = A at hD ⊢
  have hA : ∀ q : Nat, s.heap.size ≤ q → A q := fun q h => by rw [← hAe]; exact Or.inr h
  have hl := lv_entry ([.ref h, .int x1]) (n := 3) (Nat.le_of_ble_eq_true rfl)
  rw [lg_entry_eq]
  generalize (lg_sl ([.ref h, .int x1]) ++ List.replicate (3 - (lg_sl ([.ref h, .int x1])).length) Slot.unset).toArray = ls at hl ⊢
  exact tX1_breakerBeside_e hC hK hA x1 f_size r_fuel r_place _ _ ls hw hP hD va_S.rf hl

/-! X1_shipsBeside -/
def wX1_shipsBeside_24 (Q : Int32 → Prop) (K_4 : Int32 → Int32 → Int32 → Int32 → (Nat → Int32) → Prop)  (x1 : Int32) (x2 : Int32) (x3 : Int32) (f_size : Int32) (r_place : (Nat → Int32)) : Prop :=
  (K_4 x1 x2 (x3 + (1 : Int32)) f_size r_place)
def wX1_shipsBeside_4 (Q : Int32 → Prop)   : Nat → Int32 → Int32 → Int32 → Int32 → (Nat → Int32) → Prop
  | 0, _, _, _, _, _ => False
  | n + 1, x1, x2, x3, f_size, r_place => ((f_size ≤ x3 → (Q x2)) ∧ (¬ f_size ≤ x3 → (wX1_beside (fun r_2 => ((r_2 = 0 → (wX1_shipsBeside_24 Q (wX1_shipsBeside_4 Q n) x1 x2 x3 f_size r_place)) ∧ (¬ r_2 = 0 → (wX1_shipsBeside_24 Q (wX1_shipsBeside_4 Q n) x1 (x2 + (1 : Int32)) x3 f_size r_place)))) x1 x3 r_place)))
def wX1_shipsBeside (Q : Int32 → Prop) (x1 : Int32) (f_size : Int32) (r_place : Nat → Int32) : Prop :=
  (∃ j_, wX1_shipsBeside_4 Q j_ x1 (0 : Int32) (0 : Int32) f_size r_place)
abbrev vX1_shipsBeside (cI cZ : ClassId) (h h_strength h_fuel h_place h_told h_moved h_line h_done h_orders : Nat) (f_size : Int32) (r_place : Nat → Int32) : va_W := [(h, .inr (1, [.ref h_strength, .ref h_fuel, .ref h_place, .ref h_told, .ref h_moved, .ref h_line, .ref h_done, .ref h_orders, .int f_size])), (h_place, .inl (cI, 8, .inl r_place))]
abbrev rmX1_shipsBeside : Room := { frames := 1, cells := 0, slots := 0, locals := 24 }
abbrev qX1_shipsBeside (dC : Nat → ClassId) (dI : Nat → Nat → Nat) (cI cZ cO cW : ClassId) (h h_strength h_fuel h_place h_told h_moved h_line h_done h_orders : Nat) (f_size : Int32) (r_place : Nat → Int32) (Q : Int32 → Prop) (A : Nat → Prop) : Array Value → State → Outcome → State → Prop := va_Qi (fun (r : Int32) (u : Unit) => Q r) (fun (u : Unit) (t : State) => va_P (dC, dI) vwCl (vX1_shipsBeside cI cZ h h_strength h_fuel h_place h_told h_moved h_line h_done h_orders f_size r_place) t.heap ∧ va_K (dC, dI) vwCl (tysA cI cZ cO cW) t ∧ va_D A (vX1_shipsBeside cI cZ h h_strength h_fuel h_place h_told h_moved h_line h_done h_orders f_size r_place)) A
def zsX1_shipsBeside : List Cond := Cond.code yX1_shipsBeside cX1_shipsBeside 4 (some .int) :: GW
set_option maxHeartbeats 4000000 in
set_option maxRecDepth 100000 in
theorem tX1_shipsBeside_24 {p : Program} {l : Launch} {e : Env} {s : State} {m : MethodId} {args : Array Value} {below : List Frame} {meth : Method} {c : Code} {dC : Nat → ClassId} {dI : Nat → Nat → Nat} {cI cZ cO cW : ClassId} {A : Nat → Prop} {h h_strength h_fuel h_place h_told h_moved h_line h_done h_orders : Nat} {Q : Int32 → Prop} {K_4 : Int32 → Int32 → Int32 → Int32 → (Nat → Int32) → Prop} (hC : Cx p s m args meth c cX1_shipsBeside (some .int) 4 GW RX1) (hK : va_K (dC, dI) vwCl (tysA cI cZ cO cW) s) (hA : ∀ q : Nat, s.heap.size ≤ q → A q) (hk_4 : ∀ (x1 : Int32) (x2 : Int32) (x3 : Int32) (f_size : Int32) (r_place : (Nat → Int32)) (H : Heap) (locs : List Loc) (ls : Array Slot), K_4 x1 x2 x3 f_size r_place → va_P (dC, dI) vwCl (vX1_shipsBeside cI cZ h h_strength h_fuel h_place h_told h_moved h_line h_done h_orders f_size r_place) H → va_D A (vX1_shipsBeside cI cZ h h_strength h_fuel h_place h_told h_moved h_line h_done h_orders f_size r_place) → va_S A s.heap H locs → lv_has ls 4 [(0, .ref h), (1, .int x1), (2, .int x2), (3, .int x3)] → W p l e rmX1_shipsBeside s m args below meth c H locs 0 0 (MQ below (qX1_shipsBeside dC dI cI cZ cO cW h h_strength h_fuel h_place h_told h_moved h_line h_done h_orders f_size r_place Q A) args s 0 0 A) (F0 m 4 ls [])) :
    ∀ (x1 : Int32) (x2 : Int32) (x3 : Int32) (f_size : Int32) (r_place : (Nat → Int32)) (H : Heap) (locs : List Loc) (ls : Array Slot), wX1_shipsBeside_24 Q K_4 x1 x2 x3 f_size r_place → va_P (dC, dI) vwCl (vX1_shipsBeside cI cZ h h_strength h_fuel h_place h_told h_moved h_line h_done h_orders f_size r_place) H → va_D A (vX1_shipsBeside cI cZ h h_strength h_fuel h_place h_told h_moved h_line h_done h_orders f_size r_place) → va_S A s.heap H locs → lv_has ls 4 [(0, .ref h), (1, .int x1), (2, .int x2), (3, .int x3)] → W p l e rmX1_shipsBeside s m args below meth c H locs 0 0 (MQ below (qX1_shipsBeside dC dI cI cZ cO cW h h_strength h_fuel h_place h_told h_moved h_line h_done h_orders f_size r_place Q A) args s 0 0 A) (F0 m 24 ls []) := by
  obtain ⟨hx, hb, hr, hml, hown, hts, hlocks⟩ := id hC
  intro x1 x2 x3 f_size r_place H locs ls hw hP hD hS hl
  refine lv_iinc (v := (x3 + (1 : Int32))) (lv' := [(3, .int (x3 + (1 : Int32))), (0, .ref h), (1, .int x1), (2, .int x2)]) hx hb dX1_shipsBeside_24 hl (k := 3) rfl rfl (by decide) rfl (fun ls hl => ?_)
  refine lv_goto (tgt := 4) hx hb dX1_shipsBeside_27 (by decide) ?_
  exact hk_4 x1 x2 (x3 + (1 : Int32)) f_size r_place _ _ ls hw (hP.sub [0, 1] rfl) (hD.sub [0, 1] (by decide) rfl) hS (lv_sub hl [1, 2, 3, 0] rfl)
set_option maxHeartbeats 4000000 in
set_option maxRecDepth 100000 in
theorem tX1_shipsBeside_4 {p : Program} {l : Launch} {e : Env} {s : State} {m : MethodId} {args : Array Value} {below : List Frame} {meth : Method} {c : Code} {dC : Nat → ClassId} {dI : Nat → Nat → Nat} {cI cZ cO cW : ClassId} {A : Nat → Prop} {h h_strength h_fuel h_place h_told h_moved h_line h_done h_orders : Nat} {Q : Int32 → Prop}  (hC : Cx p s m args meth c cX1_shipsBeside (some .int) 4 GW RX1) (hK : va_K (dC, dI) vwCl (tysA cI cZ cO cW) s) (hA : ∀ q : Nat, s.heap.size ≤ q → A q) :
    ∀ (n : Nat) (x1 : Int32) (x2 : Int32) (x3 : Int32) (f_size : Int32) (r_place : (Nat → Int32)) (H : Heap) (locs : List Loc) (ls : Array Slot), wX1_shipsBeside_4 Q  n x1 x2 x3 f_size r_place → va_P (dC, dI) vwCl (vX1_shipsBeside cI cZ h h_strength h_fuel h_place h_told h_moved h_line h_done h_orders f_size r_place) H → va_D A (vX1_shipsBeside cI cZ h h_strength h_fuel h_place h_told h_moved h_line h_done h_orders f_size r_place) → va_S A s.heap H locs → lv_has ls 4 [(0, .ref h), (1, .int x1), (2, .int x2), (3, .int x3)] → W p l e rmX1_shipsBeside s m args below meth c H locs 0 0 (MQ below (qX1_shipsBeside dC dI cI cZ cO cW h h_strength h_fuel h_place h_told h_moved h_line h_done h_orders f_size r_place Q A) args s 0 0 A) (F0 m 4 ls []) := by
  obtain ⟨hx, hb, hr, hml, hown, hts, hlocks⟩ := id hC
  intro n
  induction n with
  | zero =>
    intro  x1 x2 x3 f_size r_place H locs ls hw
    exact hw.elim
  | succ n ih =>
    intro  x1 x2 x3 f_size r_place H locs ls hw hP hD hS hl
    refine lv_iload_n hx hb dX1_shipsBeside_4 rfl (lv_at hl 3 rfl) ?_
    refine lv_aload_n hx hb dX1_shipsBeside_5 rfl (lv_at hl 0 rfl) ?_
    refine va_get (D := (dC, dI)) (ci := 1) (v := .int f_size) (C := RX1) (T := TX1) (N := 9) hx hb hts gu_X1 hown hK hP 0 rfl rfl 8 (by decide) (hts _ gw_53) (fun _ h9 => h9) rfl dX1_shipsBeside_6 ?_
    refine lv_icmp_ge (tgt := 30) hx hb dX1_shipsBeside_9 (by decide) (fun c_1 => ?_) (fun c_1 => ?_)
    · have hw := hw.1 c_1
      refine lv_iload_n hx hb dX1_shipsBeside_30 rfl (lv_at hl 2 rfl) ?_
      have hP9 := hP.sub (ws' := (vX1_shipsBeside cI cZ h h_strength h_fuel h_place h_told h_moved h_line h_done h_orders f_size r_place)) [0, 1] rfl
      have hD9 := hD.sub (ws' := (vX1_shipsBeside cI cZ h h_strength h_fuel h_place h_told h_moved h_line h_done h_orders f_size r_place)) [0, 1] (by decide) rfl
      exact W.iret (v := x2) hx hb hr (fun t ht hW => ⟨⟨x2, (), rfl, hw, by rw [ht]; exact hP9, va_K.moved hW.alike hK, hD9⟩, hS.F ht⟩) hS.2.2 dX1_shipsBeside_31
    · have hw := hw.2 c_1
      refine lv_aload_n hx hb dX1_shipsBeside_12 rfl (lv_at hl 0 rfl) ?_
      refine lv_iload_n hx hb dX1_shipsBeside_13 rfl (lv_at hl 1 rfl) ?_
      refine lv_iload_n hx hb dX1_shipsBeside_14 rfl (lv_at hl 3 rfl) ?_
      have hPc := hP.sub (ws' := [(h, .inr (1, [.ref h_strength, .ref h_fuel, .ref h_place, .ref h_told, .ref h_moved, .ref h_line, .ref h_done, .ref h_orders, .int f_size])), (h_place, .inl (cI, 8, .inl r_place))]) [0, 1] rfl
      have hDc := hD.sub (ws' := [(h, .inr (1, [.ref h_strength, .ref h_fuel, .ref h_place, .ref h_told, .ref h_moved, .ref h_line, .ref h_done, .ref h_orders, .int f_size])), (h_place, .inl (cI, 8, .inl r_place))]) [0, 1] (by decide) rfl
      have hFc := va_free (wc := [(h, .inr (1, [.ref h_strength, .ref h_fuel, .ref h_place, .ref h_told, .ref h_moved, .ref h_line, .ref h_done, .ref h_orders, .int f_size])), (h_place, .inl (cI, 8, .inl r_place))]) hD hS hA [0, 1] rfl
      refine va_calli (va_runV (As := [.int x1, .int x3]) (rest := []) ⟨hx, hb, hml, hown, hts⟩ (kX1_beside l dC dI cI cZ cO cW h h_strength h_fuel h_place h_told h_moved h_line h_done h_orders H.size f_size r_place x1 x3 _ hw) (cwV 2 hts (gV gw_68 gw_69 gw_70 gw_67 (gM gw_62)) rfl rfl rfl (by decide +kernel) ⟨Nat.le_of_ble_eq_true rfl, Nat.le_of_ble_eq_true rfl⟩) (pv_of hPc hK hDc (va_recv hK hPc (ci := 1) (q0 := 0) rfl rfl)) rfl rfl hl.1 rfl (lv_room (Nat.le_of_ble_eq_true rfl)) dX1_shipsBeside_15 ⟨Nat.zero_le _, Nat.zero_le _⟩) hS (fun q _ h => hFc q h) hFc (fun r_2 u t H locs ht hvm hw hB hz1 hk1 hS => ?_)
      obtain ⟨hP, hD⟩ := af_join (wr := []) (w1 := [(h, .inr (1, [.ref h_strength, .ref h_fuel, .ref h_place, .ref h_told, .ref h_moved, .ref h_line, .ref h_done, .ref h_orders, .int f_size])), (h_place, .inl (cI, 8, .inl r_place))]) hB ht hP hD [0, 1] [] rfl rfl (by decide) (by decide) hk1 hFc
      have hP : va_P (dC, dI) vwCl [(h, .inr (1, [.ref h_strength, .ref h_fuel, .ref h_place, .ref h_told, .ref h_moved, .ref h_line, .ref h_done, .ref h_orders, .int f_size])), (h_place, .inl (cI, 8, .inl r_place))] _ := hP
      have hD : va_D A [(h, .inr (1, [.ref h_strength, .ref h_fuel, .ref h_place, .ref h_told, .ref h_moved, .ref h_line, .ref h_done, .ref h_orders, .int f_size])), (h_place, .inl (cI, 8, .inl r_place))] := hD
      refine lv_if_eq (tgt := 24) hx hb dX1_shipsBeside_18 (by decide) (fun c_3 => ?_) (fun c_3 => ?_)
      · have hw := hw.1 c_3
        exact tX1_shipsBeside_24 hC hK hA ih x1 x2 x3 f_size r_place _ _ ls hw (hP.sub [0, 1] rfl) (hD.sub [0, 1] (by decide) rfl) hS (lv_sub hl [0, 1, 2, 3] rfl)
      · have hw := hw.2 c_3
        refine lv_iinc (v := (x2 + (1 : Int32))) (lv' := [(2, .int (x2 + (1 : Int32))), (0, .ref h), (1, .int x1), (3, .int x3)]) hx hb dX1_shipsBeside_21 hl (k := 2) rfl rfl (by decide) rfl (fun ls hl => ?_)
        exact tX1_shipsBeside_24 hC hK hA ih x1 (x2 + (1 : Int32)) x3 f_size r_place _ _ ls hw (hP.sub [0, 1] rfl) (hD.sub [0, 1] (by decide) rfl) hS (lv_sub hl [1, 2, 0, 3] rfl)
set_option maxHeartbeats 4000000 in
set_option maxRecDepth 100000 in
theorem tX1_shipsBeside_e {p : Program} {l : Launch} {e : Env} {s : State} {m : MethodId} {args : Array Value} {below : List Frame} {meth : Method} {c : Code} {dC : Nat → ClassId} {dI : Nat → Nat → Nat} {cI cZ cO cW : ClassId} {A : Nat → Prop} {h h_strength h_fuel h_place h_told h_moved h_line h_done h_orders : Nat} {Q : Int32 → Prop} (hC : Cx p s m args meth c cX1_shipsBeside (some .int) 4 GW RX1) (hK : va_K (dC, dI) vwCl (tysA cI cZ cO cW) s) (hA : ∀ q : Nat, s.heap.size ≤ q → A q) :
    ∀ (x1 : Int32) (f_size : Int32) (r_place : Nat → Int32) (H : Heap) (locs : List Loc) (ls : Array Slot), wX1_shipsBeside Q x1 f_size r_place → va_P (dC, dI) vwCl (vX1_shipsBeside cI cZ h h_strength h_fuel h_place h_told h_moved h_line h_done h_orders f_size r_place) H → va_D A (vX1_shipsBeside cI cZ h h_strength h_fuel h_place h_told h_moved h_line h_done h_orders f_size r_place) → va_S A s.heap H locs → lv_has ls 4 [(0, .ref h), (1, .int x1)] → W p l e rmX1_shipsBeside s m args below meth c H locs 0 0 (MQ below (qX1_shipsBeside dC dI cI cZ cO cW h h_strength h_fuel h_place h_told h_moved h_line h_done h_orders f_size r_place Q A) args s 0 0 A) (F0 m 0 ls []) := by
  obtain ⟨hx, hb, hr, hml, hown, hts, hlocks⟩ := id hC
  intro x1 f_size r_place H locs ls hw hP hD hS hl
  refine lv_iconst (v := (0 : Int32)) hx hb dX1_shipsBeside_0 (by decide) ?_
  refine lv_istore_n (lv' := [(2, .int (0 : Int32)), (0, .ref h), (1, .int x1)]) hx hb dX1_shipsBeside_1 rfl hl (by decide) rfl (fun ls hl => ?_)
  refine lv_iconst (v := (0 : Int32)) hx hb dX1_shipsBeside_2 (by decide) ?_
  refine lv_istore_n (lv' := [(3, .int (0 : Int32)), (2, .int (0 : Int32)), (0, .ref h), (1, .int x1)]) hx hb dX1_shipsBeside_3 rfl hl (by decide) rfl (fun ls hl => ?_)
  obtain ⟨n_4, hw⟩ := hw
  exact tX1_shipsBeside_4 hC hK hA  n_4 x1 (0 : Int32) (0 : Int32) f_size r_place _ _ ls hw (hP.sub [0, 1] rfl) (hD.sub [0, 1] (by decide) rfl) hS (lv_sub hl [2, 3, 1, 0] rfl)
set_option maxHeartbeats 4000000 in
set_option maxRecDepth 100000 in
theorem kX1_shipsBeside (l : Launch) (dC : Nat → ClassId) (dI : Nat → Nat → Nat) (cI cZ cO cW : ClassId) (h h_strength h_fuel h_place h_told h_moved h_line h_done h_orders : Nat)  (sz : Nat) (f_size : Int32) (r_place : Nat → Int32) (x1 : Int32) (Q : Int32 → Prop) (hw : wX1_shipsBeside Q x1 f_size r_place) : Met l yX1_shipsBeside zsX1_shipsBeside rmX1_shipsBeside (va_Pc [.ref h, .int x1] (fun U => U.heap.size = sz ∧ va_P (dC, dI) vwCl (vX1_shipsBeside cI cZ h h_strength h_fuel h_place h_told h_moved h_line h_done h_orders f_size r_place) U.heap ∧ va_K (dC, dI) vwCl (tysA cI cZ cO cW) U ∧ va_D (fun _ => True) (vX1_shipsBeside cI cZ h h_strength h_fuel h_place h_told h_moved h_line h_done h_orders f_size r_place))) (qX1_shipsBeside dC dI cI cZ cO cW h h_strength h_fuel h_place h_told h_moved h_line h_done h_orders f_size r_place Q (va_A (vX1_shipsBeside cI cZ h h_strength h_fuel h_place h_told h_moved h_line h_done h_orders f_size r_place) sz)) 0 0 (va_A (vX1_shipsBeside cI cZ h h_strength h_fuel h_place h_told h_moved h_line h_done h_orders f_size r_place) sz) := by
  refine Met.ofW (cc := cX1_shipsBeside) (maxL := 4) (ret := (some .int)) (by decide) rfl ?_
  intro p e s m args below meth c s₁ B hml hv
  obtain ⟨rfl, hsz, hP, hK, hD0⟩ := hv
  subst hsz
  have hC : Cx p s m ([.ref h, .int x1] : List Value).toArray meth c cX1_shipsBeside (some .int) 4 GW RX1 := ⟨B.exec, B.bytes, B.returns, hml, findClass_of_methodNamed B.named, fun w h => atoms_spec (ws := zsX1_shipsBeside) B.pre w (List.mem_cons_of_mem _ h), B.notSynchronized⟩
  have hD := hD0.self (sz := s.heap.size)
  generalize hAe : va_A (vX1_shipsBeside cI cZ h h_strength h_fuel h_place h_told h_moved h_line h_done h_orders f_size r_place) s.heap.size = A at hD ⊢
  have hA : ∀ q : Nat, s.heap.size ≤ q → A q := fun q h => by rw [← hAe]; exact Or.inr h
  have hl := lv_entry ([.ref h, .int x1]) (n := 4) (Nat.le_of_ble_eq_true rfl)
  rw [lg_entry_eq]
  generalize (lg_sl ([.ref h, .int x1]) ++ List.replicate (4 - (lg_sl ([.ref h, .int x1])).length) Slot.unset).toArray = ls at hl ⊢
  exact tX1_shipsBeside_e hC hK hA x1 f_size r_place _ _ ls hw hP hD va_S.rf hl

/-! X1_tellOthers -/
def wX1_tellOthers_22 (Q : (Nat → Int32) → Prop) (K_2 : Int32 → Int32 → Int32 → Int32 → (Nat → Int32) → Prop)  (x1 : Int32) (x2 : Int32) (x3 : Int32) (f_size : Int32) (r_told : (Nat → Int32)) : Prop :=
  (K_2 x1 x2 (x3 + (1 : Int32)) f_size r_told)
def wX1_tellOthers_2 (Q : (Nat → Int32) → Prop)   : Nat → Int32 → Int32 → Int32 → Int32 → (Nat → Int32) → Prop
  | 0, _, _, _, _, _ => False
  | n + 1, x1, x2, x3, f_size, r_told => ((f_size ≤ x3 → (Q r_told)) ∧ (¬ f_size ≤ x3 → ((x3 = x1 → (wX1_tellOthers_22 Q (wX1_tellOthers_2 Q n) x1 x2 x3 f_size r_told)) ∧ (¬ x3 = x1 → (vp_in x3 8 ∧ (wX1_tellOthers_22 Q (wX1_tellOthers_2 Q n) x1 x2 x3 f_size (upd r_told x3.toNatClampNeg x2)))))))
def wX1_tellOthers (Q : (Nat → Int32) → Prop) (x1 : Int32) (x2 : Int32) (f_size : Int32) (r_told : Nat → Int32) : Prop :=
  (∃ j_, wX1_tellOthers_2 Q j_ x1 x2 (0 : Int32) f_size r_told)
abbrev vX1_tellOthers (cI cZ : ClassId) (h h_strength h_fuel h_place h_told h_moved h_line h_done h_orders : Nat) (f_size : Int32) (r_told : Nat → Int32) : va_W := [(h, .inr (1, [.ref h_strength, .ref h_fuel, .ref h_place, .ref h_told, .ref h_moved, .ref h_line, .ref h_done, .ref h_orders, .int f_size])), (h_told, .inl (cI, 8, .inl r_told))]
abbrev rmX1_tellOthers : Room := { frames := 0, cells := 0, slots := 0, locals := 0 }
abbrev qX1_tellOthers (dC : Nat → ClassId) (dI : Nat → Nat → Nat) (cI cZ cO cW : ClassId) (h h_strength h_fuel h_place h_told h_moved h_line h_done h_orders : Nat) (f_size : Int32) (Q : (Nat → Int32) → Prop) (A : Nat → Prop) : Array Value → State → Outcome → State → Prop := va_Qv (fun (u : (Nat → Int32)) => Q u) (fun (u : (Nat → Int32)) (t : State) => va_P (dC, dI) vwCl (vX1_tellOthers cI cZ h h_strength h_fuel h_place h_told h_moved h_line h_done h_orders f_size u) t.heap ∧ va_K (dC, dI) vwCl (tysA cI cZ cO cW) t ∧ va_D A (vX1_tellOthers cI cZ h h_strength h_fuel h_place h_told h_moved h_line h_done h_orders f_size u)) A
def zsX1_tellOthers : List Cond := Cond.code yX1_tellOthers cX1_tellOthers 4 none :: GW
set_option maxHeartbeats 4000000 in
set_option maxRecDepth 100000 in
theorem tX1_tellOthers_22 {p : Program} {l : Launch} {e : Env} {s : State} {m : MethodId} {args : Array Value} {below : List Frame} {meth : Method} {c : Code} {dC : Nat → ClassId} {dI : Nat → Nat → Nat} {cI cZ cO cW : ClassId} {A : Nat → Prop} {h h_strength h_fuel h_place h_told h_moved h_line h_done h_orders : Nat} {Q : (Nat → Int32) → Prop} {K_2 : Int32 → Int32 → Int32 → Int32 → (Nat → Int32) → Prop} (hC : Cx p s m args meth c cX1_tellOthers none 4 GW RX1) (hK : va_K (dC, dI) vwCl (tysA cI cZ cO cW) s) (hA : ∀ q : Nat, s.heap.size ≤ q → A q) (hk_2 : ∀ (x1 : Int32) (x2 : Int32) (x3 : Int32) (f_size : Int32) (r_told : (Nat → Int32)) (H : Heap) (locs : List Loc) (ls : Array Slot), K_2 x1 x2 x3 f_size r_told → va_P (dC, dI) vwCl (vX1_tellOthers cI cZ h h_strength h_fuel h_place h_told h_moved h_line h_done h_orders f_size r_told) H → va_D A (vX1_tellOthers cI cZ h h_strength h_fuel h_place h_told h_moved h_line h_done h_orders f_size r_told) → va_S A s.heap H locs → lv_has ls 4 [(0, .ref h), (1, .int x1), (2, .int x2), (3, .int x3)] → W p l e rmX1_tellOthers s m args below meth c H locs 0 0 (MQ below (qX1_tellOthers dC dI cI cZ cO cW h h_strength h_fuel h_place h_told h_moved h_line h_done h_orders f_size Q A) args s 0 0 A) (F0 m 2 ls [])) :
    ∀ (x1 : Int32) (x2 : Int32) (x3 : Int32) (f_size : Int32) (r_told : (Nat → Int32)) (H : Heap) (locs : List Loc) (ls : Array Slot), wX1_tellOthers_22 Q K_2 x1 x2 x3 f_size r_told → va_P (dC, dI) vwCl (vX1_tellOthers cI cZ h h_strength h_fuel h_place h_told h_moved h_line h_done h_orders f_size r_told) H → va_D A (vX1_tellOthers cI cZ h h_strength h_fuel h_place h_told h_moved h_line h_done h_orders f_size r_told) → va_S A s.heap H locs → lv_has ls 4 [(0, .ref h), (1, .int x1), (2, .int x2), (3, .int x3)] → W p l e rmX1_tellOthers s m args below meth c H locs 0 0 (MQ below (qX1_tellOthers dC dI cI cZ cO cW h h_strength h_fuel h_place h_told h_moved h_line h_done h_orders f_size Q A) args s 0 0 A) (F0 m 22 ls []) := by
  obtain ⟨hx, hb, hr, hml, hown, hts, hlocks⟩ := id hC
  intro x1 x2 x3 f_size r_told H locs ls hw hP hD hS hl
  refine lv_iinc (v := (x3 + (1 : Int32))) (lv' := [(3, .int (x3 + (1 : Int32))), (0, .ref h), (1, .int x1), (2, .int x2)]) hx hb dX1_tellOthers_22 hl (k := 3) rfl rfl (by decide) rfl (fun ls hl => ?_)
  refine lv_goto (tgt := 2) hx hb dX1_tellOthers_25 (by decide) ?_
  exact hk_2 x1 x2 (x3 + (1 : Int32)) f_size r_told _ _ ls hw (hP.sub [0, 1] rfl) (hD.sub [0, 1] (by decide) rfl) hS (lv_sub hl [1, 2, 3, 0] rfl)
set_option maxHeartbeats 4000000 in
set_option maxRecDepth 100000 in
theorem tX1_tellOthers_2 {p : Program} {l : Launch} {e : Env} {s : State} {m : MethodId} {args : Array Value} {below : List Frame} {meth : Method} {c : Code} {dC : Nat → ClassId} {dI : Nat → Nat → Nat} {cI cZ cO cW : ClassId} {A : Nat → Prop} {h h_strength h_fuel h_place h_told h_moved h_line h_done h_orders : Nat} {Q : (Nat → Int32) → Prop}  (hC : Cx p s m args meth c cX1_tellOthers none 4 GW RX1) (hK : va_K (dC, dI) vwCl (tysA cI cZ cO cW) s) (hA : ∀ q : Nat, s.heap.size ≤ q → A q) :
    ∀ (n : Nat) (x1 : Int32) (x2 : Int32) (x3 : Int32) (f_size : Int32) (r_told : (Nat → Int32)) (H : Heap) (locs : List Loc) (ls : Array Slot), wX1_tellOthers_2 Q  n x1 x2 x3 f_size r_told → va_P (dC, dI) vwCl (vX1_tellOthers cI cZ h h_strength h_fuel h_place h_told h_moved h_line h_done h_orders f_size r_told) H → va_D A (vX1_tellOthers cI cZ h h_strength h_fuel h_place h_told h_moved h_line h_done h_orders f_size r_told) → va_S A s.heap H locs → lv_has ls 4 [(0, .ref h), (1, .int x1), (2, .int x2), (3, .int x3)] → W p l e rmX1_tellOthers s m args below meth c H locs 0 0 (MQ below (qX1_tellOthers dC dI cI cZ cO cW h h_strength h_fuel h_place h_told h_moved h_line h_done h_orders f_size Q A) args s 0 0 A) (F0 m 2 ls []) := by
  obtain ⟨hx, hb, hr, hml, hown, hts, hlocks⟩ := id hC
  intro n
  induction n with
  | zero =>
    intro  x1 x2 x3 f_size r_told H locs ls hw
    exact hw.elim
  | succ n ih =>
    intro  x1 x2 x3 f_size r_told H locs ls hw hP hD hS hl
    refine lv_iload_n hx hb dX1_tellOthers_2 rfl (lv_at hl 3 rfl) ?_
    refine lv_aload_n hx hb dX1_tellOthers_3 rfl (lv_at hl 0 rfl) ?_
    refine va_get (D := (dC, dI)) (ci := 1) (v := .int f_size) (C := RX1) (T := TX1) (N := 9) hx hb hts gu_X1 hown hK hP 0 rfl rfl 8 (by decide) (hts _ gw_53) (fun _ h9 => h9) rfl dX1_tellOthers_4 ?_
    refine lv_icmp_ge (tgt := 28) hx hb dX1_tellOthers_7 (by decide) (fun c_1 => ?_) (fun c_1 => ?_)
    · have hw := hw.1 c_1
      have hP9 := hP.sub (ws' := (vX1_tellOthers cI cZ h h_strength h_fuel h_place h_told h_moved h_line h_done h_orders f_size r_told)) [0, 1] rfl
      have hD9 := hD.sub (ws' := (vX1_tellOthers cI cZ h h_strength h_fuel h_place h_told h_moved h_line h_done h_orders f_size r_told)) [0, 1] (by decide) rfl
      exact W.vret hx hb hr (fun t ht hW => ⟨⟨r_told, rfl, hw, by rw [ht]; exact hP9, va_K.moved hW.alike hK, hD9⟩, hS.F ht⟩) hS.2.2 dX1_tellOthers_28
    · have hw := hw.2 c_1
      refine lv_iload_n hx hb dX1_tellOthers_10 rfl (lv_at hl 3 rfl) ?_
      refine lv_iload_n hx hb dX1_tellOthers_11 rfl (lv_at hl 1 rfl) ?_
      refine lv_icmp_eq (tgt := 22) hx hb dX1_tellOthers_12 (by decide) (fun c_2 => ?_) (fun c_2 => ?_)
      · have hw := hw.1 c_2
        exact tX1_tellOthers_22 hC hK hA ih x1 x2 x3 f_size r_told _ _ ls hw (hP.sub [0, 1] rfl) (hD.sub [0, 1] (by decide) rfl) hS (lv_sub hl [0, 1, 2, 3] rfl)
      · have hw := hw.2 c_2
        refine lv_aload_n hx hb dX1_tellOthers_15 rfl (lv_at hl 0 rfl) ?_
        refine va_get (D := (dC, dI)) (ci := 1) (v := .ref h_told) (C := RX1) (T := TX1) (N := 9) hx hb hts gu_X1 hown hK hP 0 rfl rfl 3 (by decide) (hts _ gw_46) (fun _ h9 => h9) rfl dX1_tellOthers_16 ?_
        refine lv_iload_n hx hb dX1_tellOthers_19 rfl (lv_at hl 3 rfl) ?_
        refine lv_iload_n hx hb dX1_tellOthers_20 rfl (lv_at hl 2 rfl) ?_
        obtain ⟨h_3, hw⟩ := hw
        refine va_iast hx hb hK hP hD hS 1 0 rfl rfl h_3 dX1_tellOthers_21 (fun H locs hP hD hS => ?_)
        have hP : va_P (dC, dI) vwCl [(h, .inr (1, [.ref h_strength, .ref h_fuel, .ref h_place, .ref h_told, .ref h_moved, .ref h_line, .ref h_done, .ref h_orders, .int f_size])), (h_told, .inl (cI, 8, .inl (upd r_told x3.toNatClampNeg x2)))] _ := hP
        have hD : va_D A [(h, .inr (1, [.ref h_strength, .ref h_fuel, .ref h_place, .ref h_told, .ref h_moved, .ref h_line, .ref h_done, .ref h_orders, .int f_size])), (h_told, .inl (cI, 8, .inl (upd r_told x3.toNatClampNeg x2)))] := hD
        exact tX1_tellOthers_22 hC hK hA ih x1 x2 x3 f_size (upd r_told x3.toNatClampNeg x2) _ _ ls hw (hP.sub [0, 1] rfl) (hD.sub [0, 1] (by decide) rfl) hS (lv_sub hl [0, 1, 2, 3] rfl)
set_option maxHeartbeats 4000000 in
set_option maxRecDepth 100000 in
theorem tX1_tellOthers_e {p : Program} {l : Launch} {e : Env} {s : State} {m : MethodId} {args : Array Value} {below : List Frame} {meth : Method} {c : Code} {dC : Nat → ClassId} {dI : Nat → Nat → Nat} {cI cZ cO cW : ClassId} {A : Nat → Prop} {h h_strength h_fuel h_place h_told h_moved h_line h_done h_orders : Nat} {Q : (Nat → Int32) → Prop} (hC : Cx p s m args meth c cX1_tellOthers none 4 GW RX1) (hK : va_K (dC, dI) vwCl (tysA cI cZ cO cW) s) (hA : ∀ q : Nat, s.heap.size ≤ q → A q) :
    ∀ (x1 : Int32) (x2 : Int32) (f_size : Int32) (r_told : Nat → Int32) (H : Heap) (locs : List Loc) (ls : Array Slot), wX1_tellOthers Q x1 x2 f_size r_told → va_P (dC, dI) vwCl (vX1_tellOthers cI cZ h h_strength h_fuel h_place h_told h_moved h_line h_done h_orders f_size r_told) H → va_D A (vX1_tellOthers cI cZ h h_strength h_fuel h_place h_told h_moved h_line h_done h_orders f_size r_told) → va_S A s.heap H locs → lv_has ls 4 [(0, .ref h), (1, .int x1), (2, .int x2)] → W p l e rmX1_tellOthers s m args below meth c H locs 0 0 (MQ below (qX1_tellOthers dC dI cI cZ cO cW h h_strength h_fuel h_place h_told h_moved h_line h_done h_orders f_size Q A) args s 0 0 A) (F0 m 0 ls []) := by
  obtain ⟨hx, hb, hr, hml, hown, hts, hlocks⟩ := id hC
  intro x1 x2 f_size r_told H locs ls hw hP hD hS hl
  refine lv_iconst (v := (0 : Int32)) hx hb dX1_tellOthers_0 (by decide) ?_
  refine lv_istore_n (lv' := [(3, .int (0 : Int32)), (0, .ref h), (1, .int x1), (2, .int x2)]) hx hb dX1_tellOthers_1 rfl hl (by decide) rfl (fun ls hl => ?_)
  obtain ⟨n_4, hw⟩ := hw
  exact tX1_tellOthers_2 hC hK hA  n_4 x1 x2 (0 : Int32) f_size r_told _ _ ls hw (hP.sub [0, 1] rfl) (hD.sub [0, 1] (by decide) rfl) hS (lv_sub hl [1, 2, 3, 0] rfl)
set_option maxHeartbeats 4000000 in
set_option maxRecDepth 100000 in
theorem kX1_tellOthers (l : Launch) (dC : Nat → ClassId) (dI : Nat → Nat → Nat) (cI cZ cO cW : ClassId) (h h_strength h_fuel h_place h_told h_moved h_line h_done h_orders : Nat)  (sz : Nat) (f_size : Int32) (r_told : Nat → Int32) (x1 : Int32) (x2 : Int32) (Q : (Nat → Int32) → Prop) (hw : wX1_tellOthers Q x1 x2 f_size r_told) : Met l yX1_tellOthers zsX1_tellOthers rmX1_tellOthers (va_Pc [.ref h, .int x1, .int x2] (fun U => U.heap.size = sz ∧ va_P (dC, dI) vwCl (vX1_tellOthers cI cZ h h_strength h_fuel h_place h_told h_moved h_line h_done h_orders f_size r_told) U.heap ∧ va_K (dC, dI) vwCl (tysA cI cZ cO cW) U ∧ va_D (fun _ => True) (vX1_tellOthers cI cZ h h_strength h_fuel h_place h_told h_moved h_line h_done h_orders f_size r_told))) (qX1_tellOthers dC dI cI cZ cO cW h h_strength h_fuel h_place h_told h_moved h_line h_done h_orders f_size Q (va_A (vX1_tellOthers cI cZ h h_strength h_fuel h_place h_told h_moved h_line h_done h_orders f_size r_told) sz)) 0 0 (va_A (vX1_tellOthers cI cZ h h_strength h_fuel h_place h_told h_moved h_line h_done h_orders f_size r_told) sz) := by
  refine Met.ofW (cc := cX1_tellOthers) (maxL := 4) (ret := none) (by decide) rfl ?_
  intro p e s m args below meth c s₁ B hml hv
  obtain ⟨rfl, hsz, hP, hK, hD0⟩ := hv
  subst hsz
  have hC : Cx p s m ([.ref h, .int x1, .int x2] : List Value).toArray meth c cX1_tellOthers none 4 GW RX1 := ⟨B.exec, B.bytes, B.returns, hml, findClass_of_methodNamed B.named, fun w h => atoms_spec (ws := zsX1_tellOthers) B.pre w (List.mem_cons_of_mem _ h), B.notSynchronized⟩
  have hD := hD0.self (sz := s.heap.size)
  generalize hAe : va_A (vX1_tellOthers cI cZ h h_strength h_fuel h_place h_told h_moved h_line h_done h_orders f_size r_told) s.heap.size = A at hD ⊢
  have hA : ∀ q : Nat, s.heap.size ≤ q → A q := fun q h => by rw [← hAe]; exact Or.inr h
  have hl := lv_entry ([.ref h, .int x1, .int x2]) (n := 4) (Nat.le_of_ble_eq_true rfl)
  rw [lg_entry_eq]
  generalize (lg_sl ([.ref h, .int x1, .int x2]) ++ List.replicate (4 - (lg_sl ([.ref h, .int x1, .int x2])).length) Slot.unset).toArray = ls at hl ⊢
  exact tX1_tellOthers_e hC hK hA x1 x2 f_size r_told _ _ ls hw hP hD va_S.rf hl

/-! X4_comparison -/
def wX4_comparison (Q : Int32 → Prop) (x0 : Int32) (x1 : Int32) (x2 : Int32)  : Prop :=
  (Q (((x0 <<< ((22 : Int32) &&& 31)) ||| (x1 <<< ((14 : Int32) &&& 31))) ||| x2))
abbrev rmX4_comparison : Room := { frames := 0, cells := 0, slots := 0, locals := 0 }
abbrev qX4_comparison (dC : Nat → ClassId) (dI : Nat → Nat → Nat) (cI cZ cO cW : ClassId)  (Q : Int32 → Prop) (A : Nat → Prop) : Array Value → State → Outcome → State → Prop := va_Qi (fun (r : Int32) (u : Unit) => Q r) (fun (u : Unit) (t : State) => va_P (dC, dI) vwCl ([] : va_W) t.heap ∧ va_K (dC, dI) vwCl (tysA cI cZ cO cW) t ∧ va_D A ([] : va_W)) A
def zsX4_comparison : List Cond := Cond.code yX4_comparison cX4_comparison 3 (some .int) :: GW
set_option maxHeartbeats 4000000 in
set_option maxRecDepth 100000 in
theorem tX4_comparison_e {p : Program} {l : Launch} {e : Env} {s : State} {m : MethodId} {args : Array Value} {below : List Frame} {meth : Method} {c : Code} {dC : Nat → ClassId} {dI : Nat → Nat → Nat} {cI cZ cO cW : ClassId} {A : Nat → Prop} {Q : Int32 → Prop} (hC : Cx p s m args meth c cX4_comparison (some .int) 3 GW RX4) (hK : va_K (dC, dI) vwCl (tysA cI cZ cO cW) s) (hA : ∀ q : Nat, s.heap.size ≤ q → A q) :
    ∀ (x0 : Int32) (x1 : Int32) (x2 : Int32) (H : Heap) (locs : List Loc) (ls : Array Slot), wX4_comparison Q x0 x1 x2  → va_P (dC, dI) vwCl ([] : va_W) H → va_D A ([] : va_W) → va_S A s.heap H locs → lv_has ls 3 [(0, .int x0), (1, .int x1), (2, .int x2)] → W p l e rmX4_comparison s m args below meth c H locs 0 0 (MQ below (qX4_comparison dC dI cI cZ cO cW Q A) args s 0 0 A) (F0 m 0 ls []) := by
  obtain ⟨hx, hb, hr, hml, hown, hts, hlocks⟩ := id hC
  intro x0 x1 x2 H locs ls hw hP hD hS hl
  refine lv_iload_n hx hb dX4_comparison_0 rfl (lv_at hl 0 rfl) ?_
  refine lv_bipush (v := (22 : Int32)) hx hb dX4_comparison_1 (by decide) ?_
  refine lv_ishl hx hb dX4_comparison_3 ?_
  refine lv_iload_n hx hb dX4_comparison_4 rfl (lv_at hl 1 rfl) ?_
  refine lv_bipush (v := (14 : Int32)) hx hb dX4_comparison_5 (by decide) ?_
  refine lv_ishl hx hb dX4_comparison_7 ?_
  refine lv_ior hx hb dX4_comparison_8 ?_
  refine lv_iload_n hx hb dX4_comparison_9 rfl (lv_at hl 2 rfl) ?_
  refine lv_ior hx hb dX4_comparison_10 ?_
  have hP9 := hP.sub (ws' := ([] : va_W)) [] rfl
  have hD9 := hD.sub (ws' := ([] : va_W)) [] (by decide) rfl
  exact W.iret (v := (((x0 <<< ((22 : Int32) &&& 31)) ||| (x1 <<< ((14 : Int32) &&& 31))) ||| x2)) hx hb hr (fun t ht hW => ⟨⟨(((x0 <<< ((22 : Int32) &&& 31)) ||| (x1 <<< ((14 : Int32) &&& 31))) ||| x2), (), rfl, hw, by rw [ht]; exact hP9, va_K.moved hW.alike hK, hD9⟩, hS.F ht⟩) hS.2.2 dX4_comparison_11
set_option maxHeartbeats 4000000 in
set_option maxRecDepth 100000 in
theorem kX4_comparison (l : Launch) (dC : Nat → ClassId) (dI : Nat → Nat → Nat) (cI cZ cO cW : ClassId)  (sz : Nat)  (x0 : Int32) (x1 : Int32) (x2 : Int32) (Q : Int32 → Prop) (hw : wX4_comparison Q x0 x1 x2 ) : Met l yX4_comparison zsX4_comparison rmX4_comparison (va_Pc [.int x0, .int x1, .int x2] (fun U => U.heap.size = sz ∧ va_P (dC, dI) vwCl ([] : va_W) U.heap ∧ va_K (dC, dI) vwCl (tysA cI cZ cO cW) U ∧ va_D (fun _ => True) ([] : va_W))) (qX4_comparison dC dI cI cZ cO cW Q (va_A ([] : va_W) sz)) 0 0 (va_A ([] : va_W) sz) := by
  refine Met.ofW (cc := cX4_comparison) (maxL := 3) (ret := (some .int)) (by decide) rfl ?_
  intro p e s m args below meth c s₁ B hml hv
  obtain ⟨rfl, hsz, hP, hK, hD0⟩ := hv
  subst hsz
  have hC : Cx p s m ([.int x0, .int x1, .int x2] : List Value).toArray meth c cX4_comparison (some .int) 3 GW RX4 := ⟨B.exec, B.bytes, B.returns, hml, findClass_of_methodNamed B.named, fun w h => atoms_spec (ws := zsX4_comparison) B.pre w (List.mem_cons_of_mem _ h), B.notSynchronized⟩
  have hD := hD0.self (sz := s.heap.size)
  generalize hAe : va_A ([] : va_W) s.heap.size = A at hD ⊢
  have hA : ∀ q : Nat, s.heap.size ≤ q → A q := fun q h => by rw [← hAe]; exact Or.inr h
  have hl := lv_entry ([.int x0, .int x1, .int x2]) (n := 3) (Nat.le_of_ble_eq_true rfl)
  rw [lg_entry_eq]
  generalize (lg_sl ([.int x0, .int x1, .int x2]) ++ List.replicate (3 - (lg_sl ([.int x0, .int x1, .int x2])).length) Slot.unset).toArray = ls at hl ⊢
  exact tX4_comparison_e hC hK hA x0 x1 x2 _ _ ls hw hP hD va_S.rf hl

/-! X4_whatOf -/
def wX4_whatOf (Q : Int32 → Prop) (x0 : Int32)  : Prop :=
  (Q (x0 >>> ((22 : Int32) &&& 31)))
abbrev rmX4_whatOf : Room := { frames := 0, cells := 0, slots := 0, locals := 0 }
abbrev qX4_whatOf (dC : Nat → ClassId) (dI : Nat → Nat → Nat) (cI cZ cO cW : ClassId)  (Q : Int32 → Prop) (A : Nat → Prop) : Array Value → State → Outcome → State → Prop := va_Qi (fun (r : Int32) (u : Unit) => Q r) (fun (u : Unit) (t : State) => va_P (dC, dI) vwCl ([] : va_W) t.heap ∧ va_K (dC, dI) vwCl (tysA cI cZ cO cW) t ∧ va_D A ([] : va_W)) A
def zsX4_whatOf : List Cond := Cond.code yX4_whatOf cX4_whatOf 1 (some .int) :: GW
set_option maxHeartbeats 4000000 in
set_option maxRecDepth 100000 in
theorem tX4_whatOf_e {p : Program} {l : Launch} {e : Env} {s : State} {m : MethodId} {args : Array Value} {below : List Frame} {meth : Method} {c : Code} {dC : Nat → ClassId} {dI : Nat → Nat → Nat} {cI cZ cO cW : ClassId} {A : Nat → Prop} {Q : Int32 → Prop} (hC : Cx p s m args meth c cX4_whatOf (some .int) 1 GW RX4) (hK : va_K (dC, dI) vwCl (tysA cI cZ cO cW) s) (hA : ∀ q : Nat, s.heap.size ≤ q → A q) :
    ∀ (x0 : Int32) (H : Heap) (locs : List Loc) (ls : Array Slot), wX4_whatOf Q x0  → va_P (dC, dI) vwCl ([] : va_W) H → va_D A ([] : va_W) → va_S A s.heap H locs → lv_has ls 1 [(0, .int x0)] → W p l e rmX4_whatOf s m args below meth c H locs 0 0 (MQ below (qX4_whatOf dC dI cI cZ cO cW Q A) args s 0 0 A) (F0 m 0 ls []) := by
  obtain ⟨hx, hb, hr, hml, hown, hts, hlocks⟩ := id hC
  intro x0 H locs ls hw hP hD hS hl
  refine lv_iload_n hx hb dX4_whatOf_0 rfl (lv_at hl 0 rfl) ?_
  refine lv_bipush (v := (22 : Int32)) hx hb dX4_whatOf_1 (by decide) ?_
  refine lv_ishr hx hb dX4_whatOf_3 ?_
  have hP9 := hP.sub (ws' := ([] : va_W)) [] rfl
  have hD9 := hD.sub (ws' := ([] : va_W)) [] (by decide) rfl
  exact W.iret (v := (x0 >>> ((22 : Int32) &&& 31))) hx hb hr (fun t ht hW => ⟨⟨(x0 >>> ((22 : Int32) &&& 31)), (), rfl, hw, by rw [ht]; exact hP9, va_K.moved hW.alike hK, hD9⟩, hS.F ht⟩) hS.2.2 dX4_whatOf_4
set_option maxHeartbeats 4000000 in
set_option maxRecDepth 100000 in
theorem kX4_whatOf (l : Launch) (dC : Nat → ClassId) (dI : Nat → Nat → Nat) (cI cZ cO cW : ClassId)  (sz : Nat)  (x0 : Int32) (Q : Int32 → Prop) (hw : wX4_whatOf Q x0 ) : Met l yX4_whatOf zsX4_whatOf rmX4_whatOf (va_Pc [.int x0] (fun U => U.heap.size = sz ∧ va_P (dC, dI) vwCl ([] : va_W) U.heap ∧ va_K (dC, dI) vwCl (tysA cI cZ cO cW) U ∧ va_D (fun _ => True) ([] : va_W))) (qX4_whatOf dC dI cI cZ cO cW Q (va_A ([] : va_W) sz)) 0 0 (va_A ([] : va_W) sz) := by
  refine Met.ofW (cc := cX4_whatOf) (maxL := 1) (ret := (some .int)) (by decide) rfl ?_
  intro p e s m args below meth c s₁ B hml hv
  obtain ⟨rfl, hsz, hP, hK, hD0⟩ := hv
  subst hsz
  have hC : Cx p s m ([.int x0] : List Value).toArray meth c cX4_whatOf (some .int) 1 GW RX4 := ⟨B.exec, B.bytes, B.returns, hml, findClass_of_methodNamed B.named, fun w h => atoms_spec (ws := zsX4_whatOf) B.pre w (List.mem_cons_of_mem _ h), B.notSynchronized⟩
  have hD := hD0.self (sz := s.heap.size)
  generalize hAe : va_A ([] : va_W) s.heap.size = A at hD ⊢
  have hA : ∀ q : Nat, s.heap.size ≤ q → A q := fun q h => by rw [← hAe]; exact Or.inr h
  have hl := lv_entry ([.int x0]) (n := 1) (Nat.le_of_ble_eq_true rfl)
  rw [lg_entry_eq]
  generalize (lg_sl ([.int x0]) ++ List.replicate (1 - (lg_sl ([.int x0])).length) Slot.unset).toArray = ls at hl ⊢
  exact tX4_whatOf_e hC hK hA x0 _ _ ls hw hP hD va_S.rf hl

/-! X4_agrees -/
def wX4_agrees (Q : Int32 → Prop) (x0 : Int32) (x1 : Int32)  : Prop :=
  ((((x0 >>> ((14 : Int32) &&& 31)) &&& (255 : Int32)) = (60 : Int32) → (((x0 &&& (16383 : Int32)) ≤ x1 → (Q (0 : Int32))) ∧ (¬ (x0 &&& (16383 : Int32)) ≤ x1 → (Q (1 : Int32))))) ∧ (((x0 >>> ((14 : Int32) &&& 31)) &&& (255 : Int32)) = (62 : Int32) → ((x1 ≤ (x0 &&& (16383 : Int32)) → (Q (0 : Int32))) ∧ (¬ x1 ≤ (x0 &&& (16383 : Int32)) → (Q (1 : Int32))))) ∧ ((¬ ((x0 >>> ((14 : Int32) &&& 31)) &&& (255 : Int32)) = (60 : Int32) ∧ ¬ ((x0 >>> ((14 : Int32) &&& 31)) &&& (255 : Int32)) = (62 : Int32)) → ((¬ x1 = (x0 &&& (16383 : Int32)) → (Q (0 : Int32))) ∧ (x1 = (x0 &&& (16383 : Int32)) → (Q (1 : Int32))))))
abbrev rmX4_agrees : Room := { frames := 0, cells := 0, slots := 0, locals := 0 }
abbrev qX4_agrees (dC : Nat → ClassId) (dI : Nat → Nat → Nat) (cI cZ cO cW : ClassId)  (Q : Int32 → Prop) (A : Nat → Prop) : Array Value → State → Outcome → State → Prop := va_Qi (fun (r : Int32) (u : Unit) => Q r) (fun (u : Unit) (t : State) => va_P (dC, dI) vwCl ([] : va_W) t.heap ∧ va_K (dC, dI) vwCl (tysA cI cZ cO cW) t ∧ va_D A ([] : va_W)) A
def zsX4_agrees : List Cond := Cond.code yX4_agrees cX4_agrees 3 (some .boolean) :: GW
set_option maxHeartbeats 4000000 in
set_option maxRecDepth 100000 in
theorem tX4_agrees_e {p : Program} {l : Launch} {e : Env} {s : State} {m : MethodId} {args : Array Value} {below : List Frame} {meth : Method} {c : Code} {dC : Nat → ClassId} {dI : Nat → Nat → Nat} {cI cZ cO cW : ClassId} {A : Nat → Prop} {Q : Int32 → Prop} (hC : Cx p s m args meth c cX4_agrees (some .boolean) 3 GW RX4) (hK : va_K (dC, dI) vwCl (tysA cI cZ cO cW) s) (hA : ∀ q : Nat, s.heap.size ≤ q → A q) :
    ∀ (x0 : Int32) (x1 : Int32) (H : Heap) (locs : List Loc) (ls : Array Slot), wX4_agrees Q x0 x1  → va_P (dC, dI) vwCl ([] : va_W) H → va_D A ([] : va_W) → va_S A s.heap H locs → lv_has ls 3 [(0, .int x0), (1, .int x1)] → W p l e rmX4_agrees s m args below meth c H locs 0 0 (MQ below (qX4_agrees dC dI cI cZ cO cW Q A) args s 0 0 A) (F0 m 0 ls []) := by
  obtain ⟨hx, hb, hr, hml, hown, hts, hlocks⟩ := id hC
  intro x0 x1 H locs ls hw hP hD hS hl
  refine lv_iload_n hx hb dX4_agrees_0 rfl (lv_at hl 0 rfl) ?_
  refine lv_sipush (v := (16383 : Int32)) hx hb dX4_agrees_1 (by decide) ?_
  refine lv_iand hx hb dX4_agrees_4 ?_
  refine lv_istore_n (lv' := [(2, .int (x0 &&& (16383 : Int32))), (0, .int x0), (1, .int x1)]) hx hb dX4_agrees_5 rfl hl (by decide) rfl (fun ls hl => ?_)
  refine lv_iload_n hx hb dX4_agrees_6 rfl (lv_at hl 1 rfl) ?_
  refine lv_bipush (v := (14 : Int32)) hx hb dX4_agrees_7 (by decide) ?_
  refine lv_ishr hx hb dX4_agrees_9 ?_
  refine lv_sipush (v := (255 : Int32)) hx hb dX4_agrees_10 (by decide) ?_
  refine lv_iand hx hb dX4_agrees_13 ?_
  refine lv_topi (fun y_1 ey_1 => ?_)
  by_cases c_2 : y_1 = (60 : Int32)
  · have hw := hw.1 (ey_1.symm.trans c_2)
    refine lv_lookup (off := 26) (tgt := 40) hx hb dX4_agrees_14 (by decide) (by rw [c_2] <;> rfl) (by decide) ?_
    refine lv_iload_n hx hb dX4_agrees_40 rfl (lv_at hl 2 rfl) ?_
    refine lv_iload_n hx hb dX4_agrees_41 rfl (lv_at hl 0 rfl) ?_
    refine lv_icmp_ge (tgt := 49) hx hb dX4_agrees_42 (by decide) (fun c_3 => ?_) (fun c_3 => ?_)
    · have hw := hw.1 c_3
      refine lv_iconst (v := (0 : Int32)) hx hb dX4_agrees_49 (by decide) ?_
      have hP9 := hP.sub (ws' := ([] : va_W)) [] rfl
      have hD9 := hD.sub (ws' := ([] : va_W)) [] (by decide) rfl
      exact W.zret (v := (0 : Int32)) (ty := .boolean) hx hb hr rfl (fun t ht hW => ⟨⟨(0 : Int32), (), rfl, hw, by rw [ht]; exact hP9, va_K.moved hW.alike hK, hD9⟩, hS.F ht⟩) hS.2.2 dX4_agrees_50
    · have hw := hw.2 c_3
      refine lv_iconst (v := (1 : Int32)) hx hb dX4_agrees_45 (by decide) ?_
      refine lv_goto (tgt := 50) hx hb dX4_agrees_46 (by decide) ?_
      have hP9 := hP.sub (ws' := ([] : va_W)) [] rfl
      have hD9 := hD.sub (ws' := ([] : va_W)) [] (by decide) rfl
      exact W.zret (v := (1 : Int32)) (ty := .boolean) hx hb hr rfl (fun t ht hW => ⟨⟨(1 : Int32), (), rfl, hw, by rw [ht]; exact hP9, va_K.moved hW.alike hK, hD9⟩, hS.F ht⟩) hS.2.2 dX4_agrees_50
  · by_cases c_4 : y_1 = (62 : Int32)
    · have hw := hw.2.1 (ey_1.symm.trans c_4)
      refine lv_lookup (off := 37) (tgt := 51) hx hb dX4_agrees_14 (by decide) ((lv_osw c_2 (by decide)).trans (by rw [c_4] <;> rfl)) (by decide) ?_
      refine lv_iload_n hx hb dX4_agrees_51 rfl (lv_at hl 2 rfl) ?_
      refine lv_iload_n hx hb dX4_agrees_52 rfl (lv_at hl 0 rfl) ?_
      refine lv_icmp_le (tgt := 60) hx hb dX4_agrees_53 (by decide) (fun c_5 => ?_) (fun c_5 => ?_)
      · have hw := hw.1 c_5
        refine lv_iconst (v := (0 : Int32)) hx hb dX4_agrees_60 (by decide) ?_
        have hP9 := hP.sub (ws' := ([] : va_W)) [] rfl
        have hD9 := hD.sub (ws' := ([] : va_W)) [] (by decide) rfl
        exact W.zret (v := (0 : Int32)) (ty := .boolean) hx hb hr rfl (fun t ht hW => ⟨⟨(0 : Int32), (), rfl, hw, by rw [ht]; exact hP9, va_K.moved hW.alike hK, hD9⟩, hS.F ht⟩) hS.2.2 dX4_agrees_61
      · have hw := hw.2 c_5
        refine lv_iconst (v := (1 : Int32)) hx hb dX4_agrees_56 (by decide) ?_
        refine lv_goto (tgt := 61) hx hb dX4_agrees_57 (by decide) ?_
        have hP9 := hP.sub (ws' := ([] : va_W)) [] rfl
        have hD9 := hD.sub (ws' := ([] : va_W)) [] (by decide) rfl
        exact W.zret (v := (1 : Int32)) (ty := .boolean) hx hb hr rfl (fun t ht hW => ⟨⟨(1 : Int32), (), rfl, hw, by rw [ht]; exact hP9, va_K.moved hW.alike hK, hD9⟩, hS.F ht⟩) hS.2.2 dX4_agrees_61
    · have hw := hw.2.2 (by rw [← ey_1]; exact ⟨c_2, c_4⟩)
      refine lv_lookup (off := 48) (tgt := 62) hx hb dX4_agrees_14 (by decide) ((lv_osw c_2 (by decide)).trans ((lv_osw c_4 (by decide)).trans rfl)) (by decide) ?_
      refine lv_iload_n hx hb dX4_agrees_62 rfl (lv_at hl 2 rfl) ?_
      refine lv_iload_n hx hb dX4_agrees_63 rfl (lv_at hl 0 rfl) ?_
      refine lv_icmp_ne (tgt := 71) hx hb dX4_agrees_64 (by decide) (fun c_6 => ?_) (fun c_6 => ?_)
      · have hw := hw.1 c_6
        refine lv_iconst (v := (0 : Int32)) hx hb dX4_agrees_71 (by decide) ?_
        have hP9 := hP.sub (ws' := ([] : va_W)) [] rfl
        have hD9 := hD.sub (ws' := ([] : va_W)) [] (by decide) rfl
        exact W.zret (v := (0 : Int32)) (ty := .boolean) hx hb hr rfl (fun t ht hW => ⟨⟨(0 : Int32), (), rfl, hw, by rw [ht]; exact hP9, va_K.moved hW.alike hK, hD9⟩, hS.F ht⟩) hS.2.2 dX4_agrees_72
      · have hw := hw.2 c_6
        refine lv_iconst (v := (1 : Int32)) hx hb dX4_agrees_67 (by decide) ?_
        refine lv_goto (tgt := 72) hx hb dX4_agrees_68 (by decide) ?_
        have hP9 := hP.sub (ws' := ([] : va_W)) [] rfl
        have hD9 := hD.sub (ws' := ([] : va_W)) [] (by decide) rfl
        exact W.zret (v := (1 : Int32)) (ty := .boolean) hx hb hr rfl (fun t ht hW => ⟨⟨(1 : Int32), (), rfl, hw, by rw [ht]; exact hP9, va_K.moved hW.alike hK, hD9⟩, hS.F ht⟩) hS.2.2 dX4_agrees_72
set_option maxHeartbeats 4000000 in
set_option maxRecDepth 100000 in
theorem kX4_agrees (l : Launch) (dC : Nat → ClassId) (dI : Nat → Nat → Nat) (cI cZ cO cW : ClassId)  (sz : Nat)  (x0 : Int32) (x1 : Int32) (Q : Int32 → Prop) (hw : wX4_agrees Q x0 x1 ) : Met l yX4_agrees zsX4_agrees rmX4_agrees (va_Pc [.int x0, .int x1] (fun U => U.heap.size = sz ∧ va_P (dC, dI) vwCl ([] : va_W) U.heap ∧ va_K (dC, dI) vwCl (tysA cI cZ cO cW) U ∧ va_D (fun _ => True) ([] : va_W))) (qX4_agrees dC dI cI cZ cO cW Q (va_A ([] : va_W) sz)) 0 0 (va_A ([] : va_W) sz) := by
  refine Met.ofW (cc := cX4_agrees) (maxL := 3) (ret := (some .boolean)) (by decide) rfl ?_
  intro p e s m args below meth c s₁ B hml hv
  obtain ⟨rfl, hsz, hP, hK, hD0⟩ := hv
  subst hsz
  have hC : Cx p s m ([.int x0, .int x1] : List Value).toArray meth c cX4_agrees (some .boolean) 3 GW RX4 := ⟨B.exec, B.bytes, B.returns, hml, findClass_of_methodNamed B.named, fun w h => atoms_spec (ws := zsX4_agrees) B.pre w (List.mem_cons_of_mem _ h), B.notSynchronized⟩
  have hD := hD0.self (sz := s.heap.size)
  generalize hAe : va_A ([] : va_W) s.heap.size = A at hD ⊢
  have hA : ∀ q : Nat, s.heap.size ≤ q → A q := fun q h => by rw [← hAe]; exact Or.inr h
  have hl := lv_entry ([.int x0, .int x1]) (n := 3) (Nat.le_of_ble_eq_true rfl)
  rw [lg_entry_eq]
  generalize (lg_sl ([.int x0, .int x1]) ++ List.replicate (3 - (lg_sl ([.int x0, .int x1])).length) Slot.unset).toArray = ls at hl ⊢
  exact tX4_agrees_e hC hK hA x0 x1 _ _ ls hw hP hD va_S.rf hl

/-! X6_append -/
def wX6_append_3 (Q : Int32 → (Nat → Int32) → Prop)   : Nat → Int32 → Int32 → Int32 → (Nat → Int32) → Prop
  | 0, _, _, _, _ => False
  | n + 1, x1, x2, f_length, r_bytes => ((x2 < 0 → (Q f_length r_bytes)) ∧ (¬ x2 < 0 → (((400 : Int32) ≤ f_length → (Q f_length r_bytes)) ∧ (¬ (400 : Int32) ≤ f_length → (vp_in f_length 400 ∧ (wX6_append_3 Q n x1 (x2 + (-8 : Int32)) (f_length + (1 : Int32)) (upd r_bytes f_length.toNatClampNeg ((x1.toUInt32 >>> (x2.toUInt32 &&& Int32.toUInt32 31)).toInt32 &&& (255 : Int32)))))))))
def wX6_append (Q : Int32 → (Nat → Int32) → Prop) (x1 : Int32) (f_length : Int32) (r_bytes : Nat → Int32) : Prop :=
  (∃ j_, wX6_append_3 Q j_ x1 (24 : Int32) f_length r_bytes)
abbrev vX6_append (cI cZ : ClassId) (h h_bytes : Nat) (f_length : Int32) (r_bytes : Nat → Int32) : va_W := [(h, .inr (6, [.ref h_bytes, .int f_length])), (h_bytes, .inl (cI, 400, .inl r_bytes))]
abbrev rmX6_append : Room := { frames := 0, cells := 0, slots := 0, locals := 0 }
abbrev qX6_append (dC : Nat → ClassId) (dI : Nat → Nat → Nat) (cI cZ cO cW : ClassId) (h h_bytes : Nat)  (Q : Int32 → (Nat → Int32) → Prop) (A : Nat → Prop) : Array Value → State → Outcome → State → Prop := va_Qv (fun (u : Int32 × (Nat → Int32)) => Q u.1 u.2) (fun (u : Int32 × (Nat → Int32)) (t : State) => va_P (dC, dI) vwCl (vX6_append cI cZ h h_bytes u.1 u.2) t.heap ∧ va_K (dC, dI) vwCl (tysA cI cZ cO cW) t ∧ va_D A (vX6_append cI cZ h h_bytes u.1 u.2)) A
def zsX6_append : List Cond := Cond.code yX6_append cX6_append 3 none :: GW
set_option maxHeartbeats 4000000 in
set_option maxRecDepth 100000 in
theorem tX6_append_3 {p : Program} {l : Launch} {e : Env} {s : State} {m : MethodId} {args : Array Value} {below : List Frame} {meth : Method} {c : Code} {dC : Nat → ClassId} {dI : Nat → Nat → Nat} {cI cZ cO cW : ClassId} {A : Nat → Prop} {h h_bytes : Nat} {Q : Int32 → (Nat → Int32) → Prop}  (hC : Cx p s m args meth c cX6_append none 3 GW RX6) (hK : va_K (dC, dI) vwCl (tysA cI cZ cO cW) s) (hA : ∀ q : Nat, s.heap.size ≤ q → A q) :
    ∀ (n : Nat) (x1 : Int32) (x2 : Int32) (f_length : Int32) (r_bytes : (Nat → Int32)) (H : Heap) (locs : List Loc) (ls : Array Slot), wX6_append_3 Q  n x1 x2 f_length r_bytes → va_P (dC, dI) vwCl (vX6_append cI cZ h h_bytes f_length r_bytes) H → va_D A (vX6_append cI cZ h h_bytes f_length r_bytes) → va_S A s.heap H locs → lv_has ls 3 [(0, .ref h), (1, .int x1), (2, .int x2)] → W p l e rmX6_append s m args below meth c H locs 0 0 (MQ below (qX6_append dC dI cI cZ cO cW h h_bytes Q A) args s 0 0 A) (F0 m 3 ls []) := by
  obtain ⟨hx, hb, hr, hml, hown, hts, hlocks⟩ := id hC
  intro n
  induction n with
  | zero =>
    intro  x1 x2 f_length r_bytes H locs ls hw
    exact hw.elim
  | succ n ih =>
    intro  x1 x2 f_length r_bytes H locs ls hw hP hD hS hl
    refine lv_iload_n hx hb dX6_append_3 rfl (lv_at hl 2 rfl) ?_
    refine lv_if_lt (tgt := 49) hx hb dX6_append_4 (by decide) (fun c_1 => ?_) (fun c_1 => ?_)
    · have hw := hw.1 c_1
      have hP9 := hP.sub (ws' := (vX6_append cI cZ h h_bytes f_length r_bytes)) [0, 1] rfl
      have hD9 := hD.sub (ws' := (vX6_append cI cZ h h_bytes f_length r_bytes)) [0, 1] (by decide) rfl
      exact W.vret hx hb hr (fun t ht hW => ⟨⟨(f_length, r_bytes), rfl, hw, by rw [ht]; exact hP9, va_K.moved hW.alike hK, hD9⟩, hS.F ht⟩) hS.2.2 dX6_append_49
    · have hw := hw.2 c_1
      refine lv_aload_n hx hb dX6_append_7 rfl (lv_at hl 0 rfl) ?_
      refine va_get (D := (dC, dI)) (ci := 6) (v := .int f_length) (C := RX6) (T := TX6) (N := 2) hx hb hts gu_X6 hown hK hP 0 rfl rfl 1 (by decide) (hts _ gw_271) (fun _ h9 => h9) rfl dX6_append_8 ?_
      refine lv_sipush (v := (400 : Int32)) hx hb dX6_append_11 (by decide) ?_
      refine lv_icmp_ge (tgt := 49) hx hb dX6_append_14 (by decide) (fun c_2 => ?_) (fun c_2 => ?_)
      · have hw := hw.1 c_2
        have hP9 := hP.sub (ws' := (vX6_append cI cZ h h_bytes f_length r_bytes)) [0, 1] rfl
        have hD9 := hD.sub (ws' := (vX6_append cI cZ h h_bytes f_length r_bytes)) [0, 1] (by decide) rfl
        exact W.vret hx hb hr (fun t ht hW => ⟨⟨(f_length, r_bytes), rfl, hw, by rw [ht]; exact hP9, va_K.moved hW.alike hK, hD9⟩, hS.F ht⟩) hS.2.2 dX6_append_49
      · have hw := hw.2 c_2
        refine lv_aload_n hx hb dX6_append_17 rfl (lv_at hl 0 rfl) ?_
        refine va_get (D := (dC, dI)) (ci := 6) (v := .ref h_bytes) (C := RX6) (T := TX6) (N := 2) hx hb hts gu_X6 hown hK hP 0 rfl rfl 0 (by decide) (hts _ gw_272) (fun _ h9 => h9) rfl dX6_append_18 ?_
        refine lv_aload_n hx hb dX6_append_21 rfl (lv_at hl 0 rfl) ?_
        refine va_get (D := (dC, dI)) (ci := 6) (v := .int f_length) (C := RX6) (T := TX6) (N := 2) hx hb hts gu_X6 hown hK hP 0 rfl rfl 1 (by decide) (hts _ gw_271) (fun _ h9 => h9) rfl dX6_append_22 ?_
        refine lv_iload_n hx hb dX6_append_25 rfl (lv_at hl 1 rfl) ?_
        refine lv_iload_n hx hb dX6_append_26 rfl (lv_at hl 2 rfl) ?_
        refine lv_iushr (v := (x1.toUInt32 >>> (x2.toUInt32 &&& Int32.toUInt32 31)).toInt32) hx hb dX6_append_27 rfl ?_
        refine lv_sipush (v := (255 : Int32)) hx hb dX6_append_28 (by decide) ?_
        refine lv_iand hx hb dX6_append_31 ?_
        obtain ⟨h_3, hw⟩ := hw
        refine va_iast hx hb hK hP hD hS 1 0 rfl rfl h_3 dX6_append_32 (fun H locs hP hD hS => ?_)
        have hP : va_P (dC, dI) vwCl [(h, .inr (6, [.ref h_bytes, .int f_length])), (h_bytes, .inl (cI, 400, .inl (upd r_bytes f_length.toNatClampNeg ((x1.toUInt32 >>> (x2.toUInt32 &&& Int32.toUInt32 31)).toInt32 &&& (255 : Int32)))))] _ := hP
        have hD : va_D A [(h, .inr (6, [.ref h_bytes, .int f_length])), (h_bytes, .inl (cI, 400, .inl (upd r_bytes f_length.toNatClampNeg ((x1.toUInt32 >>> (x2.toUInt32 &&& Int32.toUInt32 31)).toInt32 &&& (255 : Int32)))))] := hD
        refine lv_aload_n hx hb dX6_append_33 rfl (lv_at hl 0 rfl) ?_
        refine lv_dup hx hb dX6_append_34 rfl ?_
        refine va_get (D := (dC, dI)) (ci := 6) (v := .int f_length) (C := RX6) (T := TX6) (N := 2) hx hb hts gu_X6 hown hK hP 0 rfl rfl 1 (by decide) (hts _ gw_271) (fun _ h9 => h9) rfl dX6_append_35 ?_
        refine lv_iconst (v := (1 : Int32)) hx hb dX6_append_38 (by decide) ?_
        refine lv_iadd hx hb dX6_append_39 ?_
        refine va_put (D := (dC, dI)) (ci := 6) (v := .int (f_length + (1 : Int32))) (ty := .int) (C := RX6) (T := TX6) (N := 2) hx hb hts gu_X6 tyX6 tyX6_ok nmX6 hown hK hP hD hS 0 rfl rfl 1 (by decide) (hts _ gw_271) (fun _ h9 => h9) rfl (tyX6_ok 1 (by decide)) rfl rfl (Nat.le_of_ble_eq_true rfl) dX6_append_40 (fun H locs hP hD hS => ?_)
        have hP : va_P (dC, dI) vwCl [(h, .inr (6, [.ref h_bytes, .int (f_length + (1 : Int32))])), (h_bytes, .inl (cI, 400, .inl (upd r_bytes f_length.toNatClampNeg ((x1.toUInt32 >>> (x2.toUInt32 &&& Int32.toUInt32 31)).toInt32 &&& (255 : Int32)))))] _ := hP
        have hD : va_D A [(h, .inr (6, [.ref h_bytes, .int (f_length + (1 : Int32))])), (h_bytes, .inl (cI, 400, .inl (upd r_bytes f_length.toNatClampNeg ((x1.toUInt32 >>> (x2.toUInt32 &&& Int32.toUInt32 31)).toInt32 &&& (255 : Int32)))))] := hD
        refine lv_iinc (v := (x2 + (-8 : Int32))) (lv' := [(2, .int (x2 + (-8 : Int32))), (0, .ref h), (1, .int x1)]) hx hb dX6_append_43 hl (k := 2) rfl rfl (by decide) rfl (fun ls hl => ?_)
        refine lv_goto (tgt := 3) hx hb dX6_append_46 (by decide) ?_
        exact ih x1 (x2 + (-8 : Int32)) (f_length + (1 : Int32)) (upd r_bytes f_length.toNatClampNeg ((x1.toUInt32 >>> (x2.toUInt32 &&& Int32.toUInt32 31)).toInt32 &&& (255 : Int32))) _ _ ls hw (hP.sub [0, 1] rfl) (hD.sub [0, 1] (by decide) rfl) hS (lv_sub hl [1, 2, 0] rfl)
set_option maxHeartbeats 4000000 in
set_option maxRecDepth 100000 in
theorem tX6_append_e {p : Program} {l : Launch} {e : Env} {s : State} {m : MethodId} {args : Array Value} {below : List Frame} {meth : Method} {c : Code} {dC : Nat → ClassId} {dI : Nat → Nat → Nat} {cI cZ cO cW : ClassId} {A : Nat → Prop} {h h_bytes : Nat} {Q : Int32 → (Nat → Int32) → Prop} (hC : Cx p s m args meth c cX6_append none 3 GW RX6) (hK : va_K (dC, dI) vwCl (tysA cI cZ cO cW) s) (hA : ∀ q : Nat, s.heap.size ≤ q → A q) :
    ∀ (x1 : Int32) (f_length : Int32) (r_bytes : Nat → Int32) (H : Heap) (locs : List Loc) (ls : Array Slot), wX6_append Q x1 f_length r_bytes → va_P (dC, dI) vwCl (vX6_append cI cZ h h_bytes f_length r_bytes) H → va_D A (vX6_append cI cZ h h_bytes f_length r_bytes) → va_S A s.heap H locs → lv_has ls 3 [(0, .ref h), (1, .int x1)] → W p l e rmX6_append s m args below meth c H locs 0 0 (MQ below (qX6_append dC dI cI cZ cO cW h h_bytes Q A) args s 0 0 A) (F0 m 0 ls []) := by
  obtain ⟨hx, hb, hr, hml, hown, hts, hlocks⟩ := id hC
  intro x1 f_length r_bytes H locs ls hw hP hD hS hl
  refine lv_bipush (v := (24 : Int32)) hx hb dX6_append_0 (by decide) ?_
  refine lv_istore_n (lv' := [(2, .int (24 : Int32)), (0, .ref h), (1, .int x1)]) hx hb dX6_append_2 rfl hl (by decide) rfl (fun ls hl => ?_)
  obtain ⟨n_4, hw⟩ := hw
  exact tX6_append_3 hC hK hA  n_4 x1 (24 : Int32) f_length r_bytes _ _ ls hw (hP.sub [0, 1] rfl) (hD.sub [0, 1] (by decide) rfl) hS (lv_sub hl [1, 2, 0] rfl)
set_option maxHeartbeats 4000000 in
set_option maxRecDepth 100000 in
theorem kX6_append (l : Launch) (dC : Nat → ClassId) (dI : Nat → Nat → Nat) (cI cZ cO cW : ClassId) (h h_bytes : Nat)  (sz : Nat) (f_length : Int32) (r_bytes : Nat → Int32) (x1 : Int32) (Q : Int32 → (Nat → Int32) → Prop) (hw : wX6_append Q x1 f_length r_bytes) : Met l yX6_append zsX6_append rmX6_append (va_Pc [.ref h, .int x1] (fun U => U.heap.size = sz ∧ va_P (dC, dI) vwCl (vX6_append cI cZ h h_bytes f_length r_bytes) U.heap ∧ va_K (dC, dI) vwCl (tysA cI cZ cO cW) U ∧ va_D (fun _ => True) (vX6_append cI cZ h h_bytes f_length r_bytes))) (qX6_append dC dI cI cZ cO cW h h_bytes Q (va_A (vX6_append cI cZ h h_bytes f_length r_bytes) sz)) 0 0 (va_A (vX6_append cI cZ h h_bytes f_length r_bytes) sz) := by
  refine Met.ofW (cc := cX6_append) (maxL := 3) (ret := none) (by decide) rfl ?_
  intro p e s m args below meth c s₁ B hml hv
  obtain ⟨rfl, hsz, hP, hK, hD0⟩ := hv
  subst hsz
  have hC : Cx p s m ([.ref h, .int x1] : List Value).toArray meth c cX6_append none 3 GW RX6 := ⟨B.exec, B.bytes, B.returns, hml, findClass_of_methodNamed B.named, fun w h => atoms_spec (ws := zsX6_append) B.pre w (List.mem_cons_of_mem _ h), B.notSynchronized⟩
  have hD := hD0.self (sz := s.heap.size)
  generalize hAe : va_A (vX6_append cI cZ h h_bytes f_length r_bytes) s.heap.size = A at hD ⊢
  have hA : ∀ q : Nat, s.heap.size ≤ q → A q := fun q h => by rw [← hAe]; exact Or.inr h
  have hl := lv_entry ([.ref h, .int x1]) (n := 3) (Nat.le_of_ble_eq_true rfl)
  rw [lg_entry_eq]
  generalize (lg_sl ([.ref h, .int x1]) ++ List.replicate (3 - (lg_sl ([.ref h, .int x1])).length) Slot.unset).toArray = ls at hl ⊢
  exact tX6_append_e hC hK hA x1 f_length r_bytes _ _ ls hw hP hD va_S.rf hl

/-! X6_at -/
def wX6_at (Q : Int32 → Prop) (x1 : Int32) (f_length : Int32) (r_bytes : Nat → Int32) : Prop :=
  ((x1 < 0 → (Q (0 : Int32))) ∧ (¬ x1 < 0 → ((f_length ≤ x1 → (Q (0 : Int32))) ∧ (¬ f_length ≤ x1 → (vp_in x1 400 ∧ (Q (r_bytes x1.toNatClampNeg)))))))
abbrev vX6_at (cI cZ : ClassId) (h h_bytes : Nat) (f_length : Int32) (r_bytes : Nat → Int32) : va_W := [(h, .inr (6, [.ref h_bytes, .int f_length])), (h_bytes, .inl (cI, 400, .inl r_bytes))]
abbrev rmX6_at : Room := { frames := 0, cells := 0, slots := 0, locals := 0 }
abbrev qX6_at (dC : Nat → ClassId) (dI : Nat → Nat → Nat) (cI cZ cO cW : ClassId) (h h_bytes : Nat) (f_length : Int32) (r_bytes : Nat → Int32) (Q : Int32 → Prop) (A : Nat → Prop) : Array Value → State → Outcome → State → Prop := va_Qi (fun (r : Int32) (u : Unit) => Q r) (fun (u : Unit) (t : State) => va_P (dC, dI) vwCl (vX6_at cI cZ h h_bytes f_length r_bytes) t.heap ∧ va_K (dC, dI) vwCl (tysA cI cZ cO cW) t ∧ va_D A (vX6_at cI cZ h h_bytes f_length r_bytes)) A
def zsX6_at : List Cond := Cond.code yX6_at cX6_at 2 (some .int) :: GW
set_option maxHeartbeats 4000000 in
set_option maxRecDepth 100000 in
theorem tX6_at_e {p : Program} {l : Launch} {e : Env} {s : State} {m : MethodId} {args : Array Value} {below : List Frame} {meth : Method} {c : Code} {dC : Nat → ClassId} {dI : Nat → Nat → Nat} {cI cZ cO cW : ClassId} {A : Nat → Prop} {h h_bytes : Nat} {Q : Int32 → Prop} (hC : Cx p s m args meth c cX6_at (some .int) 2 GW RX6) (hK : va_K (dC, dI) vwCl (tysA cI cZ cO cW) s) (hA : ∀ q : Nat, s.heap.size ≤ q → A q) :
    ∀ (x1 : Int32) (f_length : Int32) (r_bytes : Nat → Int32) (H : Heap) (locs : List Loc) (ls : Array Slot), wX6_at Q x1 f_length r_bytes → va_P (dC, dI) vwCl (vX6_at cI cZ h h_bytes f_length r_bytes) H → va_D A (vX6_at cI cZ h h_bytes f_length r_bytes) → va_S A s.heap H locs → lv_has ls 2 [(0, .ref h), (1, .int x1)] → W p l e rmX6_at s m args below meth c H locs 0 0 (MQ below (qX6_at dC dI cI cZ cO cW h h_bytes f_length r_bytes Q A) args s 0 0 A) (F0 m 0 ls []) := by
  obtain ⟨hx, hb, hr, hml, hown, hts, hlocks⟩ := id hC
  intro x1 f_length r_bytes H locs ls hw hP hD hS hl
  refine lv_iload_n hx hb dX6_at_0 rfl (lv_at hl 1 rfl) ?_
  refine lv_if_lt (tgt := 21) hx hb dX6_at_1 (by decide) (fun c_1 => ?_) (fun c_1 => ?_)
  · have hw := hw.1 c_1
    refine lv_iconst (v := (0 : Int32)) hx hb dX6_at_21 (by decide) ?_
    have hP9 := hP.sub (ws' := (vX6_at cI cZ h h_bytes f_length r_bytes)) [0, 1] rfl
    have hD9 := hD.sub (ws' := (vX6_at cI cZ h h_bytes f_length r_bytes)) [0, 1] (by decide) rfl
    exact W.iret (v := (0 : Int32)) hx hb hr (fun t ht hW => ⟨⟨(0 : Int32), (), rfl, hw, by rw [ht]; exact hP9, va_K.moved hW.alike hK, hD9⟩, hS.F ht⟩) hS.2.2 dX6_at_22
  · have hw := hw.2 c_1
    refine lv_iload_n hx hb dX6_at_4 rfl (lv_at hl 1 rfl) ?_
    refine lv_aload_n hx hb dX6_at_5 rfl (lv_at hl 0 rfl) ?_
    refine va_get (D := (dC, dI)) (ci := 6) (v := .int f_length) (C := RX6) (T := TX6) (N := 2) hx hb hts gu_X6 hown hK hP 0 rfl rfl 1 (by decide) (hts _ gw_271) (fun _ h9 => h9) rfl dX6_at_6 ?_
    refine lv_icmp_ge (tgt := 21) hx hb dX6_at_9 (by decide) (fun c_2 => ?_) (fun c_2 => ?_)
    · have hw := hw.1 c_2
      refine lv_iconst (v := (0 : Int32)) hx hb dX6_at_21 (by decide) ?_
      have hP9 := hP.sub (ws' := (vX6_at cI cZ h h_bytes f_length r_bytes)) [0, 1] rfl
      have hD9 := hD.sub (ws' := (vX6_at cI cZ h h_bytes f_length r_bytes)) [0, 1] (by decide) rfl
      exact W.iret (v := (0 : Int32)) hx hb hr (fun t ht hW => ⟨⟨(0 : Int32), (), rfl, hw, by rw [ht]; exact hP9, va_K.moved hW.alike hK, hD9⟩, hS.F ht⟩) hS.2.2 dX6_at_22
    · have hw := hw.2 c_2
      refine lv_aload_n hx hb dX6_at_12 rfl (lv_at hl 0 rfl) ?_
      refine va_get (D := (dC, dI)) (ci := 6) (v := .ref h_bytes) (C := RX6) (T := TX6) (N := 2) hx hb hts gu_X6 hown hK hP 0 rfl rfl 0 (by decide) (hts _ gw_272) (fun _ h9 => h9) rfl dX6_at_13 ?_
      refine lv_iload_n hx hb dX6_at_16 rfl (lv_at hl 1 rfl) ?_
      obtain ⟨h_3, hw⟩ := hw
      refine va_iald hx hb hK hP 1 0 rfl rfl h_3 dX6_at_17 ?_
      refine lv_goto (tgt := 22) hx hb dX6_at_18 (by decide) ?_
      have hP9 := hP.sub (ws' := (vX6_at cI cZ h h_bytes f_length r_bytes)) [0, 1] rfl
      have hD9 := hD.sub (ws' := (vX6_at cI cZ h h_bytes f_length r_bytes)) [0, 1] (by decide) rfl
      exact W.iret (v := (r_bytes x1.toNatClampNeg)) hx hb hr (fun t ht hW => ⟨⟨(r_bytes x1.toNatClampNeg), (), rfl, hw, by rw [ht]; exact hP9, va_K.moved hW.alike hK, hD9⟩, hS.F ht⟩) hS.2.2 dX6_at_22
set_option maxHeartbeats 4000000 in
set_option maxRecDepth 100000 in
theorem kX6_at (l : Launch) (dC : Nat → ClassId) (dI : Nat → Nat → Nat) (cI cZ cO cW : ClassId) (h h_bytes : Nat)  (sz : Nat) (f_length : Int32) (r_bytes : Nat → Int32) (x1 : Int32) (Q : Int32 → Prop) (hw : wX6_at Q x1 f_length r_bytes) : Met l yX6_at zsX6_at rmX6_at (va_Pc [.ref h, .int x1] (fun U => U.heap.size = sz ∧ va_P (dC, dI) vwCl (vX6_at cI cZ h h_bytes f_length r_bytes) U.heap ∧ va_K (dC, dI) vwCl (tysA cI cZ cO cW) U ∧ va_D (fun _ => True) (vX6_at cI cZ h h_bytes f_length r_bytes))) (qX6_at dC dI cI cZ cO cW h h_bytes f_length r_bytes Q (va_A (vX6_at cI cZ h h_bytes f_length r_bytes) sz)) 0 0 (va_A (vX6_at cI cZ h h_bytes f_length r_bytes) sz) := by
  refine Met.ofW (cc := cX6_at) (maxL := 2) (ret := (some .int)) (by decide) rfl ?_
  intro p e s m args below meth c s₁ B hml hv
  obtain ⟨rfl, hsz, hP, hK, hD0⟩ := hv
  subst hsz
  have hC : Cx p s m ([.ref h, .int x1] : List Value).toArray meth c cX6_at (some .int) 2 GW RX6 := ⟨B.exec, B.bytes, B.returns, hml, findClass_of_methodNamed B.named, fun w h => atoms_spec (ws := zsX6_at) B.pre w (List.mem_cons_of_mem _ h), B.notSynchronized⟩
  have hD := hD0.self (sz := s.heap.size)
  generalize hAe : va_A (vX6_at cI cZ h h_bytes f_length r_bytes) s.heap.size = A at hD ⊢
  have hA : ∀ q : Nat, s.heap.size ≤ q → A q := fun q h => by rw [← hAe]; exact Or.inr h
  have hl := lv_entry ([.ref h, .int x1]) (n := 2) (Nat.le_of_ble_eq_true rfl)
  rw [lg_entry_eq]
  generalize (lg_sl ([.ref h, .int x1]) ++ List.replicate (2 - (lg_sl ([.ref h, .int x1])).length) Slot.unset).toArray = ls at hl ⊢
  exact tX6_at_e hC hK hA x1 f_length r_bytes _ _ ls hw hP hD va_S.rf hl

/-! X6_copy -/
def wX6_copy (Q : Int32 → (Nat → Int32) → Prop)  (f_p1_length : Int32) (f_length : Int32) (r_p1_bytes : Nat → Int32) (r_bytes : Nat → Int32) : Prop :=
  (Q f_p1_length (va_cpy r_p1_bytes r_bytes (0 : Int32).toNatClampNeg (0 : Int32).toNatClampNeg (400 : Int32).toNatClampNeg))
abbrev vX6_copy (cI cZ : ClassId) (h_p1 h_p1_bytes h h_bytes : Nat) (f_p1_length : Int32) (f_length : Int32) (r_p1_bytes : Nat → Int32) (r_bytes : Nat → Int32) : va_W := [(h_p1, .inr (6, [.ref h_p1_bytes, .int f_p1_length])), (h, .inr (6, [.ref h_bytes, .int f_length])), (h_p1_bytes, .inl (cI, 400, .inl r_p1_bytes)), (h_bytes, .inl (cI, 400, .inl r_bytes))]
abbrev rmX6_copy : Room := { frames := 1, cells := 0, slots := 0, locals := 26 }
abbrev qX6_copy (dC : Nat → ClassId) (dI : Nat → Nat → Nat) (cI cZ cO cW : ClassId) (h_p1 h_p1_bytes h h_bytes : Nat) (f_p1_length : Int32) (r_p1_bytes : Nat → Int32) (Q : Int32 → (Nat → Int32) → Prop) (A : Nat → Prop) : Array Value → State → Outcome → State → Prop := va_Qv (fun (u : Int32 × (Nat → Int32)) => Q u.1 u.2) (fun (u : Int32 × (Nat → Int32)) (t : State) => va_P (dC, dI) vwCl (vX6_copy cI cZ h_p1 h_p1_bytes h h_bytes f_p1_length u.1 r_p1_bytes u.2) t.heap ∧ va_K (dC, dI) vwCl (tysA cI cZ cO cW) t ∧ va_D A (vX6_copy cI cZ h_p1 h_p1_bytes h h_bytes f_p1_length u.1 r_p1_bytes u.2)) A
def zsX6_copy : List Cond := Cond.code yX6_copy cX6_copy 2 none :: GW
set_option maxHeartbeats 4000000 in
set_option maxRecDepth 100000 in
theorem tX6_copy_e {p : Program} {l : Launch} {e : Env} {s : State} {m : MethodId} {args : Array Value} {below : List Frame} {meth : Method} {c : Code} {dC : Nat → ClassId} {dI : Nat → Nat → Nat} {cI cZ cO cW : ClassId} {A : Nat → Prop} {h_p1 h_p1_bytes h h_bytes : Nat} {Q : Int32 → (Nat → Int32) → Prop} (hC : Cx p s m args meth c cX6_copy none 2 GW RX6) (hK : va_K (dC, dI) vwCl (tysA cI cZ cO cW) s) (hA : ∀ q : Nat, s.heap.size ≤ q → A q) :
    ∀ (f_p1_length : Int32) (f_length : Int32) (r_p1_bytes : Nat → Int32) (r_bytes : Nat → Int32) (H : Heap) (locs : List Loc) (ls : Array Slot), wX6_copy Q  f_p1_length f_length r_p1_bytes r_bytes → va_P (dC, dI) vwCl (vX6_copy cI cZ h_p1 h_p1_bytes h h_bytes f_p1_length f_length r_p1_bytes r_bytes) H → va_D A (vX6_copy cI cZ h_p1 h_p1_bytes h h_bytes f_p1_length f_length r_p1_bytes r_bytes) → va_S A s.heap H locs → lv_has ls 2 [(0, .ref h), (1, .ref h_p1)] → W p l e rmX6_copy s m args below meth c H locs 0 0 (MQ below (qX6_copy dC dI cI cZ cO cW h_p1 h_p1_bytes h h_bytes f_p1_length r_p1_bytes Q A) args s 0 0 A) (F0 m 0 ls []) := by
  obtain ⟨hx, hb, hr, hml, hown, hts, hlocks⟩ := id hC
  intro  f_p1_length f_length r_p1_bytes r_bytes H locs ls hw hP hD hS hl
  refine lv_aload_n hx hb dX6_copy_0 rfl (lv_at hl 0 rfl) ?_
  refine lv_aload_n hx hb dX6_copy_1 rfl (lv_at hl 1 rfl) ?_
  refine va_get (D := (dC, dI)) (ci := 6) (v := .int f_p1_length) (C := RX6) (T := TX6) (N := 2) hx hb hts gu_X6 hown hK hP 0 rfl rfl 1 (by decide) (hts _ gw_271) (fun _ h9 => h9) rfl dX6_copy_2 ?_
  refine va_put (D := (dC, dI)) (ci := 6) (v := .int f_p1_length) (ty := .int) (C := RX6) (T := TX6) (N := 2) hx hb hts gu_X6 tyX6 tyX6_ok nmX6 hown hK hP hD hS 1 rfl rfl 1 (by decide) (hts _ gw_271) (fun _ h9 => h9) rfl (tyX6_ok 1 (by decide)) rfl rfl (Nat.le_of_ble_eq_true rfl) dX6_copy_5 (fun H locs hP hD hS => ?_)
  have hP : va_P (dC, dI) vwCl [(h_p1, .inr (6, [.ref h_p1_bytes, .int f_p1_length])), (h, .inr (6, [.ref h_bytes, .int f_p1_length])), (h_p1_bytes, .inl (cI, 400, .inl r_p1_bytes)), (h_bytes, .inl (cI, 400, .inl r_bytes))] _ := hP
  have hD : va_D A [(h_p1, .inr (6, [.ref h_p1_bytes, .int f_p1_length])), (h, .inr (6, [.ref h_bytes, .int f_p1_length])), (h_p1_bytes, .inl (cI, 400, .inl r_p1_bytes)), (h_bytes, .inl (cI, 400, .inl r_bytes))] := hD
  refine lv_aload_n hx hb dX6_copy_8 rfl (lv_at hl 1 rfl) ?_
  refine va_get (D := (dC, dI)) (ci := 6) (v := .ref h_p1_bytes) (C := RX6) (T := TX6) (N := 2) hx hb hts gu_X6 hown hK hP 0 rfl rfl 0 (by decide) (hts _ gw_272) (fun _ h9 => h9) rfl dX6_copy_9 ?_
  refine lv_iconst (v := (0 : Int32)) hx hb dX6_copy_12 (by decide) ?_
  refine lv_aload_n hx hb dX6_copy_13 rfl (lv_at hl 0 rfl) ?_
  refine va_get (D := (dC, dI)) (ci := 6) (v := .ref h_bytes) (C := RX6) (T := TX6) (N := 2) hx hb hts gu_X6 hown hK hP 1 rfl rfl 0 (by decide) (hts _ gw_272) (fun _ h9 => h9) rfl dX6_copy_14 ?_
  refine lv_iconst (v := (0 : Int32)) hx hb dX6_copy_17 (by decide) ?_
  refine lv_sipush (v := (400 : Int32)) hx hb dX6_copy_18 (by decide) ?_
  refine va_copyi hx hb (hml.trans hl.1.symm) hown (hts _ gw_430) (hts _ gw_14) (hts _ gw_15) (hts _ gw_16) hK hP hD hS 2 3 0 0 rfl rfl rfl rfl rfl (by decide) (by decide) (by decide) (by decide) (by decide) (fun _ _ => rfl) (Nat.le_of_ble_eq_true rfl) (Nat.le_of_ble_eq_true rfl) dX6_copy_21 (fun H locs hP hD hS => ?_)
  have hP : va_P (dC, dI) vwCl [(h_p1, .inr (6, [.ref h_p1_bytes, .int f_p1_length])), (h, .inr (6, [.ref h_bytes, .int f_p1_length])), (h_p1_bytes, .inl (cI, 400, .inl r_p1_bytes)), (h_bytes, .inl (cI, 400, .inl (va_cpy r_p1_bytes r_bytes (0 : Int32).toNatClampNeg (0 : Int32).toNatClampNeg (400 : Int32).toNatClampNeg)))] _ := hP
  have hD : va_D A [(h_p1, .inr (6, [.ref h_p1_bytes, .int f_p1_length])), (h, .inr (6, [.ref h_bytes, .int f_p1_length])), (h_p1_bytes, .inl (cI, 400, .inl r_p1_bytes)), (h_bytes, .inl (cI, 400, .inl (va_cpy r_p1_bytes r_bytes (0 : Int32).toNatClampNeg (0 : Int32).toNatClampNeg (400 : Int32).toNatClampNeg)))] := hD
  have hP9 := hP.sub (ws' := (vX6_copy cI cZ h_p1 h_p1_bytes h h_bytes f_p1_length f_p1_length r_p1_bytes (va_cpy r_p1_bytes r_bytes (0 : Int32).toNatClampNeg (0 : Int32).toNatClampNeg (400 : Int32).toNatClampNeg))) [0, 1, 2, 3] rfl
  have hD9 := hD.sub (ws' := (vX6_copy cI cZ h_p1 h_p1_bytes h h_bytes f_p1_length f_p1_length r_p1_bytes (va_cpy r_p1_bytes r_bytes (0 : Int32).toNatClampNeg (0 : Int32).toNatClampNeg (400 : Int32).toNatClampNeg))) [0, 1, 2, 3] (by decide) rfl
  exact W.vret hx hb hr (fun t ht hW => ⟨⟨(f_p1_length, (va_cpy r_p1_bytes r_bytes (0 : Int32).toNatClampNeg (0 : Int32).toNatClampNeg (400 : Int32).toNatClampNeg)), rfl, hw, by rw [ht]; exact hP9, va_K.moved hW.alike hK, hD9⟩, hS.F ht⟩) hS.2.2 dX6_copy_24
set_option maxHeartbeats 4000000 in
set_option maxRecDepth 100000 in
theorem kX6_copy (l : Launch) (dC : Nat → ClassId) (dI : Nat → Nat → Nat) (cI cZ cO cW : ClassId) (h_p1 h_p1_bytes h h_bytes : Nat)  (sz : Nat) (f_p1_length : Int32) (f_length : Int32) (r_p1_bytes : Nat → Int32) (r_bytes : Nat → Int32)  (Q : Int32 → (Nat → Int32) → Prop) (hw : wX6_copy Q  f_p1_length f_length r_p1_bytes r_bytes) : Met l yX6_copy zsX6_copy rmX6_copy (va_Pc [.ref h, .ref h_p1] (fun U => U.heap.size = sz ∧ va_P (dC, dI) vwCl (vX6_copy cI cZ h_p1 h_p1_bytes h h_bytes f_p1_length f_length r_p1_bytes r_bytes) U.heap ∧ va_K (dC, dI) vwCl (tysA cI cZ cO cW) U ∧ va_D (fun _ => True) (vX6_copy cI cZ h_p1 h_p1_bytes h h_bytes f_p1_length f_length r_p1_bytes r_bytes))) (qX6_copy dC dI cI cZ cO cW h_p1 h_p1_bytes h h_bytes f_p1_length r_p1_bytes Q (va_A (vX6_copy cI cZ h_p1 h_p1_bytes h h_bytes f_p1_length f_length r_p1_bytes r_bytes) sz)) 0 0 (va_A (vX6_copy cI cZ h_p1 h_p1_bytes h h_bytes f_p1_length f_length r_p1_bytes r_bytes) sz) := by
  refine Met.ofW (cc := cX6_copy) (maxL := 2) (ret := none) (by decide) rfl ?_
  intro p e s m args below meth c s₁ B hml hv
  obtain ⟨rfl, hsz, hP, hK, hD0⟩ := hv
  subst hsz
  have hC : Cx p s m ([.ref h, .ref h_p1] : List Value).toArray meth c cX6_copy none 2 GW RX6 := ⟨B.exec, B.bytes, B.returns, hml, findClass_of_methodNamed B.named, fun w h => atoms_spec (ws := zsX6_copy) B.pre w (List.mem_cons_of_mem _ h), B.notSynchronized⟩
  have hD := hD0.self (sz := s.heap.size)
  generalize hAe : va_A (vX6_copy cI cZ h_p1 h_p1_bytes h h_bytes f_p1_length f_length r_p1_bytes r_bytes) s.heap.size = A at hD ⊢
  have hA : ∀ q : Nat, s.heap.size ≤ q → A q := fun q h => by rw [← hAe]; exact Or.inr h
  have hl := lv_entry ([.ref h, .ref h_p1]) (n := 2) (Nat.le_of_ble_eq_true rfl)
  rw [lg_entry_eq]
  generalize (lg_sl ([.ref h, .ref h_p1]) ++ List.replicate (2 - (lg_sl ([.ref h, .ref h_p1])).length) Slot.unset).toArray = ls at hl ⊢
  exact tX6_copy_e hC hK hA  f_p1_length f_length r_p1_bytes r_bytes _ _ ls hw hP hD va_S.rf hl

/-! X7_put -/
def wX7_put_7 (Q : (Nat → Int32) → (Nat → Int32) → (Nat → Int32) → Prop)   : Nat → Int32 → Int32 → Int32 → Int32 → Int32 → (Nat → Int32) → (Nat → Int32) → (Nat → Int32) → Prop
  | 0, _, _, _, _, _, _, _, _ => False
  | n + 1, x2, x3, x4, x5, x6, r_cold, r_force, r_way => ((x2 ≤ x6 → (Q r_cold r_force r_way)) ∧ (¬ x2 ≤ x6 → (((1000 : Int32) ≤ x6 → (Q r_cold r_force r_way)) ∧ (¬ (1000 : Int32) ≤ x6 → (vp_in x6 1000 ∧ (vp_in x6 1000 ∧ (vp_in x6 1000 ∧ (wX7_put_7 Q n x2 x3 x4 x5 (x6 + (1 : Int32)) (upd r_cold x6.toNatClampNeg x3) (upd r_force x6.toNatClampNeg x5) (upd r_way x6.toNatClampNeg x4)))))))))
def wX7_put (Q : (Nat → Int32) → (Nat → Int32) → (Nat → Int32) → Prop) (x1 : Int32) (x2 : Int32) (x3 : Int32) (x4 : Int32) (x5 : Int32) (r_cold : Nat → Int32) (r_force : Nat → Int32) (r_way : Nat → Int32) : Prop :=
  (∃ j_, wX7_put_7 Q j_ x2 x3 x4 x5 (if x1 < (0 : Int32) then (0 : Int32) else x1) r_cold r_force r_way)
abbrev vX7_put (cI cZ : ClassId) (h h_cold h_way h_force : Nat) (r_cold : Nat → Int32) (r_force : Nat → Int32) (r_way : Nat → Int32) : va_W := [(h, .inr (7, [.ref h_cold, .ref h_way, .ref h_force])), (h_cold, .inl (cI, 1000, .inl r_cold)), (h_force, .inl (cI, 1000, .inl r_force)), (h_way, .inl (cI, 1000, .inl r_way))]
abbrev rmX7_put : Room := { frames := 1, cells := 0, slots := 0, locals := 21 }
abbrev qX7_put (dC : Nat → ClassId) (dI : Nat → Nat → Nat) (cI cZ cO cW : ClassId) (h h_cold h_way h_force : Nat)  (Q : (Nat → Int32) → (Nat → Int32) → (Nat → Int32) → Prop) (A : Nat → Prop) : Array Value → State → Outcome → State → Prop := va_Qv (fun (u : (Nat → Int32) × (Nat → Int32) × (Nat → Int32)) => Q u.1 u.2.1 u.2.2) (fun (u : (Nat → Int32) × (Nat → Int32) × (Nat → Int32)) (t : State) => va_P (dC, dI) vwCl (vX7_put cI cZ h h_cold h_way h_force u.1 u.2.1 u.2.2) t.heap ∧ va_K (dC, dI) vwCl (tysA cI cZ cO cW) t ∧ va_D A (vX7_put cI cZ h h_cold h_way h_force u.1 u.2.1 u.2.2)) A
def zsX7_put : List Cond := Cond.code yX7_put cX7_put 7 none :: GW
set_option maxHeartbeats 4000000 in
set_option maxRecDepth 100000 in
theorem tX7_put_7 {p : Program} {l : Launch} {e : Env} {s : State} {m : MethodId} {args : Array Value} {below : List Frame} {meth : Method} {c : Code} {dC : Nat → ClassId} {dI : Nat → Nat → Nat} {cI cZ cO cW : ClassId} {A : Nat → Prop} {h h_cold h_way h_force : Nat} {Q : (Nat → Int32) → (Nat → Int32) → (Nat → Int32) → Prop}  (hC : Cx p s m args meth c cX7_put none 7 GW RX7) (hK : va_K (dC, dI) vwCl (tysA cI cZ cO cW) s) (hA : ∀ q : Nat, s.heap.size ≤ q → A q) :
    ∀ (n : Nat) (x2 : Int32) (x3 : Int32) (x4 : Int32) (x5 : Int32) (x6 : Int32) (r_cold : (Nat → Int32)) (r_force : (Nat → Int32)) (r_way : (Nat → Int32)) (H : Heap) (locs : List Loc) (ls : Array Slot), wX7_put_7 Q  n x2 x3 x4 x5 x6 r_cold r_force r_way → va_P (dC, dI) vwCl (vX7_put cI cZ h h_cold h_way h_force r_cold r_force r_way) H → va_D A (vX7_put cI cZ h h_cold h_way h_force r_cold r_force r_way) → va_S A s.heap H locs → lv_has ls 7 [(0, .ref h), (2, .int x2), (3, .int x3), (4, .int x4), (5, .int x5), (6, .int x6)] → W p l e rmX7_put s m args below meth c H locs 0 0 (MQ below (qX7_put dC dI cI cZ cO cW h h_cold h_way h_force Q A) args s 0 0 A) (F0 m 7 ls []) := by
  obtain ⟨hx, hb, hr, hml, hown, hts, hlocks⟩ := id hC
  intro n
  induction n with
  | zero =>
    intro  x2 x3 x4 x5 x6 r_cold r_force r_way H locs ls hw
    exact hw.elim
  | succ n ih =>
    intro  x2 x3 x4 x5 x6 r_cold r_force r_way H locs ls hw hP hD hS hl
    refine lv_iload hx hb dX7_put_7 (lv_at hl 5 rfl) ?_
    refine lv_iload_n hx hb dX7_put_9 rfl (lv_at hl 1 rfl) ?_
    refine lv_icmp_ge (tgt := 53) hx hb dX7_put_10 (by decide) (fun c_1 => ?_) (fun c_1 => ?_)
    · have hw := hw.1 c_1
      have hP9 := hP.sub (ws' := (vX7_put cI cZ h h_cold h_way h_force r_cold r_force r_way)) [0, 1, 2, 3] rfl
      have hD9 := hD.sub (ws' := (vX7_put cI cZ h h_cold h_way h_force r_cold r_force r_way)) [0, 1, 2, 3] (by decide) rfl
      exact W.vret hx hb hr (fun t ht hW => ⟨⟨(r_cold, r_force, r_way), rfl, hw, by rw [ht]; exact hP9, va_K.moved hW.alike hK, hD9⟩, hS.F ht⟩) hS.2.2 dX7_put_53
    · have hw := hw.2 c_1
      refine lv_iload hx hb dX7_put_13 (lv_at hl 5 rfl) ?_
      refine lv_sipush (v := (1000 : Int32)) hx hb dX7_put_15 (by decide) ?_
      refine lv_icmp_ge (tgt := 53) hx hb dX7_put_18 (by decide) (fun c_2 => ?_) (fun c_2 => ?_)
      · have hw := hw.1 c_2
        have hP9 := hP.sub (ws' := (vX7_put cI cZ h h_cold h_way h_force r_cold r_force r_way)) [0, 1, 2, 3] rfl
        have hD9 := hD.sub (ws' := (vX7_put cI cZ h h_cold h_way h_force r_cold r_force r_way)) [0, 1, 2, 3] (by decide) rfl
        exact W.vret hx hb hr (fun t ht hW => ⟨⟨(r_cold, r_force, r_way), rfl, hw, by rw [ht]; exact hP9, va_K.moved hW.alike hK, hD9⟩, hS.F ht⟩) hS.2.2 dX7_put_53
      · have hw := hw.2 c_2
        refine lv_aload_n hx hb dX7_put_21 rfl (lv_at hl 0 rfl) ?_
        refine va_get (D := (dC, dI)) (ci := 7) (v := .ref h_cold) (C := RX7) (T := TX7) (N := 3) hx hb hts gu_X7 hown hK hP 0 rfl rfl 0 (by decide) (hts _ gw_106) (fun _ h9 => h9) rfl dX7_put_22 ?_
        refine lv_iload hx hb dX7_put_25 (lv_at hl 5 rfl) ?_
        refine lv_iload_n hx hb dX7_put_27 rfl (lv_at hl 2 rfl) ?_
        obtain ⟨h_3, hw⟩ := hw
        refine va_iast hx hb hK hP hD hS 1 0 rfl rfl h_3 dX7_put_28 (fun H locs hP hD hS => ?_)
        have hP : va_P (dC, dI) vwCl [(h, .inr (7, [.ref h_cold, .ref h_way, .ref h_force])), (h_cold, .inl (cI, 1000, .inl (upd r_cold x6.toNatClampNeg x3))), (h_force, .inl (cI, 1000, .inl r_force)), (h_way, .inl (cI, 1000, .inl r_way))] _ := hP
        have hD : va_D A [(h, .inr (7, [.ref h_cold, .ref h_way, .ref h_force])), (h_cold, .inl (cI, 1000, .inl (upd r_cold x6.toNatClampNeg x3))), (h_force, .inl (cI, 1000, .inl r_force)), (h_way, .inl (cI, 1000, .inl r_way))] := hD
        refine lv_aload_n hx hb dX7_put_29 rfl (lv_at hl 0 rfl) ?_
        refine va_get (D := (dC, dI)) (ci := 7) (v := .ref h_way) (C := RX7) (T := TX7) (N := 3) hx hb hts gu_X7 hown hK hP 0 rfl rfl 1 (by decide) (hts _ gw_107) (fun _ h9 => h9) rfl dX7_put_30 ?_
        refine lv_iload hx hb dX7_put_33 (lv_at hl 5 rfl) ?_
        refine lv_iload hx hb dX7_put_35 (lv_at hl 3 rfl) ?_
        obtain ⟨h_4, hw⟩ := hw
        refine va_iast hx hb hK hP hD hS 3 0 rfl rfl h_4 dX7_put_37 (fun H locs hP hD hS => ?_)
        have hP : va_P (dC, dI) vwCl [(h, .inr (7, [.ref h_cold, .ref h_way, .ref h_force])), (h_cold, .inl (cI, 1000, .inl (upd r_cold x6.toNatClampNeg x3))), (h_force, .inl (cI, 1000, .inl r_force)), (h_way, .inl (cI, 1000, .inl (upd r_way x6.toNatClampNeg x4)))] _ := hP
        have hD : va_D A [(h, .inr (7, [.ref h_cold, .ref h_way, .ref h_force])), (h_cold, .inl (cI, 1000, .inl (upd r_cold x6.toNatClampNeg x3))), (h_force, .inl (cI, 1000, .inl r_force)), (h_way, .inl (cI, 1000, .inl (upd r_way x6.toNatClampNeg x4)))] := hD
        refine lv_aload_n hx hb dX7_put_38 rfl (lv_at hl 0 rfl) ?_
        refine va_get (D := (dC, dI)) (ci := 7) (v := .ref h_force) (C := RX7) (T := TX7) (N := 3) hx hb hts gu_X7 hown hK hP 0 rfl rfl 2 (by decide) (hts _ gw_108) (fun _ h9 => h9) rfl dX7_put_39 ?_
        refine lv_iload hx hb dX7_put_42 (lv_at hl 5 rfl) ?_
        refine lv_iload hx hb dX7_put_44 (lv_at hl 4 rfl) ?_
        obtain ⟨h_5, hw⟩ := hw
        refine va_iast hx hb hK hP hD hS 2 0 rfl rfl h_5 dX7_put_46 (fun H locs hP hD hS => ?_)
        have hP : va_P (dC, dI) vwCl [(h, .inr (7, [.ref h_cold, .ref h_way, .ref h_force])), (h_cold, .inl (cI, 1000, .inl (upd r_cold x6.toNatClampNeg x3))), (h_force, .inl (cI, 1000, .inl (upd r_force x6.toNatClampNeg x5))), (h_way, .inl (cI, 1000, .inl (upd r_way x6.toNatClampNeg x4)))] _ := hP
        have hD : va_D A [(h, .inr (7, [.ref h_cold, .ref h_way, .ref h_force])), (h_cold, .inl (cI, 1000, .inl (upd r_cold x6.toNatClampNeg x3))), (h_force, .inl (cI, 1000, .inl (upd r_force x6.toNatClampNeg x5))), (h_way, .inl (cI, 1000, .inl (upd r_way x6.toNatClampNeg x4)))] := hD
        refine lv_iinc (v := (x6 + (1 : Int32))) (lv' := [(6, .int (x6 + (1 : Int32))), (0, .ref h), (2, .int x2), (3, .int x3), (4, .int x4), (5, .int x5)]) hx hb dX7_put_47 hl (k := 5) rfl rfl (by decide) rfl (fun ls hl => ?_)
        refine lv_goto (tgt := 7) hx hb dX7_put_50 (by decide) ?_
        exact ih x2 x3 x4 x5 (x6 + (1 : Int32)) (upd r_cold x6.toNatClampNeg x3) (upd r_force x6.toNatClampNeg x5) (upd r_way x6.toNatClampNeg x4) _ _ ls hw (hP.sub [0, 1, 2, 3] rfl) (hD.sub [0, 1, 2, 3] (by decide) rfl) hS (lv_sub hl [1, 2, 3, 4, 5, 0] rfl)
set_option maxHeartbeats 4000000 in
set_option maxRecDepth 100000 in
theorem tX7_put_e {p : Program} {l : Launch} {e : Env} {s : State} {m : MethodId} {args : Array Value} {below : List Frame} {meth : Method} {c : Code} {dC : Nat → ClassId} {dI : Nat → Nat → Nat} {cI cZ cO cW : ClassId} {A : Nat → Prop} {h h_cold h_way h_force : Nat} {Q : (Nat → Int32) → (Nat → Int32) → (Nat → Int32) → Prop} (hC : Cx p s m args meth c cX7_put none 7 GW RX7) (hK : va_K (dC, dI) vwCl (tysA cI cZ cO cW) s) (hA : ∀ q : Nat, s.heap.size ≤ q → A q) :
    ∀ (x1 : Int32) (x2 : Int32) (x3 : Int32) (x4 : Int32) (x5 : Int32) (r_cold : Nat → Int32) (r_force : Nat → Int32) (r_way : Nat → Int32) (H : Heap) (locs : List Loc) (ls : Array Slot), wX7_put Q x1 x2 x3 x4 x5 r_cold r_force r_way → va_P (dC, dI) vwCl (vX7_put cI cZ h h_cold h_way h_force r_cold r_force r_way) H → va_D A (vX7_put cI cZ h h_cold h_way h_force r_cold r_force r_way) → va_S A s.heap H locs → lv_has ls 7 [(0, .ref h), (1, .int x1), (2, .int x2), (3, .int x3), (4, .int x4), (5, .int x5)] → W p l e rmX7_put s m args below meth c H locs 0 0 (MQ below (qX7_put dC dI cI cZ cO cW h h_cold h_way h_force Q A) args s 0 0 A) (F0 m 0 ls []) := by
  obtain ⟨hx, hb, hr, hml, hown, hts, hlocks⟩ := id hC
  intro x1 x2 x3 x4 x5 r_cold r_force r_way H locs ls hw hP hD hS hl
  refine lv_iload_n hx hb dX7_put_0 rfl (lv_at hl 1 rfl) ?_
  refine lv_iconst (v := (0 : Int32)) hx hb dX7_put_1 (by decide) ?_
  refine va_mmax hx hb (hml.trans hl.1.symm) hown (hts _ gw_105) (hts _ gw_20) (hts _ gw_21) (hts _ gw_22) (Nat.le_of_ble_eq_true rfl) (Nat.le_of_ble_eq_true rfl) (Nat.zero_le _) (Nat.zero_le _) dX7_put_2 ?_
  refine lv_istore (lv' := [(6, .int (if x1 < (0 : Int32) then (0 : Int32) else x1)), (0, .ref h), (1, .int x1), (2, .int x2), (3, .int x3), (4, .int x4), (5, .int x5)]) hx hb dX7_put_5 hl (by decide) rfl (fun ls hl => ?_)
  obtain ⟨n_6, hw⟩ := hw
  exact tX7_put_7 hC hK hA  n_6 x2 x3 x4 x5 (if x1 < (0 : Int32) then (0 : Int32) else x1) r_cold r_force r_way _ _ ls hw (hP.sub [0, 1, 2, 3] rfl) (hD.sub [0, 1, 2, 3] (by decide) rfl) hS (lv_sub hl [1, 3, 4, 5, 6, 0] rfl)
set_option maxHeartbeats 4000000 in
set_option maxRecDepth 100000 in
theorem kX7_put (l : Launch) (dC : Nat → ClassId) (dI : Nat → Nat → Nat) (cI cZ cO cW : ClassId) (h h_cold h_way h_force : Nat)  (sz : Nat) (r_cold : Nat → Int32) (r_force : Nat → Int32) (r_way : Nat → Int32) (x1 : Int32) (x2 : Int32) (x3 : Int32) (x4 : Int32) (x5 : Int32) (Q : (Nat → Int32) → (Nat → Int32) → (Nat → Int32) → Prop) (hw : wX7_put Q x1 x2 x3 x4 x5 r_cold r_force r_way) : Met l yX7_put zsX7_put rmX7_put (va_Pc [.ref h, .int x1, .int x2, .int x3, .int x4, .int x5] (fun U => U.heap.size = sz ∧ va_P (dC, dI) vwCl (vX7_put cI cZ h h_cold h_way h_force r_cold r_force r_way) U.heap ∧ va_K (dC, dI) vwCl (tysA cI cZ cO cW) U ∧ va_D (fun _ => True) (vX7_put cI cZ h h_cold h_way h_force r_cold r_force r_way))) (qX7_put dC dI cI cZ cO cW h h_cold h_way h_force Q (va_A (vX7_put cI cZ h h_cold h_way h_force r_cold r_force r_way) sz)) 0 0 (va_A (vX7_put cI cZ h h_cold h_way h_force r_cold r_force r_way) sz) := by
  refine Met.ofW (cc := cX7_put) (maxL := 7) (ret := none) (by decide) rfl ?_
  intro p e s m args below meth c s₁ B hml hv
  obtain ⟨rfl, hsz, hP, hK, hD0⟩ := hv
  subst hsz
  have hC : Cx p s m ([.ref h, .int x1, .int x2, .int x3, .int x4, .int x5] : List Value).toArray meth c cX7_put none 7 GW RX7 := ⟨B.exec, B.bytes, B.returns, hml, findClass_of_methodNamed B.named, fun w h => atoms_spec (ws := zsX7_put) B.pre w (List.mem_cons_of_mem _ h), B.notSynchronized⟩
  have hD := hD0.self (sz := s.heap.size)
  generalize hAe : va_A (vX7_put cI cZ h h_cold h_way h_force r_cold r_force r_way) s.heap.size = A at hD ⊢
  have hA : ∀ q : Nat, s.heap.size ≤ q → A q := fun q h => by rw [← hAe]; exact Or.inr h
  have hl := lv_entry ([.ref h, .int x1, .int x2, .int x3, .int x4, .int x5]) (n := 7) (Nat.le_of_ble_eq_true rfl)
  rw [lg_entry_eq]
  generalize (lg_sl ([.ref h, .int x1, .int x2, .int x3, .int x4, .int x5]) ++ List.replicate (7 - (lg_sl ([.ref h, .int x1, .int x2, .int x3, .int x4, .int x5])).length) Slot.unset).toArray = ls at hl ⊢
  exact tX7_put_e hC hK hA x1 x2 x3 x4 x5 r_cold r_force r_way _ _ ls hw hP hD va_S.rf hl

/-! X7_copy -/
def wX7_copy (Q : (Nat → Int32) → (Nat → Int32) → (Nat → Int32) → Prop)  (r_p1_cold : Nat → Int32) (r_p1_force : Nat → Int32) (r_p1_way : Nat → Int32) (r_cold : Nat → Int32) (r_force : Nat → Int32) (r_way : Nat → Int32) : Prop :=
  (Q (va_cpy r_p1_cold r_cold (0 : Int32).toNatClampNeg (0 : Int32).toNatClampNeg (1000 : Int32).toNatClampNeg) (va_cpy r_p1_force r_force (0 : Int32).toNatClampNeg (0 : Int32).toNatClampNeg (1000 : Int32).toNatClampNeg) (va_cpy r_p1_way r_way (0 : Int32).toNatClampNeg (0 : Int32).toNatClampNeg (1000 : Int32).toNatClampNeg))
abbrev vX7_copy (cI cZ : ClassId) (h_p1 h_p1_cold h_p1_way h_p1_force h h_cold h_way h_force : Nat) (r_p1_cold : Nat → Int32) (r_p1_force : Nat → Int32) (r_p1_way : Nat → Int32) (r_cold : Nat → Int32) (r_force : Nat → Int32) (r_way : Nat → Int32) : va_W := [(h_p1, .inr (7, [.ref h_p1_cold, .ref h_p1_way, .ref h_p1_force])), (h, .inr (7, [.ref h_cold, .ref h_way, .ref h_force])), (h_p1_cold, .inl (cI, 1000, .inl r_p1_cold)), (h_p1_force, .inl (cI, 1000, .inl r_p1_force)), (h_p1_way, .inl (cI, 1000, .inl r_p1_way)), (h_cold, .inl (cI, 1000, .inl r_cold)), (h_force, .inl (cI, 1000, .inl r_force)), (h_way, .inl (cI, 1000, .inl r_way))]
abbrev rmX7_copy : Room := { frames := 1, cells := 0, slots := 0, locals := 26 }
abbrev qX7_copy (dC : Nat → ClassId) (dI : Nat → Nat → Nat) (cI cZ cO cW : ClassId) (h_p1 h_p1_cold h_p1_way h_p1_force h h_cold h_way h_force : Nat) (r_p1_cold : Nat → Int32) (r_p1_force : Nat → Int32) (r_p1_way : Nat → Int32) (Q : (Nat → Int32) → (Nat → Int32) → (Nat → Int32) → Prop) (A : Nat → Prop) : Array Value → State → Outcome → State → Prop := va_Qv (fun (u : (Nat → Int32) × (Nat → Int32) × (Nat → Int32)) => Q u.1 u.2.1 u.2.2) (fun (u : (Nat → Int32) × (Nat → Int32) × (Nat → Int32)) (t : State) => va_P (dC, dI) vwCl (vX7_copy cI cZ h_p1 h_p1_cold h_p1_way h_p1_force h h_cold h_way h_force r_p1_cold r_p1_force r_p1_way u.1 u.2.1 u.2.2) t.heap ∧ va_K (dC, dI) vwCl (tysA cI cZ cO cW) t ∧ va_D A (vX7_copy cI cZ h_p1 h_p1_cold h_p1_way h_p1_force h h_cold h_way h_force r_p1_cold r_p1_force r_p1_way u.1 u.2.1 u.2.2)) A
def zsX7_copy : List Cond := Cond.code yX7_copy cX7_copy 2 none :: GW
set_option maxHeartbeats 4000000 in
set_option maxRecDepth 100000 in
theorem tX7_copy_e {p : Program} {l : Launch} {e : Env} {s : State} {m : MethodId} {args : Array Value} {below : List Frame} {meth : Method} {c : Code} {dC : Nat → ClassId} {dI : Nat → Nat → Nat} {cI cZ cO cW : ClassId} {A : Nat → Prop} {h_p1 h_p1_cold h_p1_way h_p1_force h h_cold h_way h_force : Nat} {Q : (Nat → Int32) → (Nat → Int32) → (Nat → Int32) → Prop} (hC : Cx p s m args meth c cX7_copy none 2 GW RX7) (hK : va_K (dC, dI) vwCl (tysA cI cZ cO cW) s) (hA : ∀ q : Nat, s.heap.size ≤ q → A q) :
    ∀ (r_p1_cold : Nat → Int32) (r_p1_force : Nat → Int32) (r_p1_way : Nat → Int32) (r_cold : Nat → Int32) (r_force : Nat → Int32) (r_way : Nat → Int32) (H : Heap) (locs : List Loc) (ls : Array Slot), wX7_copy Q  r_p1_cold r_p1_force r_p1_way r_cold r_force r_way → va_P (dC, dI) vwCl (vX7_copy cI cZ h_p1 h_p1_cold h_p1_way h_p1_force h h_cold h_way h_force r_p1_cold r_p1_force r_p1_way r_cold r_force r_way) H → va_D A (vX7_copy cI cZ h_p1 h_p1_cold h_p1_way h_p1_force h h_cold h_way h_force r_p1_cold r_p1_force r_p1_way r_cold r_force r_way) → va_S A s.heap H locs → lv_has ls 2 [(0, .ref h), (1, .ref h_p1)] → W p l e rmX7_copy s m args below meth c H locs 0 0 (MQ below (qX7_copy dC dI cI cZ cO cW h_p1 h_p1_cold h_p1_way h_p1_force h h_cold h_way h_force r_p1_cold r_p1_force r_p1_way Q A) args s 0 0 A) (F0 m 0 ls []) := by
  obtain ⟨hx, hb, hr, hml, hown, hts, hlocks⟩ := id hC
  intro  r_p1_cold r_p1_force r_p1_way r_cold r_force r_way H locs ls hw hP hD hS hl
  refine lv_aload_n hx hb dX7_copy_0 rfl (lv_at hl 1 rfl) ?_
  refine va_get (D := (dC, dI)) (ci := 7) (v := .ref h_p1_cold) (C := RX7) (T := TX7) (N := 3) hx hb hts gu_X7 hown hK hP 0 rfl rfl 0 (by decide) (hts _ gw_106) (fun _ h9 => h9) rfl dX7_copy_1 ?_
  refine lv_iconst (v := (0 : Int32)) hx hb dX7_copy_4 (by decide) ?_
  refine lv_aload_n hx hb dX7_copy_5 rfl (lv_at hl 0 rfl) ?_
  refine va_get (D := (dC, dI)) (ci := 7) (v := .ref h_cold) (C := RX7) (T := TX7) (N := 3) hx hb hts gu_X7 hown hK hP 1 rfl rfl 0 (by decide) (hts _ gw_106) (fun _ h9 => h9) rfl dX7_copy_6 ?_
  refine lv_iconst (v := (0 : Int32)) hx hb dX7_copy_9 (by decide) ?_
  refine lv_sipush (v := (1000 : Int32)) hx hb dX7_copy_10 (by decide) ?_
  refine va_copyi hx hb (hml.trans hl.1.symm) hown (hts _ gw_434) (hts _ gw_14) (hts _ gw_15) (hts _ gw_16) hK hP hD hS 2 5 0 0 rfl rfl rfl rfl rfl (by decide) (by decide) (by decide) (by decide) (by decide) (fun _ _ => rfl) (Nat.le_of_ble_eq_true rfl) (Nat.le_of_ble_eq_true rfl) dX7_copy_13 (fun H locs hP hD hS => ?_)
  have hP : va_P (dC, dI) vwCl [(h_p1, .inr (7, [.ref h_p1_cold, .ref h_p1_way, .ref h_p1_force])), (h, .inr (7, [.ref h_cold, .ref h_way, .ref h_force])), (h_p1_cold, .inl (cI, 1000, .inl r_p1_cold)), (h_p1_force, .inl (cI, 1000, .inl r_p1_force)), (h_p1_way, .inl (cI, 1000, .inl r_p1_way)), (h_cold, .inl (cI, 1000, .inl (va_cpy r_p1_cold r_cold (0 : Int32).toNatClampNeg (0 : Int32).toNatClampNeg (1000 : Int32).toNatClampNeg))), (h_force, .inl (cI, 1000, .inl r_force)), (h_way, .inl (cI, 1000, .inl r_way))] _ := hP
  have hD : va_D A [(h_p1, .inr (7, [.ref h_p1_cold, .ref h_p1_way, .ref h_p1_force])), (h, .inr (7, [.ref h_cold, .ref h_way, .ref h_force])), (h_p1_cold, .inl (cI, 1000, .inl r_p1_cold)), (h_p1_force, .inl (cI, 1000, .inl r_p1_force)), (h_p1_way, .inl (cI, 1000, .inl r_p1_way)), (h_cold, .inl (cI, 1000, .inl (va_cpy r_p1_cold r_cold (0 : Int32).toNatClampNeg (0 : Int32).toNatClampNeg (1000 : Int32).toNatClampNeg))), (h_force, .inl (cI, 1000, .inl r_force)), (h_way, .inl (cI, 1000, .inl r_way))] := hD
  refine lv_aload_n hx hb dX7_copy_16 rfl (lv_at hl 1 rfl) ?_
  refine va_get (D := (dC, dI)) (ci := 7) (v := .ref h_p1_way) (C := RX7) (T := TX7) (N := 3) hx hb hts gu_X7 hown hK hP 0 rfl rfl 1 (by decide) (hts _ gw_107) (fun _ h9 => h9) rfl dX7_copy_17 ?_
  refine lv_iconst (v := (0 : Int32)) hx hb dX7_copy_20 (by decide) ?_
  refine lv_aload_n hx hb dX7_copy_21 rfl (lv_at hl 0 rfl) ?_
  refine va_get (D := (dC, dI)) (ci := 7) (v := .ref h_way) (C := RX7) (T := TX7) (N := 3) hx hb hts gu_X7 hown hK hP 1 rfl rfl 1 (by decide) (hts _ gw_107) (fun _ h9 => h9) rfl dX7_copy_22 ?_
  refine lv_iconst (v := (0 : Int32)) hx hb dX7_copy_25 (by decide) ?_
  refine lv_sipush (v := (1000 : Int32)) hx hb dX7_copy_26 (by decide) ?_
  refine va_copyi hx hb (hml.trans hl.1.symm) hown (hts _ gw_434) (hts _ gw_14) (hts _ gw_15) (hts _ gw_16) hK hP hD hS 4 7 0 0 rfl rfl rfl rfl rfl (by decide) (by decide) (by decide) (by decide) (by decide) (fun _ _ => rfl) (Nat.le_of_ble_eq_true rfl) (Nat.le_of_ble_eq_true rfl) dX7_copy_29 (fun H locs hP hD hS => ?_)
  have hP : va_P (dC, dI) vwCl [(h_p1, .inr (7, [.ref h_p1_cold, .ref h_p1_way, .ref h_p1_force])), (h, .inr (7, [.ref h_cold, .ref h_way, .ref h_force])), (h_p1_cold, .inl (cI, 1000, .inl r_p1_cold)), (h_p1_force, .inl (cI, 1000, .inl r_p1_force)), (h_p1_way, .inl (cI, 1000, .inl r_p1_way)), (h_cold, .inl (cI, 1000, .inl (va_cpy r_p1_cold r_cold (0 : Int32).toNatClampNeg (0 : Int32).toNatClampNeg (1000 : Int32).toNatClampNeg))), (h_force, .inl (cI, 1000, .inl r_force)), (h_way, .inl (cI, 1000, .inl (va_cpy r_p1_way r_way (0 : Int32).toNatClampNeg (0 : Int32).toNatClampNeg (1000 : Int32).toNatClampNeg)))] _ := hP
  have hD : va_D A [(h_p1, .inr (7, [.ref h_p1_cold, .ref h_p1_way, .ref h_p1_force])), (h, .inr (7, [.ref h_cold, .ref h_way, .ref h_force])), (h_p1_cold, .inl (cI, 1000, .inl r_p1_cold)), (h_p1_force, .inl (cI, 1000, .inl r_p1_force)), (h_p1_way, .inl (cI, 1000, .inl r_p1_way)), (h_cold, .inl (cI, 1000, .inl (va_cpy r_p1_cold r_cold (0 : Int32).toNatClampNeg (0 : Int32).toNatClampNeg (1000 : Int32).toNatClampNeg))), (h_force, .inl (cI, 1000, .inl r_force)), (h_way, .inl (cI, 1000, .inl (va_cpy r_p1_way r_way (0 : Int32).toNatClampNeg (0 : Int32).toNatClampNeg (1000 : Int32).toNatClampNeg)))] := hD
  refine lv_aload_n hx hb dX7_copy_32 rfl (lv_at hl 1 rfl) ?_
  refine va_get (D := (dC, dI)) (ci := 7) (v := .ref h_p1_force) (C := RX7) (T := TX7) (N := 3) hx hb hts gu_X7 hown hK hP 0 rfl rfl 2 (by decide) (hts _ gw_108) (fun _ h9 => h9) rfl dX7_copy_33 ?_
  refine lv_iconst (v := (0 : Int32)) hx hb dX7_copy_36 (by decide) ?_
  refine lv_aload_n hx hb dX7_copy_37 rfl (lv_at hl 0 rfl) ?_
  refine va_get (D := (dC, dI)) (ci := 7) (v := .ref h_force) (C := RX7) (T := TX7) (N := 3) hx hb hts gu_X7 hown hK hP 1 rfl rfl 2 (by decide) (hts _ gw_108) (fun _ h9 => h9) rfl dX7_copy_38 ?_
  refine lv_iconst (v := (0 : Int32)) hx hb dX7_copy_41 (by decide) ?_
  refine lv_sipush (v := (1000 : Int32)) hx hb dX7_copy_42 (by decide) ?_
  refine va_copyi hx hb (hml.trans hl.1.symm) hown (hts _ gw_434) (hts _ gw_14) (hts _ gw_15) (hts _ gw_16) hK hP hD hS 3 6 0 0 rfl rfl rfl rfl rfl (by decide) (by decide) (by decide) (by decide) (by decide) (fun _ _ => rfl) (Nat.le_of_ble_eq_true rfl) (Nat.le_of_ble_eq_true rfl) dX7_copy_45 (fun H locs hP hD hS => ?_)
  have hP : va_P (dC, dI) vwCl [(h_p1, .inr (7, [.ref h_p1_cold, .ref h_p1_way, .ref h_p1_force])), (h, .inr (7, [.ref h_cold, .ref h_way, .ref h_force])), (h_p1_cold, .inl (cI, 1000, .inl r_p1_cold)), (h_p1_force, .inl (cI, 1000, .inl r_p1_force)), (h_p1_way, .inl (cI, 1000, .inl r_p1_way)), (h_cold, .inl (cI, 1000, .inl (va_cpy r_p1_cold r_cold (0 : Int32).toNatClampNeg (0 : Int32).toNatClampNeg (1000 : Int32).toNatClampNeg))), (h_force, .inl (cI, 1000, .inl (va_cpy r_p1_force r_force (0 : Int32).toNatClampNeg (0 : Int32).toNatClampNeg (1000 : Int32).toNatClampNeg))), (h_way, .inl (cI, 1000, .inl (va_cpy r_p1_way r_way (0 : Int32).toNatClampNeg (0 : Int32).toNatClampNeg (1000 : Int32).toNatClampNeg)))] _ := hP
  have hD : va_D A [(h_p1, .inr (7, [.ref h_p1_cold, .ref h_p1_way, .ref h_p1_force])), (h, .inr (7, [.ref h_cold, .ref h_way, .ref h_force])), (h_p1_cold, .inl (cI, 1000, .inl r_p1_cold)), (h_p1_force, .inl (cI, 1000, .inl r_p1_force)), (h_p1_way, .inl (cI, 1000, .inl r_p1_way)), (h_cold, .inl (cI, 1000, .inl (va_cpy r_p1_cold r_cold (0 : Int32).toNatClampNeg (0 : Int32).toNatClampNeg (1000 : Int32).toNatClampNeg))), (h_force, .inl (cI, 1000, .inl (va_cpy r_p1_force r_force (0 : Int32).toNatClampNeg (0 : Int32).toNatClampNeg (1000 : Int32).toNatClampNeg))), (h_way, .inl (cI, 1000, .inl (va_cpy r_p1_way r_way (0 : Int32).toNatClampNeg (0 : Int32).toNatClampNeg (1000 : Int32).toNatClampNeg)))] := hD
  have hP9 := hP.sub (ws' := (vX7_copy cI cZ h_p1 h_p1_cold h_p1_way h_p1_force h h_cold h_way h_force r_p1_cold r_p1_force r_p1_way (va_cpy r_p1_cold r_cold (0 : Int32).toNatClampNeg (0 : Int32).toNatClampNeg (1000 : Int32).toNatClampNeg) (va_cpy r_p1_force r_force (0 : Int32).toNatClampNeg (0 : Int32).toNatClampNeg (1000 : Int32).toNatClampNeg) (va_cpy r_p1_way r_way (0 : Int32).toNatClampNeg (0 : Int32).toNatClampNeg (1000 : Int32).toNatClampNeg))) [0, 1, 2, 3, 4, 5, 6, 7] rfl
  have hD9 := hD.sub (ws' := (vX7_copy cI cZ h_p1 h_p1_cold h_p1_way h_p1_force h h_cold h_way h_force r_p1_cold r_p1_force r_p1_way (va_cpy r_p1_cold r_cold (0 : Int32).toNatClampNeg (0 : Int32).toNatClampNeg (1000 : Int32).toNatClampNeg) (va_cpy r_p1_force r_force (0 : Int32).toNatClampNeg (0 : Int32).toNatClampNeg (1000 : Int32).toNatClampNeg) (va_cpy r_p1_way r_way (0 : Int32).toNatClampNeg (0 : Int32).toNatClampNeg (1000 : Int32).toNatClampNeg))) [0, 1, 2, 3, 4, 5, 6, 7] (by decide) rfl
  exact W.vret hx hb hr (fun t ht hW => ⟨⟨((va_cpy r_p1_cold r_cold (0 : Int32).toNatClampNeg (0 : Int32).toNatClampNeg (1000 : Int32).toNatClampNeg), (va_cpy r_p1_force r_force (0 : Int32).toNatClampNeg (0 : Int32).toNatClampNeg (1000 : Int32).toNatClampNeg), (va_cpy r_p1_way r_way (0 : Int32).toNatClampNeg (0 : Int32).toNatClampNeg (1000 : Int32).toNatClampNeg)), rfl, hw, by rw [ht]; exact hP9, va_K.moved hW.alike hK, hD9⟩, hS.F ht⟩) hS.2.2 dX7_copy_48
set_option maxHeartbeats 4000000 in
set_option maxRecDepth 100000 in
theorem kX7_copy (l : Launch) (dC : Nat → ClassId) (dI : Nat → Nat → Nat) (cI cZ cO cW : ClassId) (h_p1 h_p1_cold h_p1_way h_p1_force h h_cold h_way h_force : Nat)  (sz : Nat) (r_p1_cold : Nat → Int32) (r_p1_force : Nat → Int32) (r_p1_way : Nat → Int32) (r_cold : Nat → Int32) (r_force : Nat → Int32) (r_way : Nat → Int32)  (Q : (Nat → Int32) → (Nat → Int32) → (Nat → Int32) → Prop) (hw : wX7_copy Q  r_p1_cold r_p1_force r_p1_way r_cold r_force r_way) : Met l yX7_copy zsX7_copy rmX7_copy (va_Pc [.ref h, .ref h_p1] (fun U => U.heap.size = sz ∧ va_P (dC, dI) vwCl (vX7_copy cI cZ h_p1 h_p1_cold h_p1_way h_p1_force h h_cold h_way h_force r_p1_cold r_p1_force r_p1_way r_cold r_force r_way) U.heap ∧ va_K (dC, dI) vwCl (tysA cI cZ cO cW) U ∧ va_D (fun _ => True) (vX7_copy cI cZ h_p1 h_p1_cold h_p1_way h_p1_force h h_cold h_way h_force r_p1_cold r_p1_force r_p1_way r_cold r_force r_way))) (qX7_copy dC dI cI cZ cO cW h_p1 h_p1_cold h_p1_way h_p1_force h h_cold h_way h_force r_p1_cold r_p1_force r_p1_way Q (va_A (vX7_copy cI cZ h_p1 h_p1_cold h_p1_way h_p1_force h h_cold h_way h_force r_p1_cold r_p1_force r_p1_way r_cold r_force r_way) sz)) 0 0 (va_A (vX7_copy cI cZ h_p1 h_p1_cold h_p1_way h_p1_force h h_cold h_way h_force r_p1_cold r_p1_force r_p1_way r_cold r_force r_way) sz) := by
  refine Met.ofW (cc := cX7_copy) (maxL := 2) (ret := none) (by decide) rfl ?_
  intro p e s m args below meth c s₁ B hml hv
  obtain ⟨rfl, hsz, hP, hK, hD0⟩ := hv
  subst hsz
  have hC : Cx p s m ([.ref h, .ref h_p1] : List Value).toArray meth c cX7_copy none 2 GW RX7 := ⟨B.exec, B.bytes, B.returns, hml, findClass_of_methodNamed B.named, fun w h => atoms_spec (ws := zsX7_copy) B.pre w (List.mem_cons_of_mem _ h), B.notSynchronized⟩
  have hD := hD0.self (sz := s.heap.size)
  generalize hAe : va_A (vX7_copy cI cZ h_p1 h_p1_cold h_p1_way h_p1_force h h_cold h_way h_force r_p1_cold r_p1_force r_p1_way r_cold r_force r_way) s.heap.size = A at hD ⊢
  have hA : ∀ q : Nat, s.heap.size ≤ q → A q := fun q h => by rw [← hAe]; exact Or.inr h
  have hl := lv_entry ([.ref h, .ref h_p1]) (n := 2) (Nat.le_of_ble_eq_true rfl)
  rw [lg_entry_eq]
  generalize (lg_sl ([.ref h, .ref h_p1]) ++ List.replicate (2 - (lg_sl ([.ref h, .ref h_p1])).length) Slot.unset).toArray = ls at hl ⊢
  exact tX7_copy_e hC hK hA  r_p1_cold r_p1_force r_p1_way r_cold r_force r_way _ _ ls hw hP hD va_S.rf hl

/-! X9_isWhat -/
def wX9_isWhat (Q : Int32 → Prop) (x0 : Int32)  : Prop :=
  ((x0 < 0 → (Q (0 : Int32))) ∧ (¬ x0 < 0 → (((12 : Int32) < x0 → (Q (0 : Int32))) ∧ (¬ (12 : Int32) < x0 → (Q (1 : Int32))))))
abbrev rmX9_isWhat : Room := { frames := 0, cells := 0, slots := 0, locals := 0 }
abbrev qX9_isWhat (dC : Nat → ClassId) (dI : Nat → Nat → Nat) (cI cZ cO cW : ClassId)  (Q : Int32 → Prop) (A : Nat → Prop) : Array Value → State → Outcome → State → Prop := va_Qi (fun (r : Int32) (u : Unit) => Q r) (fun (u : Unit) (t : State) => va_P (dC, dI) vwCl ([] : va_W) t.heap ∧ va_K (dC, dI) vwCl (tysA cI cZ cO cW) t ∧ va_D A ([] : va_W)) A
def zsX9_isWhat : List Cond := Cond.code yX9_isWhat cX9_isWhat 1 (some .boolean) :: GW
set_option maxHeartbeats 4000000 in
set_option maxRecDepth 100000 in
theorem tX9_isWhat_e {p : Program} {l : Launch} {e : Env} {s : State} {m : MethodId} {args : Array Value} {below : List Frame} {meth : Method} {c : Code} {dC : Nat → ClassId} {dI : Nat → Nat → Nat} {cI cZ cO cW : ClassId} {A : Nat → Prop} {Q : Int32 → Prop} (hC : Cx p s m args meth c cX9_isWhat (some .boolean) 1 GW RX9) (hK : va_K (dC, dI) vwCl (tysA cI cZ cO cW) s) (hA : ∀ q : Nat, s.heap.size ≤ q → A q) :
    ∀ (x0 : Int32) (H : Heap) (locs : List Loc) (ls : Array Slot), wX9_isWhat Q x0  → va_P (dC, dI) vwCl ([] : va_W) H → va_D A ([] : va_W) → va_S A s.heap H locs → lv_has ls 1 [(0, .int x0)] → W p l e rmX9_isWhat s m args below meth c H locs 0 0 (MQ below (qX9_isWhat dC dI cI cZ cO cW Q A) args s 0 0 A) (F0 m 0 ls []) := by
  obtain ⟨hx, hb, hr, hml, hown, hts, hlocks⟩ := id hC
  intro x0 H locs ls hw hP hD hS hl
  refine lv_iload_n hx hb dX9_isWhat_0 rfl (lv_at hl 0 rfl) ?_
  refine lv_if_lt (tgt := 14) hx hb dX9_isWhat_1 (by decide) (fun c_1 => ?_) (fun c_1 => ?_)
  · have hw := hw.1 c_1
    refine lv_iconst (v := (0 : Int32)) hx hb dX9_isWhat_14 (by decide) ?_
    have hP9 := hP.sub (ws' := ([] : va_W)) [] rfl
    have hD9 := hD.sub (ws' := ([] : va_W)) [] (by decide) rfl
    exact W.zret (v := (0 : Int32)) (ty := .boolean) hx hb hr rfl (fun t ht hW => ⟨⟨(0 : Int32), (), rfl, hw, by rw [ht]; exact hP9, va_K.moved hW.alike hK, hD9⟩, hS.F ht⟩) hS.2.2 dX9_isWhat_15
  · have hw := hw.2 c_1
    refine lv_iload_n hx hb dX9_isWhat_4 rfl (lv_at hl 0 rfl) ?_
    refine lv_bipush (v := (12 : Int32)) hx hb dX9_isWhat_5 (by decide) ?_
    refine lv_icmp_gt (tgt := 14) hx hb dX9_isWhat_7 (by decide) (fun c_2 => ?_) (fun c_2 => ?_)
    · have hw := hw.1 c_2
      refine lv_iconst (v := (0 : Int32)) hx hb dX9_isWhat_14 (by decide) ?_
      have hP9 := hP.sub (ws' := ([] : va_W)) [] rfl
      have hD9 := hD.sub (ws' := ([] : va_W)) [] (by decide) rfl
      exact W.zret (v := (0 : Int32)) (ty := .boolean) hx hb hr rfl (fun t ht hW => ⟨⟨(0 : Int32), (), rfl, hw, by rw [ht]; exact hP9, va_K.moved hW.alike hK, hD9⟩, hS.F ht⟩) hS.2.2 dX9_isWhat_15
    · have hw := hw.2 c_2
      refine lv_iconst (v := (1 : Int32)) hx hb dX9_isWhat_10 (by decide) ?_
      refine lv_goto (tgt := 15) hx hb dX9_isWhat_11 (by decide) ?_
      have hP9 := hP.sub (ws' := ([] : va_W)) [] rfl
      have hD9 := hD.sub (ws' := ([] : va_W)) [] (by decide) rfl
      exact W.zret (v := (1 : Int32)) (ty := .boolean) hx hb hr rfl (fun t ht hW => ⟨⟨(1 : Int32), (), rfl, hw, by rw [ht]; exact hP9, va_K.moved hW.alike hK, hD9⟩, hS.F ht⟩) hS.2.2 dX9_isWhat_15
set_option maxHeartbeats 4000000 in
set_option maxRecDepth 100000 in
theorem kX9_isWhat (l : Launch) (dC : Nat → ClassId) (dI : Nat → Nat → Nat) (cI cZ cO cW : ClassId)  (sz : Nat)  (x0 : Int32) (Q : Int32 → Prop) (hw : wX9_isWhat Q x0 ) : Met l yX9_isWhat zsX9_isWhat rmX9_isWhat (va_Pc [.int x0] (fun U => U.heap.size = sz ∧ va_P (dC, dI) vwCl ([] : va_W) U.heap ∧ va_K (dC, dI) vwCl (tysA cI cZ cO cW) U ∧ va_D (fun _ => True) ([] : va_W))) (qX9_isWhat dC dI cI cZ cO cW Q (va_A ([] : va_W) sz)) 0 0 (va_A ([] : va_W) sz) := by
  refine Met.ofW (cc := cX9_isWhat) (maxL := 1) (ret := (some .boolean)) (by decide) rfl ?_
  intro p e s m args below meth c s₁ B hml hv
  obtain ⟨rfl, hsz, hP, hK, hD0⟩ := hv
  subst hsz
  have hC : Cx p s m ([.int x0] : List Value).toArray meth c cX9_isWhat (some .boolean) 1 GW RX9 := ⟨B.exec, B.bytes, B.returns, hml, findClass_of_methodNamed B.named, fun w h => atoms_spec (ws := zsX9_isWhat) B.pre w (List.mem_cons_of_mem _ h), B.notSynchronized⟩
  have hD := hD0.self (sz := s.heap.size)
  generalize hAe : va_A ([] : va_W) s.heap.size = A at hD ⊢
  have hA : ∀ q : Nat, s.heap.size ≤ q → A q := fun q h => by rw [← hAe]; exact Or.inr h
  have hl := lv_entry ([.int x0]) (n := 1) (Nat.le_of_ble_eq_true rfl)
  rw [lg_entry_eq]
  generalize (lg_sl ([.int x0]) ++ List.replicate (1 - (lg_sl ([.int x0])).length) Slot.unset).toArray = ls at hl ⊢
  exact tX9_isWhat_e hC hK hA x0 _ _ ls hw hP hD va_S.rf hl

/-! X9_isAct -/
def wX9_isAct_27 (Q : Int32 → Prop)    : Prop :=
  (Q (1 : Int32))
def wX9_isAct_9 (Q : Int32 → Prop)   (x0 : Int32) : Prop :=
  ((x0 = (13 : Int32) → (wX9_isAct_27 Q )) ∧ (¬ x0 = (13 : Int32) → ((x0 = (14 : Int32) → (wX9_isAct_27 Q )) ∧ (¬ x0 = (14 : Int32) → ((¬ x0 = (15 : Int32) → (Q (0 : Int32))) ∧ (x0 = (15 : Int32) → (wX9_isAct_27 Q )))))))
def wX9_isAct (Q : Int32 → Prop) (x0 : Int32)  : Prop :=
  ((x0 < 0 → (wX9_isAct_9 Q x0)) ∧ (¬ x0 < 0 → ((x0 ≤ (3 : Int32) → (wX9_isAct_27 Q )) ∧ (¬ x0 ≤ (3 : Int32) → (wX9_isAct_9 Q x0)))))
abbrev rmX9_isAct : Room := { frames := 0, cells := 0, slots := 0, locals := 0 }
abbrev qX9_isAct (dC : Nat → ClassId) (dI : Nat → Nat → Nat) (cI cZ cO cW : ClassId)  (Q : Int32 → Prop) (A : Nat → Prop) : Array Value → State → Outcome → State → Prop := va_Qi (fun (r : Int32) (u : Unit) => Q r) (fun (u : Unit) (t : State) => va_P (dC, dI) vwCl ([] : va_W) t.heap ∧ va_K (dC, dI) vwCl (tysA cI cZ cO cW) t ∧ va_D A ([] : va_W)) A
def zsX9_isAct : List Cond := Cond.code yX9_isAct cX9_isAct 1 (some .boolean) :: GW
set_option maxHeartbeats 4000000 in
set_option maxRecDepth 100000 in
theorem tX9_isAct_27 {p : Program} {l : Launch} {e : Env} {s : State} {m : MethodId} {args : Array Value} {below : List Frame} {meth : Method} {c : Code} {dC : Nat → ClassId} {dI : Nat → Nat → Nat} {cI cZ cO cW : ClassId} {A : Nat → Prop} {Q : Int32 → Prop}  (hC : Cx p s m args meth c cX9_isAct (some .boolean) 1 GW RX9) (hK : va_K (dC, dI) vwCl (tysA cI cZ cO cW) s) (hA : ∀ q : Nat, s.heap.size ≤ q → A q) :
    ∀  (H : Heap) (locs : List Loc) (ls : Array Slot), wX9_isAct_27 Q   → va_P (dC, dI) vwCl ([] : va_W) H → va_D A ([] : va_W) → va_S A s.heap H locs → lv_has ls 1 [] → W p l e rmX9_isAct s m args below meth c H locs 0 0 (MQ below (qX9_isAct dC dI cI cZ cO cW Q A) args s 0 0 A) (F0 m 27 ls []) := by
  obtain ⟨hx, hb, hr, hml, hown, hts, hlocks⟩ := id hC
  intro  H locs ls hw hP hD hS hl
  refine lv_iconst (v := (1 : Int32)) hx hb dX9_isAct_27 (by decide) ?_
  refine lv_goto (tgt := 32) hx hb dX9_isAct_28 (by decide) ?_
  have hP9 := hP.sub (ws' := ([] : va_W)) [] rfl
  have hD9 := hD.sub (ws' := ([] : va_W)) [] (by decide) rfl
  exact W.zret (v := (1 : Int32)) (ty := .boolean) hx hb hr rfl (fun t ht hW => ⟨⟨(1 : Int32), (), rfl, hw, by rw [ht]; exact hP9, va_K.moved hW.alike hK, hD9⟩, hS.F ht⟩) hS.2.2 dX9_isAct_32
set_option maxHeartbeats 4000000 in
set_option maxRecDepth 100000 in
theorem tX9_isAct_9 {p : Program} {l : Launch} {e : Env} {s : State} {m : MethodId} {args : Array Value} {below : List Frame} {meth : Method} {c : Code} {dC : Nat → ClassId} {dI : Nat → Nat → Nat} {cI cZ cO cW : ClassId} {A : Nat → Prop} {Q : Int32 → Prop}  (hC : Cx p s m args meth c cX9_isAct (some .boolean) 1 GW RX9) (hK : va_K (dC, dI) vwCl (tysA cI cZ cO cW) s) (hA : ∀ q : Nat, s.heap.size ≤ q → A q) :
    ∀ (x0 : Int32) (H : Heap) (locs : List Loc) (ls : Array Slot), wX9_isAct_9 Q  x0 → va_P (dC, dI) vwCl ([] : va_W) H → va_D A ([] : va_W) → va_S A s.heap H locs → lv_has ls 1 [(0, .int x0)] → W p l e rmX9_isAct s m args below meth c H locs 0 0 (MQ below (qX9_isAct dC dI cI cZ cO cW Q A) args s 0 0 A) (F0 m 9 ls []) := by
  obtain ⟨hx, hb, hr, hml, hown, hts, hlocks⟩ := id hC
  intro x0 H locs ls hw hP hD hS hl
  refine lv_iload_n hx hb dX9_isAct_9 rfl (lv_at hl 0 rfl) ?_
  refine lv_bipush (v := (13 : Int32)) hx hb dX9_isAct_10 (by decide) ?_
  refine lv_icmp_eq (tgt := 27) hx hb dX9_isAct_12 (by decide) (fun c_1 => ?_) (fun c_1 => ?_)
  · have hw := hw.1 c_1
    exact tX9_isAct_27 hC hK hA  _ _ ls hw (hP.sub [] rfl) (hD.sub [] (by decide) rfl) hS (lv_sub hl [] rfl)
  · have hw := hw.2 c_1
    refine lv_iload_n hx hb dX9_isAct_15 rfl (lv_at hl 0 rfl) ?_
    refine lv_bipush (v := (14 : Int32)) hx hb dX9_isAct_16 (by decide) ?_
    refine lv_icmp_eq (tgt := 27) hx hb dX9_isAct_18 (by decide) (fun c_2 => ?_) (fun c_2 => ?_)
    · have hw := hw.1 c_2
      exact tX9_isAct_27 hC hK hA  _ _ ls hw (hP.sub [] rfl) (hD.sub [] (by decide) rfl) hS (lv_sub hl [] rfl)
    · have hw := hw.2 c_2
      refine lv_iload_n hx hb dX9_isAct_21 rfl (lv_at hl 0 rfl) ?_
      refine lv_bipush (v := (15 : Int32)) hx hb dX9_isAct_22 (by decide) ?_
      refine lv_icmp_ne (tgt := 31) hx hb dX9_isAct_24 (by decide) (fun c_3 => ?_) (fun c_3 => ?_)
      · have hw := hw.1 c_3
        refine lv_iconst (v := (0 : Int32)) hx hb dX9_isAct_31 (by decide) ?_
        have hP9 := hP.sub (ws' := ([] : va_W)) [] rfl
        have hD9 := hD.sub (ws' := ([] : va_W)) [] (by decide) rfl
        exact W.zret (v := (0 : Int32)) (ty := .boolean) hx hb hr rfl (fun t ht hW => ⟨⟨(0 : Int32), (), rfl, hw, by rw [ht]; exact hP9, va_K.moved hW.alike hK, hD9⟩, hS.F ht⟩) hS.2.2 dX9_isAct_32
      · have hw := hw.2 c_3
        exact tX9_isAct_27 hC hK hA  _ _ ls hw (hP.sub [] rfl) (hD.sub [] (by decide) rfl) hS (lv_sub hl [] rfl)
set_option maxHeartbeats 4000000 in
set_option maxRecDepth 100000 in
theorem tX9_isAct_e {p : Program} {l : Launch} {e : Env} {s : State} {m : MethodId} {args : Array Value} {below : List Frame} {meth : Method} {c : Code} {dC : Nat → ClassId} {dI : Nat → Nat → Nat} {cI cZ cO cW : ClassId} {A : Nat → Prop} {Q : Int32 → Prop} (hC : Cx p s m args meth c cX9_isAct (some .boolean) 1 GW RX9) (hK : va_K (dC, dI) vwCl (tysA cI cZ cO cW) s) (hA : ∀ q : Nat, s.heap.size ≤ q → A q) :
    ∀ (x0 : Int32) (H : Heap) (locs : List Loc) (ls : Array Slot), wX9_isAct Q x0  → va_P (dC, dI) vwCl ([] : va_W) H → va_D A ([] : va_W) → va_S A s.heap H locs → lv_has ls 1 [(0, .int x0)] → W p l e rmX9_isAct s m args below meth c H locs 0 0 (MQ below (qX9_isAct dC dI cI cZ cO cW Q A) args s 0 0 A) (F0 m 0 ls []) := by
  obtain ⟨hx, hb, hr, hml, hown, hts, hlocks⟩ := id hC
  intro x0 H locs ls hw hP hD hS hl
  refine lv_iload_n hx hb dX9_isAct_0 rfl (lv_at hl 0 rfl) ?_
  refine lv_if_lt (tgt := 9) hx hb dX9_isAct_1 (by decide) (fun c_4 => ?_) (fun c_4 => ?_)
  · have hw := hw.1 c_4
    exact tX9_isAct_9 hC hK hA  x0 _ _ ls hw (hP.sub [] rfl) (hD.sub [] (by decide) rfl) hS (lv_sub hl [0] rfl)
  · have hw := hw.2 c_4
    refine lv_iload_n hx hb dX9_isAct_4 rfl (lv_at hl 0 rfl) ?_
    refine lv_iconst (v := (3 : Int32)) hx hb dX9_isAct_5 (by decide) ?_
    refine lv_icmp_le (tgt := 27) hx hb dX9_isAct_6 (by decide) (fun c_5 => ?_) (fun c_5 => ?_)
    · have hw := hw.1 c_5
      exact tX9_isAct_27 hC hK hA  _ _ ls hw (hP.sub [] rfl) (hD.sub [] (by decide) rfl) hS (lv_sub hl [] rfl)
    · have hw := hw.2 c_5
      exact tX9_isAct_9 hC hK hA  x0 _ _ ls hw (hP.sub [] rfl) (hD.sub [] (by decide) rfl) hS (lv_sub hl [0] rfl)
set_option maxHeartbeats 4000000 in
set_option maxRecDepth 100000 in
theorem kX9_isAct (l : Launch) (dC : Nat → ClassId) (dI : Nat → Nat → Nat) (cI cZ cO cW : ClassId)  (sz : Nat)  (x0 : Int32) (Q : Int32 → Prop) (hw : wX9_isAct Q x0 ) : Met l yX9_isAct zsX9_isAct rmX9_isAct (va_Pc [.int x0] (fun U => U.heap.size = sz ∧ va_P (dC, dI) vwCl ([] : va_W) U.heap ∧ va_K (dC, dI) vwCl (tysA cI cZ cO cW) U ∧ va_D (fun _ => True) ([] : va_W))) (qX9_isAct dC dI cI cZ cO cW Q (va_A ([] : va_W) sz)) 0 0 (va_A ([] : va_W) sz) := by
  refine Met.ofW (cc := cX9_isAct) (maxL := 1) (ret := (some .boolean)) (by decide) rfl ?_
  intro p e s m args below meth c s₁ B hml hv
  obtain ⟨rfl, hsz, hP, hK, hD0⟩ := hv
  subst hsz
  have hC : Cx p s m ([.int x0] : List Value).toArray meth c cX9_isAct (some .boolean) 1 GW RX9 := ⟨B.exec, B.bytes, B.returns, hml, findClass_of_methodNamed B.named, fun w h => atoms_spec (ws := zsX9_isAct) B.pre w (List.mem_cons_of_mem _ h), B.notSynchronized⟩
  have hD := hD0.self (sz := s.heap.size)
  generalize hAe : va_A ([] : va_W) s.heap.size = A at hD ⊢
  have hA : ∀ q : Nat, s.heap.size ≤ q → A q := fun q h => by rw [← hAe]; exact Or.inr h
  have hl := lv_entry ([.int x0]) (n := 1) (Nat.le_of_ble_eq_true rfl)
  rw [lg_entry_eq]
  generalize (lg_sl ([.int x0]) ++ List.replicate (1 - (lg_sl ([.int x0])).length) Slot.unset).toArray = ls at hl ⊢
  exact tX9_isAct_e hC hK hA x0 _ _ ls hw hP hD va_S.rf hl
