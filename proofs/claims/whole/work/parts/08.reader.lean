theorem dX5_addToken_0 : decode cX5_addToken 0 = .ok (.aload_n 0, 1) := by decide +kernel
theorem dX5_addToken_1 : decode cX5_addToken 1 = .ok (.getfield 21, 3) := by decide +kernel
theorem dX5_addToken_4 : decode cX5_addToken 4 = .ok (.sipush 400, 3) := by decide +kernel
theorem dX5_addToken_7 : decode cX5_addToken 7 = .ok (.if_icmp .gt 43, 3) := by decide +kernel
theorem dX5_addToken_10 : decode cX5_addToken 10 = .ok (.aload_n 0, 1) := by decide +kernel
theorem dX5_addToken_11 : decode cX5_addToken 11 = .ok (.getfield 9, 3) := by decide +kernel
theorem dX5_addToken_14 : decode cX5_addToken 14 = .ok (.aload_n 0, 1) := by decide +kernel
theorem dX5_addToken_15 : decode cX5_addToken 15 = .ok (.getfield 21, 3) := by decide +kernel
theorem dX5_addToken_18 : decode cX5_addToken 18 = .ok (.iload_n 1, 1) := by decide +kernel
theorem dX5_addToken_19 : decode cX5_addToken 19 = .ok (.iastore, 1) := by decide +kernel
theorem dX5_addToken_20 : decode cX5_addToken 20 = .ok (.aload_n 0, 1) := by decide +kernel
theorem dX5_addToken_21 : decode cX5_addToken 21 = .ok (.getfield 15, 3) := by decide +kernel
theorem dX5_addToken_24 : decode cX5_addToken 24 = .ok (.aload_n 0, 1) := by decide +kernel
theorem dX5_addToken_25 : decode cX5_addToken 25 = .ok (.getfield 21, 3) := by decide +kernel
theorem dX5_addToken_28 : decode cX5_addToken 28 = .ok (.iload_n 2, 1) := by decide +kernel
theorem dX5_addToken_29 : decode cX5_addToken 29 = .ok (.iastore, 1) := by decide +kernel
theorem dX5_addToken_30 : decode cX5_addToken 30 = .ok (.aload_n 0, 1) := by decide +kernel
theorem dX5_addToken_31 : decode cX5_addToken 31 = .ok (.getfield 18, 3) := by decide +kernel
theorem dX5_addToken_34 : decode cX5_addToken 34 = .ok (.aload_n 0, 1) := by decide +kernel
theorem dX5_addToken_35 : decode cX5_addToken 35 = .ok (.getfield 21, 3) := by decide +kernel
theorem dX5_addToken_38 : decode cX5_addToken 38 = .ok (.iload_n 3, 1) := by decide +kernel
theorem dX5_addToken_39 : decode cX5_addToken 39 = .ok (.iastore, 1) := by decide +kernel
theorem dX5_addToken_40 : decode cX5_addToken 40 = .ok (.aload_n 0, 1) := by decide +kernel
theorem dX5_addToken_41 : decode cX5_addToken 41 = .ok (.dup, 1) := by decide +kernel
theorem dX5_addToken_42 : decode cX5_addToken 42 = .ok (.getfield 21, 3) := by decide +kernel
theorem dX5_addToken_45 : decode cX5_addToken 45 = .ok (.iconst 1, 1) := by decide +kernel
theorem dX5_addToken_46 : decode cX5_addToken 46 = .ok (.iadd, 1) := by decide +kernel
theorem dX5_addToken_47 : decode cX5_addToken 47 = .ok (.putfield 21, 3) := by decide +kernel
theorem dX5_addToken_50 : decode cX5_addToken 50 = .ok (.return_, 1) := by decide +kernel

theorem dX5_isDigit_0 : decode cX5_isDigit 0 = .ok (.iload_n 0, 1) := by decide +kernel
theorem dX5_isDigit_1 : decode cX5_isDigit 1 = .ok (.bipush 48, 2) := by decide +kernel
theorem dX5_isDigit_3 : decode cX5_isDigit 3 = .ok (.if_icmp .lt 13, 3) := by decide +kernel
theorem dX5_isDigit_6 : decode cX5_isDigit 6 = .ok (.iload_n 0, 1) := by decide +kernel
theorem dX5_isDigit_7 : decode cX5_isDigit 7 = .ok (.bipush 57, 2) := by decide +kernel
theorem dX5_isDigit_9 : decode cX5_isDigit 9 = .ok (.if_icmp .gt 7, 3) := by decide +kernel
theorem dX5_isDigit_12 : decode cX5_isDigit 12 = .ok (.iconst 1, 1) := by decide +kernel
theorem dX5_isDigit_13 : decode cX5_isDigit 13 = .ok (.goto 4, 3) := by decide +kernel
theorem dX5_isDigit_16 : decode cX5_isDigit 16 = .ok (.iconst 0, 1) := by decide +kernel
theorem dX5_isDigit_17 : decode cX5_isDigit 17 = .ok (.ireturn, 1) := by decide +kernel

theorem dX5_scanNumber_0 : decode cX5_scanNumber 0 = .ok (.iload_n 2, 1) := by decide +kernel
theorem dX5_scanNumber_1 : decode cX5_scanNumber 1 = .ok (.istore_n 3, 1) := by decide +kernel
theorem dX5_scanNumber_2 : decode cX5_scanNumber 2 = .ok (.iconst 0, 1) := by decide +kernel
theorem dX5_scanNumber_3 : decode cX5_scanNumber 3 = .ok (.istore 4, 2) := by decide +kernel
theorem dX5_scanNumber_5 : decode cX5_scanNumber 5 = .ok (.iload_n 3, 1) := by decide +kernel
theorem dX5_scanNumber_6 : decode cX5_scanNumber 6 = .ok (.aload_n 1, 1) := by decide +kernel
theorem dX5_scanNumber_7 : decode cX5_scanNumber 7 = .ok (.getfield 84, 3) := by decide +kernel
theorem dX5_scanNumber_10 : decode cX5_scanNumber 10 = .ok (.if_icmp .ge 40, 3) := by decide +kernel
theorem dX5_scanNumber_13 : decode cX5_scanNumber 13 = .ok (.aload_n 1, 1) := by decide +kernel
theorem dX5_scanNumber_14 : decode cX5_scanNumber 14 = .ok (.iload_n 3, 1) := by decide +kernel
theorem dX5_scanNumber_15 : decode cX5_scanNumber 15 = .ok (.invokevirtual 89, 3) := by decide +kernel
theorem dX5_scanNumber_18 : decode cX5_scanNumber 18 = .ok (.invokestatic 100, 3) := by decide +kernel
theorem dX5_scanNumber_21 : decode cX5_scanNumber 21 = .ok (.ifCond .eq 29, 3) := by decide +kernel
theorem dX5_scanNumber_24 : decode cX5_scanNumber 24 = .ok (.iload 4, 2) := by decide +kernel
theorem dX5_scanNumber_26 : decode cX5_scanNumber 26 = .ok (.bipush 10, 2) := by decide +kernel
theorem dX5_scanNumber_28 : decode cX5_scanNumber 28 = .ok (.imul, 1) := by decide +kernel
theorem dX5_scanNumber_29 : decode cX5_scanNumber 29 = .ok (.aload_n 1, 1) := by decide +kernel
theorem dX5_scanNumber_30 : decode cX5_scanNumber 30 = .ok (.iload_n 3, 1) := by decide +kernel
theorem dX5_scanNumber_31 : decode cX5_scanNumber 31 = .ok (.invokevirtual 89, 3) := by decide +kernel
theorem dX5_scanNumber_34 : decode cX5_scanNumber 34 = .ok (.iadd, 1) := by decide +kernel
theorem dX5_scanNumber_35 : decode cX5_scanNumber 35 = .ok (.bipush 48, 2) := by decide +kernel
theorem dX5_scanNumber_37 : decode cX5_scanNumber 37 = .ok (.isub, 1) := by decide +kernel
theorem dX5_scanNumber_38 : decode cX5_scanNumber 38 = .ok (.sipush 10000, 3) := by decide +kernel
theorem dX5_scanNumber_41 : decode cX5_scanNumber 41 = .ok (.irem, 1) := by decide +kernel
theorem dX5_scanNumber_42 : decode cX5_scanNumber 42 = .ok (.istore 4, 2) := by decide +kernel
theorem dX5_scanNumber_44 : decode cX5_scanNumber 44 = .ok (.iinc 3 1, 3) := by decide +kernel
theorem dX5_scanNumber_47 : decode cX5_scanNumber 47 = .ok (.goto (-42), 3) := by decide +kernel
theorem dX5_scanNumber_50 : decode cX5_scanNumber 50 = .ok (.aload_n 0, 1) := by decide +kernel
theorem dX5_scanNumber_51 : decode cX5_scanNumber 51 = .ok (.iload_n 3, 1) := by decide +kernel
theorem dX5_scanNumber_52 : decode cX5_scanNumber 52 = .ok (.iload_n 2, 1) := by decide +kernel
theorem dX5_scanNumber_53 : decode cX5_scanNumber 53 = .ok (.isub, 1) := by decide +kernel
theorem dX5_scanNumber_54 : decode cX5_scanNumber 54 = .ok (.iconst 4, 1) := by decide +kernel
theorem dX5_scanNumber_55 : decode cX5_scanNumber 55 = .ok (.if_icmp .le 9, 3) := by decide +kernel
theorem dX5_scanNumber_58 : decode cX5_scanNumber 58 = .ok (.sipush 258, 3) := by decide +kernel
theorem dX5_scanNumber_61 : decode cX5_scanNumber 61 = .ok (.goto 6, 3) := by decide +kernel
theorem dX5_scanNumber_64 : decode cX5_scanNumber 64 = .ok (.sipush 256, 3) := by decide +kernel
theorem dX5_scanNumber_67 : decode cX5_scanNumber 67 = .ok (.iload_n 2, 1) := by decide +kernel
theorem dX5_scanNumber_68 : decode cX5_scanNumber 68 = .ok (.iload 4, 2) := by decide +kernel
theorem dX5_scanNumber_70 : decode cX5_scanNumber 70 = .ok (.invokevirtual 109, 3) := by decide +kernel
theorem dX5_scanNumber_73 : decode cX5_scanNumber 73 = .ok (.iload_n 3, 1) := by decide +kernel
theorem dX5_scanNumber_74 : decode cX5_scanNumber 74 = .ok (.ireturn, 1) := by decide +kernel

theorem dX5_isLetter_0 : decode cX5_isLetter 0 = .ok (.iload_n 0, 1) := by decide +kernel
theorem dX5_isLetter_1 : decode cX5_isLetter 1 = .ok (.bipush 97, 2) := by decide +kernel
theorem dX5_isLetter_3 : decode cX5_isLetter 3 = .ok (.if_icmp .lt 13, 3) := by decide +kernel
theorem dX5_isLetter_6 : decode cX5_isLetter 6 = .ok (.iload_n 0, 1) := by decide +kernel
theorem dX5_isLetter_7 : decode cX5_isLetter 7 = .ok (.bipush 122, 2) := by decide +kernel
theorem dX5_isLetter_9 : decode cX5_isLetter 9 = .ok (.if_icmp .gt 7, 3) := by decide +kernel
theorem dX5_isLetter_12 : decode cX5_isLetter 12 = .ok (.iconst 1, 1) := by decide +kernel
theorem dX5_isLetter_13 : decode cX5_isLetter 13 = .ok (.goto 4, 3) := by decide +kernel
theorem dX5_isLetter_16 : decode cX5_isLetter 16 = .ok (.iconst 0, 1) := by decide +kernel
theorem dX5_isLetter_17 : decode cX5_isLetter 17 = .ok (.ireturn, 1) := by decide +kernel

theorem dX5_isComparison_0 : decode cX5_isComparison 0 = .ok (.iload_n 0, 1) := by decide +kernel
theorem dX5_isComparison_1 : decode cX5_isComparison 1 = .ok (.bipush 61, 2) := by decide +kernel
theorem dX5_isComparison_3 : decode cX5_isComparison 3 = .ok (.if_icmp .eq 15, 3) := by decide +kernel
theorem dX5_isComparison_6 : decode cX5_isComparison 6 = .ok (.iload_n 0, 1) := by decide +kernel
theorem dX5_isComparison_7 : decode cX5_isComparison 7 = .ok (.bipush 60, 2) := by decide +kernel
theorem dX5_isComparison_9 : decode cX5_isComparison 9 = .ok (.if_icmp .eq 9, 3) := by decide +kernel
theorem dX5_isComparison_12 : decode cX5_isComparison 12 = .ok (.iload_n 0, 1) := by decide +kernel
theorem dX5_isComparison_13 : decode cX5_isComparison 13 = .ok (.bipush 62, 2) := by decide +kernel
theorem dX5_isComparison_15 : decode cX5_isComparison 15 = .ok (.if_icmp .ne 7, 3) := by decide +kernel
theorem dX5_isComparison_18 : decode cX5_isComparison 18 = .ok (.iconst 1, 1) := by decide +kernel
theorem dX5_isComparison_19 : decode cX5_isComparison 19 = .ok (.goto 4, 3) := by decide +kernel
theorem dX5_isComparison_22 : decode cX5_isComparison 22 = .ok (.iconst 0, 1) := by decide +kernel
theorem dX5_isComparison_23 : decode cX5_isComparison 23 = .ok (.ireturn, 1) := by decide +kernel

theorem dX5_isSign_0 : decode cX5_isSign 0 = .ok (.iload_n 0, 1) := by decide +kernel
theorem dX5_isSign_1 : decode cX5_isSign 1 = .ok (.bipush 40, 2) := by decide +kernel
theorem dX5_isSign_3 : decode cX5_isSign 3 = .ok (.if_icmp .eq 28, 3) := by decide +kernel
theorem dX5_isSign_6 : decode cX5_isSign 6 = .ok (.iload_n 0, 1) := by decide +kernel
theorem dX5_isSign_7 : decode cX5_isSign 7 = .ok (.bipush 41, 2) := by decide +kernel
theorem dX5_isSign_9 : decode cX5_isSign 9 = .ok (.if_icmp .eq 22, 3) := by decide +kernel
theorem dX5_isSign_12 : decode cX5_isSign 12 = .ok (.iload_n 0, 1) := by decide +kernel
theorem dX5_isSign_13 : decode cX5_isSign 13 = .ok (.bipush 58, 2) := by decide +kernel
theorem dX5_isSign_15 : decode cX5_isSign 15 = .ok (.if_icmp .eq 16, 3) := by decide +kernel
theorem dX5_isSign_18 : decode cX5_isSign 18 = .ok (.iload_n 0, 1) := by decide +kernel
theorem dX5_isSign_19 : decode cX5_isSign 19 = .ok (.bipush 59, 2) := by decide +kernel
theorem dX5_isSign_21 : decode cX5_isSign 21 = .ok (.if_icmp .eq 10, 3) := by decide +kernel
theorem dX5_isSign_24 : decode cX5_isSign 24 = .ok (.iload_n 0, 1) := by decide +kernel
theorem dX5_isSign_25 : decode cX5_isSign 25 = .ok (.invokestatic 119, 3) := by decide +kernel
theorem dX5_isSign_28 : decode cX5_isSign 28 = .ok (.ifCond .eq 7, 3) := by decide +kernel
theorem dX5_isSign_31 : decode cX5_isSign 31 = .ok (.iconst 1, 1) := by decide +kernel
theorem dX5_isSign_32 : decode cX5_isSign 32 = .ok (.goto 4, 3) := by decide +kernel
theorem dX5_isSign_35 : decode cX5_isSign 35 = .ok (.iconst 0, 1) := by decide +kernel
theorem dX5_isSign_36 : decode cX5_isSign 36 = .ok (.ireturn, 1) := by decide +kernel

theorem dX5_token_0 : decode cX5_token 0 = .ok (.aload_n 0, 1) := by decide +kernel
theorem dX5_token_1 : decode cX5_token 1 = .ok (.getfield 25, 3) := by decide +kernel
theorem dX5_token_4 : decode cX5_token 4 = .ok (.aload_n 0, 1) := by decide +kernel
theorem dX5_token_5 : decode cX5_token 5 = .ok (.getfield 21, 3) := by decide +kernel
theorem dX5_token_8 : decode cX5_token 8 = .ok (.if_icmp .ge 15, 3) := by decide +kernel
theorem dX5_token_11 : decode cX5_token 11 = .ok (.aload_n 0, 1) := by decide +kernel
theorem dX5_token_12 : decode cX5_token 12 = .ok (.getfield 9, 3) := by decide +kernel
theorem dX5_token_15 : decode cX5_token 15 = .ok (.aload_n 0, 1) := by decide +kernel
theorem dX5_token_16 : decode cX5_token 16 = .ok (.getfield 25, 3) := by decide +kernel
theorem dX5_token_19 : decode cX5_token 19 = .ok (.iaload, 1) := by decide +kernel
theorem dX5_token_20 : decode cX5_token 20 = .ok (.goto 6, 3) := by decide +kernel
theorem dX5_token_23 : decode cX5_token 23 = .ok (.sipush 257, 3) := by decide +kernel
theorem dX5_token_26 : decode cX5_token 26 = .ok (.ireturn, 1) := by decide +kernel

theorem dX5_placeHere_0 : decode cX5_placeHere 0 = .ok (.aload_n 0, 1) := by decide +kernel
theorem dX5_placeHere_1 : decode cX5_placeHere 1 = .ok (.getfield 25, 3) := by decide +kernel
theorem dX5_placeHere_4 : decode cX5_placeHere 4 = .ok (.aload_n 0, 1) := by decide +kernel
theorem dX5_placeHere_5 : decode cX5_placeHere 5 = .ok (.getfield 21, 3) := by decide +kernel
theorem dX5_placeHere_8 : decode cX5_placeHere 8 = .ok (.if_icmp .ge 15, 3) := by decide +kernel
theorem dX5_placeHere_11 : decode cX5_placeHere 11 = .ok (.aload_n 0, 1) := by decide +kernel
theorem dX5_placeHere_12 : decode cX5_placeHere 12 = .ok (.getfield 15, 3) := by decide +kernel
theorem dX5_placeHere_15 : decode cX5_placeHere 15 = .ok (.aload_n 0, 1) := by decide +kernel
theorem dX5_placeHere_16 : decode cX5_placeHere 16 = .ok (.getfield 25, 3) := by decide +kernel
theorem dX5_placeHere_19 : decode cX5_placeHere 19 = .ok (.iaload, 1) := by decide +kernel
theorem dX5_placeHere_20 : decode cX5_placeHere 20 = .ok (.goto 4, 3) := by decide +kernel
theorem dX5_placeHere_23 : decode cX5_placeHere 23 = .ok (.iconst (-1), 1) := by decide +kernel
theorem dX5_placeHere_24 : decode cX5_placeHere 24 = .ok (.ireturn, 1) := by decide +kernel

theorem dX5_take_0 : decode cX5_take 0 = .ok (.aload_n 0, 1) := by decide +kernel
theorem dX5_take_1 : decode cX5_take 1 = .ok (.getfield 25, 3) := by decide +kernel
theorem dX5_take_4 : decode cX5_take 4 = .ok (.aload_n 0, 1) := by decide +kernel
theorem dX5_take_5 : decode cX5_take 5 = .ok (.getfield 21, 3) := by decide +kernel
theorem dX5_take_8 : decode cX5_take 8 = .ok (.if_icmp .ge 23, 3) := by decide +kernel
theorem dX5_take_11 : decode cX5_take 11 = .ok (.aload_n 0, 1) := by decide +kernel
theorem dX5_take_12 : decode cX5_take 12 = .ok (.getfield 9, 3) := by decide +kernel
theorem dX5_take_15 : decode cX5_take 15 = .ok (.aload_n 0, 1) := by decide +kernel
theorem dX5_take_16 : decode cX5_take 16 = .ok (.getfield 25, 3) := by decide +kernel
theorem dX5_take_19 : decode cX5_take 19 = .ok (.iaload, 1) := by decide +kernel
theorem dX5_take_20 : decode cX5_take 20 = .ok (.iload_n 1, 1) := by decide +kernel
theorem dX5_take_21 : decode cX5_take 21 = .ok (.if_icmp .ne 10, 3) := by decide +kernel
theorem dX5_take_24 : decode cX5_take 24 = .ok (.iload_n 1, 1) := by decide +kernel
theorem dX5_take_25 : decode cX5_take 25 = .ok (.sipush 257, 3) := by decide +kernel
theorem dX5_take_28 : decode cX5_take 28 = .ok (.if_icmp .ne 5, 3) := by decide +kernel
theorem dX5_take_31 : decode cX5_take 31 = .ok (.iconst 0, 1) := by decide +kernel
theorem dX5_take_32 : decode cX5_take 32 = .ok (.ireturn, 1) := by decide +kernel
theorem dX5_take_33 : decode cX5_take 33 = .ok (.aload_n 0, 1) := by decide +kernel
theorem dX5_take_34 : decode cX5_take 34 = .ok (.dup, 1) := by decide +kernel
theorem dX5_take_35 : decode cX5_take 35 = .ok (.getfield 25, 3) := by decide +kernel
theorem dX5_take_38 : decode cX5_take 38 = .ok (.iconst 1, 1) := by decide +kernel
theorem dX5_take_39 : decode cX5_take 39 = .ok (.iadd, 1) := by decide +kernel
theorem dX5_take_40 : decode cX5_take 40 = .ok (.putfield 25, 3) := by decide +kernel
theorem dX5_take_43 : decode cX5_take 43 = .ok (.iconst 1, 1) := by decide +kernel
theorem dX5_take_44 : decode cX5_take 44 = .ok (.ireturn, 1) := by decide +kernel

theorem dX5_takeNumber_0 : decode cX5_takeNumber 0 = .ok (.aload_n 0, 1) := by decide +kernel
theorem dX5_takeNumber_1 : decode cX5_takeNumber 1 = .ok (.getfield 25, 3) := by decide +kernel
theorem dX5_takeNumber_4 : decode cX5_takeNumber 4 = .ok (.aload_n 0, 1) := by decide +kernel
theorem dX5_takeNumber_5 : decode cX5_takeNumber 5 = .ok (.getfield 21, 3) := by decide +kernel
theorem dX5_takeNumber_8 : decode cX5_takeNumber 8 = .ok (.if_icmp .ge 18, 3) := by decide +kernel
theorem dX5_takeNumber_11 : decode cX5_takeNumber 11 = .ok (.aload_n 0, 1) := by decide +kernel
theorem dX5_takeNumber_12 : decode cX5_takeNumber 12 = .ok (.getfield 9, 3) := by decide +kernel
theorem dX5_takeNumber_15 : decode cX5_takeNumber 15 = .ok (.aload_n 0, 1) := by decide +kernel
theorem dX5_takeNumber_16 : decode cX5_takeNumber 16 = .ok (.getfield 25, 3) := by decide +kernel
theorem dX5_takeNumber_19 : decode cX5_takeNumber 19 = .ok (.iaload, 1) := by decide +kernel
theorem dX5_takeNumber_20 : decode cX5_takeNumber 20 = .ok (.sipush 256, 3) := by decide +kernel
theorem dX5_takeNumber_23 : decode cX5_takeNumber 23 = .ok (.if_icmp .eq 5, 3) := by decide +kernel
theorem dX5_takeNumber_26 : decode cX5_takeNumber 26 = .ok (.iconst (-1), 1) := by decide +kernel
theorem dX5_takeNumber_27 : decode cX5_takeNumber 27 = .ok (.ireturn, 1) := by decide +kernel
theorem dX5_takeNumber_28 : decode cX5_takeNumber 28 = .ok (.aload_n 0, 1) := by decide +kernel
theorem dX5_takeNumber_29 : decode cX5_takeNumber 29 = .ok (.dup, 1) := by decide +kernel
theorem dX5_takeNumber_30 : decode cX5_takeNumber 30 = .ok (.getfield 25, 3) := by decide +kernel
theorem dX5_takeNumber_33 : decode cX5_takeNumber 33 = .ok (.iconst 1, 1) := by decide +kernel
theorem dX5_takeNumber_34 : decode cX5_takeNumber 34 = .ok (.iadd, 1) := by decide +kernel
theorem dX5_takeNumber_35 : decode cX5_takeNumber 35 = .ok (.putfield 25, 3) := by decide +kernel
theorem dX5_takeNumber_38 : decode cX5_takeNumber 38 = .ok (.aload_n 0, 1) := by decide +kernel
theorem dX5_takeNumber_39 : decode cX5_takeNumber 39 = .ok (.getfield 18, 3) := by decide +kernel
theorem dX5_takeNumber_42 : decode cX5_takeNumber 42 = .ok (.aload_n 0, 1) := by decide +kernel
theorem dX5_takeNumber_43 : decode cX5_takeNumber 43 = .ok (.getfield 25, 3) := by decide +kernel
theorem dX5_takeNumber_46 : decode cX5_takeNumber 46 = .ok (.iconst 1, 1) := by decide +kernel
theorem dX5_takeNumber_47 : decode cX5_takeNumber 47 = .ok (.isub, 1) := by decide +kernel
theorem dX5_takeNumber_48 : decode cX5_takeNumber 48 = .ok (.iaload, 1) := by decide +kernel
theorem dX5_takeNumber_49 : decode cX5_takeNumber 49 = .ok (.ireturn, 1) := by decide +kernel

theorem dX5_keepLine_0 : decode cX5_keepLine 0 = .ok (.aload_n 0, 1) := by decide +kernel
theorem dX5_keepLine_1 : decode cX5_keepLine 1 = .ok (.getfield 43, 3) := by decide +kernel
theorem dX5_keepLine_4 : decode cX5_keepLine 4 = .ok (.bipush 20, 2) := by decide +kernel
theorem dX5_keepLine_6 : decode cX5_keepLine 6 = .ok (.if_icmp .ge 36, 3) := by decide +kernel
theorem dX5_keepLine_9 : decode cX5_keepLine 9 = .ok (.aload_n 0, 1) := by decide +kernel
theorem dX5_keepLine_10 : decode cX5_keepLine 10 = .ok (.getfield 31, 3) := by decide +kernel
theorem dX5_keepLine_13 : decode cX5_keepLine 13 = .ok (.aload_n 0, 1) := by decide +kernel
theorem dX5_keepLine_14 : decode cX5_keepLine 14 = .ok (.getfield 43, 3) := by decide +kernel
theorem dX5_keepLine_17 : decode cX5_keepLine 17 = .ok (.aload_n 0, 1) := by decide +kernel
theorem dX5_keepLine_18 : decode cX5_keepLine 18 = .ok (.getfield 40, 3) := by decide +kernel
theorem dX5_keepLine_21 : decode cX5_keepLine 21 = .ok (.iastore, 1) := by decide +kernel
theorem dX5_keepLine_22 : decode cX5_keepLine 22 = .ok (.aload_n 0, 1) := by decide +kernel
theorem dX5_keepLine_23 : decode cX5_keepLine 23 = .ok (.getfield 34, 3) := by decide +kernel
theorem dX5_keepLine_26 : decode cX5_keepLine 26 = .ok (.aload_n 0, 1) := by decide +kernel
theorem dX5_keepLine_27 : decode cX5_keepLine 27 = .ok (.getfield 43, 3) := by decide +kernel
theorem dX5_keepLine_30 : decode cX5_keepLine 30 = .ok (.iload_n 1, 1) := by decide +kernel
theorem dX5_keepLine_31 : decode cX5_keepLine 31 = .ok (.iastore, 1) := by decide +kernel
theorem dX5_keepLine_32 : decode cX5_keepLine 32 = .ok (.aload_n 0, 1) := by decide +kernel
theorem dX5_keepLine_33 : decode cX5_keepLine 33 = .ok (.getfield 37, 3) := by decide +kernel
theorem dX5_keepLine_36 : decode cX5_keepLine 36 = .ok (.aload_n 0, 1) := by decide +kernel
theorem dX5_keepLine_37 : decode cX5_keepLine 37 = .ok (.getfield 43, 3) := by decide +kernel
theorem dX5_keepLine_40 : decode cX5_keepLine 40 = .ok (.iload_n 2, 1) := by decide +kernel
theorem dX5_keepLine_41 : decode cX5_keepLine 41 = .ok (.iastore, 1) := by decide +kernel
theorem dX5_keepLine_42 : decode cX5_keepLine 42 = .ok (.aload_n 0, 1) := by decide +kernel
theorem dX5_keepLine_43 : decode cX5_keepLine 43 = .ok (.dup, 1) := by decide +kernel
theorem dX5_keepLine_44 : decode cX5_keepLine 44 = .ok (.getfield 43, 3) := by decide +kernel
theorem dX5_keepLine_47 : decode cX5_keepLine 47 = .ok (.iconst 1, 1) := by decide +kernel
theorem dX5_keepLine_48 : decode cX5_keepLine 48 = .ok (.iadd, 1) := by decide +kernel
theorem dX5_keepLine_49 : decode cX5_keepLine 49 = .ok (.putfield 43, 3) := by decide +kernel
theorem dX5_keepLine_52 : decode cX5_keepLine 52 = .ok (.return_, 1) := by decide +kernel

theorem dX5_addStep_0 : decode cX5_addStep 0 = .ok (.aload_n 0, 1) := by decide +kernel
theorem dX5_addStep_1 : decode cX5_addStep 1 = .ok (.getfield 40, 3) := by decide +kernel
theorem dX5_addStep_4 : decode cX5_addStep 4 = .ok (.sipush 400, 3) := by decide +kernel
theorem dX5_addStep_7 : decode cX5_addStep 7 = .ok (.if_icmp .ge 23, 3) := by decide +kernel
theorem dX5_addStep_10 : decode cX5_addStep 10 = .ok (.aload_n 0, 1) := by decide +kernel
theorem dX5_addStep_11 : decode cX5_addStep 11 = .ok (.getfield 28, 3) := by decide +kernel
theorem dX5_addStep_14 : decode cX5_addStep 14 = .ok (.aload_n 0, 1) := by decide +kernel
theorem dX5_addStep_15 : decode cX5_addStep 15 = .ok (.getfield 40, 3) := by decide +kernel
theorem dX5_addStep_18 : decode cX5_addStep 18 = .ok (.iload_n 1, 1) := by decide +kernel
theorem dX5_addStep_19 : decode cX5_addStep 19 = .ok (.iastore, 1) := by decide +kernel
theorem dX5_addStep_20 : decode cX5_addStep 20 = .ok (.aload_n 0, 1) := by decide +kernel
theorem dX5_addStep_21 : decode cX5_addStep 21 = .ok (.dup, 1) := by decide +kernel
theorem dX5_addStep_22 : decode cX5_addStep 22 = .ok (.getfield 40, 3) := by decide +kernel
theorem dX5_addStep_25 : decode cX5_addStep 25 = .ok (.iconst 1, 1) := by decide +kernel
theorem dX5_addStep_26 : decode cX5_addStep 26 = .ok (.iadd, 1) := by decide +kernel
theorem dX5_addStep_27 : decode cX5_addStep 27 = .ok (.putfield 40, 3) := by decide +kernel
theorem dX5_addStep_30 : decode cX5_addStep 30 = .ok (.return_, 1) := by decide +kernel

theorem dX5_readComparison_0 : decode cX5_readComparison 0 = .ok (.aload_n 0, 1) := by decide +kernel
theorem dX5_readComparison_1 : decode cX5_readComparison 1 = .ok (.invokevirtual 56, 3) := by decide +kernel
theorem dX5_readComparison_4 : decode cX5_readComparison 4 = .ok (.istore_n 1, 1) := by decide +kernel
theorem dX5_readComparison_5 : decode cX5_readComparison 5 = .ok (.iload_n 1, 1) := by decide +kernel
theorem dX5_readComparison_6 : decode cX5_readComparison 6 = .ok (.invokestatic 151, 3) := by decide +kernel
theorem dX5_readComparison_9 : decode cX5_readComparison 9 = .ok (.ifCond .ne 5, 3) := by decide +kernel
theorem dX5_readComparison_12 : decode cX5_readComparison 12 = .ok (.iconst 0, 1) := by decide +kernel
theorem dX5_readComparison_13 : decode cX5_readComparison 13 = .ok (.ireturn, 1) := by decide +kernel
theorem dX5_readComparison_14 : decode cX5_readComparison 14 = .ok (.aload_n 0, 1) := by decide +kernel
theorem dX5_readComparison_15 : decode cX5_readComparison 15 = .ok (.dup, 1) := by decide +kernel
theorem dX5_readComparison_16 : decode cX5_readComparison 16 = .ok (.getfield 25, 3) := by decide +kernel
theorem dX5_readComparison_19 : decode cX5_readComparison 19 = .ok (.iconst 1, 1) := by decide +kernel
theorem dX5_readComparison_20 : decode cX5_readComparison 20 = .ok (.iadd, 1) := by decide +kernel
theorem dX5_readComparison_21 : decode cX5_readComparison 21 = .ok (.putfield 25, 3) := by decide +kernel
theorem dX5_readComparison_24 : decode cX5_readComparison 24 = .ok (.aload_n 0, 1) := by decide +kernel
theorem dX5_readComparison_25 : decode cX5_readComparison 25 = .ok (.invokevirtual 56, 3) := by decide +kernel
theorem dX5_readComparison_28 : decode cX5_readComparison 28 = .ok (.istore_n 2, 1) := by decide +kernel
theorem dX5_readComparison_29 : decode cX5_readComparison 29 = .ok (.iload_n 2, 1) := by decide +kernel
theorem dX5_readComparison_30 : decode cX5_readComparison 30 = .ok (.invokestatic 119, 3) := by decide +kernel
theorem dX5_readComparison_33 : decode cX5_readComparison 33 = .ok (.ifCond .ne 5, 3) := by decide +kernel
theorem dX5_readComparison_36 : decode cX5_readComparison 36 = .ok (.iconst 0, 1) := by decide +kernel
theorem dX5_readComparison_37 : decode cX5_readComparison 37 = .ok (.ireturn, 1) := by decide +kernel
theorem dX5_readComparison_38 : decode cX5_readComparison 38 = .ok (.aload_n 0, 1) := by decide +kernel
theorem dX5_readComparison_39 : decode cX5_readComparison 39 = .ok (.dup, 1) := by decide +kernel
theorem dX5_readComparison_40 : decode cX5_readComparison 40 = .ok (.getfield 25, 3) := by decide +kernel
theorem dX5_readComparison_43 : decode cX5_readComparison 43 = .ok (.iconst 1, 1) := by decide +kernel
theorem dX5_readComparison_44 : decode cX5_readComparison 44 = .ok (.iadd, 1) := by decide +kernel
theorem dX5_readComparison_45 : decode cX5_readComparison 45 = .ok (.putfield 25, 3) := by decide +kernel
theorem dX5_readComparison_48 : decode cX5_readComparison 48 = .ok (.aload_n 0, 1) := by decide +kernel
theorem dX5_readComparison_49 : decode cX5_readComparison 49 = .ok (.invokevirtual 131, 3) := by decide +kernel
theorem dX5_readComparison_52 : decode cX5_readComparison 52 = .ok (.istore_n 3, 1) := by decide +kernel
theorem dX5_readComparison_53 : decode cX5_readComparison 53 = .ok (.iload_n 3, 1) := by decide +kernel
theorem dX5_readComparison_54 : decode cX5_readComparison 54 = .ok (.iconst (-1), 1) := by decide +kernel
theorem dX5_readComparison_55 : decode cX5_readComparison 55 = .ok (.if_icmp .ne 5, 3) := by decide +kernel
theorem dX5_readComparison_58 : decode cX5_readComparison 58 = .ok (.iconst 0, 1) := by decide +kernel
theorem dX5_readComparison_59 : decode cX5_readComparison 59 = .ok (.ireturn, 1) := by decide +kernel
theorem dX5_readComparison_60 : decode cX5_readComparison 60 = .ok (.aload_n 0, 1) := by decide +kernel
theorem dX5_readComparison_61 : decode cX5_readComparison 61 = .ok (.iload_n 1, 1) := by decide +kernel
theorem dX5_readComparison_62 : decode cX5_readComparison 62 = .ok (.iload_n 2, 1) := by decide +kernel
theorem dX5_readComparison_63 : decode cX5_readComparison 63 = .ok (.iload_n 3, 1) := by decide +kernel
theorem dX5_readComparison_64 : decode cX5_readComparison 64 = .ok (.invokestatic 154, 3) := by decide +kernel
theorem dX5_readComparison_67 : decode cX5_readComparison 67 = .ok (.invokevirtual 141, 3) := by decide +kernel
theorem dX5_readComparison_70 : decode cX5_readComparison 70 = .ok (.iconst 1, 1) := by decide +kernel
theorem dX5_readComparison_71 : decode cX5_readComparison 71 = .ok (.ireturn, 1) := by decide +kernel

theorem dX5_readOne_0 : decode cX5_readOne 0 = .ok (.aload_n 0, 1) := by decide +kernel
theorem dX5_readOne_1 : decode cX5_readOne 1 = .ok (.bipush 19, 2) := by decide +kernel
theorem dX5_readOne_3 : decode cX5_readOne 3 = .ok (.invokevirtual 122, 3) := by decide +kernel
theorem dX5_readOne_6 : decode cX5_readOne 6 = .ok (.istore_n 2, 1) := by decide +kernel
theorem dX5_readOne_7 : decode cX5_readOne 7 = .ok (.aload_n 0, 1) := by decide +kernel
theorem dX5_readOne_8 : decode cX5_readOne 8 = .ok (.bipush 40, 2) := by decide +kernel
theorem dX5_readOne_10 : decode cX5_readOne 10 = .ok (.invokevirtual 122, 3) := by decide +kernel
theorem dX5_readOne_13 : decode cX5_readOne 13 = .ok (.ifCond .eq 30, 3) := by decide +kernel
theorem dX5_readOne_16 : decode cX5_readOne 16 = .ok (.aload_n 0, 1) := by decide +kernel
theorem dX5_readOne_17 : decode cX5_readOne 17 = .ok (.iload_n 1, 1) := by decide +kernel
theorem dX5_readOne_18 : decode cX5_readOne 18 = .ok (.iconst 1, 1) := by decide +kernel
theorem dX5_readOne_19 : decode cX5_readOne 19 = .ok (.iadd, 1) := by decide +kernel
theorem dX5_readOne_20 : decode cX5_readOne 20 = .ok (.invokevirtual 125, 3) := by decide +kernel
theorem dX5_readOne_23 : decode cX5_readOne 23 = .ok (.ifCond .eq 16, 3) := by decide +kernel
theorem dX5_readOne_26 : decode cX5_readOne 26 = .ok (.aload_n 0, 1) := by decide +kernel
theorem dX5_readOne_27 : decode cX5_readOne 27 = .ok (.bipush 41, 2) := by decide +kernel
theorem dX5_readOne_29 : decode cX5_readOne 29 = .ok (.invokevirtual 122, 3) := by decide +kernel
theorem dX5_readOne_32 : decode cX5_readOne 32 = .ok (.ifCond .eq 7, 3) := by decide +kernel
theorem dX5_readOne_35 : decode cX5_readOne 35 = .ok (.iconst 1, 1) := by decide +kernel
theorem dX5_readOne_36 : decode cX5_readOne 36 = .ok (.goto 11, 3) := by decide +kernel
theorem dX5_readOne_39 : decode cX5_readOne 39 = .ok (.iconst 0, 1) := by decide +kernel
theorem dX5_readOne_40 : decode cX5_readOne 40 = .ok (.goto 7, 3) := by decide +kernel
theorem dX5_readOne_43 : decode cX5_readOne 43 = .ok (.aload_n 0, 1) := by decide +kernel
theorem dX5_readOne_44 : decode cX5_readOne 44 = .ok (.invokevirtual 148, 3) := by decide +kernel
theorem dX5_readOne_47 : decode cX5_readOne 47 = .ok (.istore_n 3, 1) := by decide +kernel
theorem dX5_readOne_48 : decode cX5_readOne 48 = .ok (.iload_n 3, 1) := by decide +kernel
theorem dX5_readOne_49 : decode cX5_readOne 49 = .ok (.ifCond .eq 12, 3) := by decide +kernel
theorem dX5_readOne_52 : decode cX5_readOne 52 = .ok (.iload_n 2, 1) := by decide +kernel
theorem dX5_readOne_53 : decode cX5_readOne 53 = .ok (.ifCond .eq 8, 3) := by decide +kernel
theorem dX5_readOne_56 : decode cX5_readOne 56 = .ok (.aload_n 0, 1) := by decide +kernel
theorem dX5_readOne_57 : decode cX5_readOne 57 = .ok (.iconst (-1), 1) := by decide +kernel
theorem dX5_readOne_58 : decode cX5_readOne 58 = .ok (.invokevirtual 141, 3) := by decide +kernel
theorem dX5_readOne_61 : decode cX5_readOne 61 = .ok (.iload_n 3, 1) := by decide +kernel
theorem dX5_readOne_62 : decode cX5_readOne 62 = .ok (.ireturn, 1) := by decide +kernel

theorem dX5_readBoth_0 : decode cX5_readBoth 0 = .ok (.aload_n 0, 1) := by decide +kernel
theorem dX5_readBoth_1 : decode cX5_readBoth 1 = .ok (.iload_n 1, 1) := by decide +kernel
theorem dX5_readBoth_2 : decode cX5_readBoth 2 = .ok (.invokevirtual 145, 3) := by decide +kernel
theorem dX5_readBoth_5 : decode cX5_readBoth 5 = .ok (.ifCond .ne 5, 3) := by decide +kernel
theorem dX5_readBoth_8 : decode cX5_readBoth 8 = .ok (.iconst 0, 1) := by decide +kernel
theorem dX5_readBoth_9 : decode cX5_readBoth 9 = .ok (.ireturn, 1) := by decide +kernel
theorem dX5_readBoth_10 : decode cX5_readBoth 10 = .ok (.iconst 0, 1) := by decide +kernel
theorem dX5_readBoth_11 : decode cX5_readBoth 11 = .ok (.istore_n 2, 1) := by decide +kernel
theorem dX5_readBoth_12 : decode cX5_readBoth 12 = .ok (.iload_n 2, 1) := by decide +kernel
theorem dX5_readBoth_13 : decode cX5_readBoth 13 = .ok (.sipush 400, 3) := by decide +kernel
theorem dX5_readBoth_16 : decode cX5_readBoth 16 = .ok (.if_icmp .ge 34, 3) := by decide +kernel
theorem dX5_readBoth_19 : decode cX5_readBoth 19 = .ok (.aload_n 0, 1) := by decide +kernel
theorem dX5_readBoth_20 : decode cX5_readBoth 20 = .ok (.bipush 18, 2) := by decide +kernel
theorem dX5_readBoth_22 : decode cX5_readBoth 22 = .ok (.invokevirtual 122, 3) := by decide +kernel
theorem dX5_readBoth_25 : decode cX5_readBoth 25 = .ok (.ifCond .eq 25, 3) := by decide +kernel
theorem dX5_readBoth_28 : decode cX5_readBoth 28 = .ok (.aload_n 0, 1) := by decide +kernel
theorem dX5_readBoth_29 : decode cX5_readBoth 29 = .ok (.iload_n 1, 1) := by decide +kernel
theorem dX5_readBoth_30 : decode cX5_readBoth 30 = .ok (.invokevirtual 145, 3) := by decide +kernel
theorem dX5_readBoth_33 : decode cX5_readBoth 33 = .ok (.ifCond .ne 5, 3) := by decide +kernel
theorem dX5_readBoth_36 : decode cX5_readBoth 36 = .ok (.iconst 0, 1) := by decide +kernel
theorem dX5_readBoth_37 : decode cX5_readBoth 37 = .ok (.ireturn, 1) := by decide +kernel
theorem dX5_readBoth_38 : decode cX5_readBoth 38 = .ok (.aload_n 0, 1) := by decide +kernel
theorem dX5_readBoth_39 : decode cX5_readBoth 39 = .ok (.bipush (-2), 2) := by decide +kernel
theorem dX5_readBoth_41 : decode cX5_readBoth 41 = .ok (.invokevirtual 141, 3) := by decide +kernel
theorem dX5_readBoth_44 : decode cX5_readBoth 44 = .ok (.iinc 2 1, 3) := by decide +kernel
theorem dX5_readBoth_47 : decode cX5_readBoth 47 = .ok (.goto (-35), 3) := by decide +kernel
theorem dX5_readBoth_50 : decode cX5_readBoth 50 = .ok (.iconst 1, 1) := by decide +kernel
theorem dX5_readBoth_51 : decode cX5_readBoth 51 = .ok (.ireturn, 1) := by decide +kernel

theorem dX5_readTerm_0 : decode cX5_readTerm 0 = .ok (.iload_n 1, 1) := by decide +kernel
theorem dX5_readTerm_1 : decode cX5_readTerm 1 = .ok (.bipush 8, 2) := by decide +kernel
theorem dX5_readTerm_3 : decode cX5_readTerm 3 = .ok (.if_icmp .gt 11, 3) := by decide +kernel
theorem dX5_readTerm_6 : decode cX5_readTerm 6 = .ok (.aload_n 0, 1) := by decide +kernel
theorem dX5_readTerm_7 : decode cX5_readTerm 7 = .ok (.iload_n 1, 1) := by decide +kernel
theorem dX5_readTerm_8 : decode cX5_readTerm 8 = .ok (.invokevirtual 138, 3) := by decide +kernel
theorem dX5_readTerm_11 : decode cX5_readTerm 11 = .ok (.ifCond .ne 5, 3) := by decide +kernel
theorem dX5_readTerm_14 : decode cX5_readTerm 14 = .ok (.iconst 0, 1) := by decide +kernel
theorem dX5_readTerm_15 : decode cX5_readTerm 15 = .ok (.ireturn, 1) := by decide +kernel
theorem dX5_readTerm_16 : decode cX5_readTerm 16 = .ok (.iconst 0, 1) := by decide +kernel
theorem dX5_readTerm_17 : decode cX5_readTerm 17 = .ok (.istore_n 2, 1) := by decide +kernel
theorem dX5_readTerm_18 : decode cX5_readTerm 18 = .ok (.iload_n 2, 1) := by decide +kernel
theorem dX5_readTerm_19 : decode cX5_readTerm 19 = .ok (.sipush 400, 3) := by decide +kernel
theorem dX5_readTerm_22 : decode cX5_readTerm 22 = .ok (.if_icmp .ge 34, 3) := by decide +kernel
theorem dX5_readTerm_25 : decode cX5_readTerm 25 = .ok (.aload_n 0, 1) := by decide +kernel
theorem dX5_readTerm_26 : decode cX5_readTerm 26 = .ok (.bipush 17, 2) := by decide +kernel
theorem dX5_readTerm_28 : decode cX5_readTerm 28 = .ok (.invokevirtual 122, 3) := by decide +kernel
theorem dX5_readTerm_31 : decode cX5_readTerm 31 = .ok (.ifCond .eq 25, 3) := by decide +kernel
theorem dX5_readTerm_34 : decode cX5_readTerm 34 = .ok (.aload_n 0, 1) := by decide +kernel
theorem dX5_readTerm_35 : decode cX5_readTerm 35 = .ok (.iload_n 1, 1) := by decide +kernel
theorem dX5_readTerm_36 : decode cX5_readTerm 36 = .ok (.invokevirtual 138, 3) := by decide +kernel
theorem dX5_readTerm_39 : decode cX5_readTerm 39 = .ok (.ifCond .ne 5, 3) := by decide +kernel
theorem dX5_readTerm_42 : decode cX5_readTerm 42 = .ok (.iconst 0, 1) := by decide +kernel
theorem dX5_readTerm_43 : decode cX5_readTerm 43 = .ok (.ireturn, 1) := by decide +kernel
theorem dX5_readTerm_44 : decode cX5_readTerm 44 = .ok (.aload_n 0, 1) := by decide +kernel
theorem dX5_readTerm_45 : decode cX5_readTerm 45 = .ok (.bipush (-3), 2) := by decide +kernel
theorem dX5_readTerm_47 : decode cX5_readTerm 47 = .ok (.invokevirtual 141, 3) := by decide +kernel
theorem dX5_readTerm_50 : decode cX5_readTerm 50 = .ok (.iinc 2 1, 3) := by decide +kernel
theorem dX5_readTerm_53 : decode cX5_readTerm 53 = .ok (.goto (-35), 3) := by decide +kernel
theorem dX5_readTerm_56 : decode cX5_readTerm 56 = .ok (.iconst 1, 1) := by decide +kernel
theorem dX5_readTerm_57 : decode cX5_readTerm 57 = .ok (.ireturn, 1) := by decide +kernel

theorem dX5_readLine_0 : decode cX5_readLine 0 = .ok (.aload_n 0, 1) := by decide +kernel
theorem dX5_readLine_1 : decode cX5_readLine 1 = .ok (.bipush 16, 2) := by decide +kernel
theorem dX5_readLine_3 : decode cX5_readLine 3 = .ok (.invokevirtual 122, 3) := by decide +kernel
theorem dX5_readLine_6 : decode cX5_readLine 6 = .ok (.ifCond .eq 22, 3) := by decide +kernel
theorem dX5_readLine_9 : decode cX5_readLine 9 = .ok (.aload_n 0, 1) := by decide +kernel
theorem dX5_readLine_10 : decode cX5_readLine 10 = .ok (.iconst 1, 1) := by decide +kernel
theorem dX5_readLine_11 : decode cX5_readLine 11 = .ok (.invokevirtual 125, 3) := by decide +kernel
theorem dX5_readLine_14 : decode cX5_readLine 14 = .ok (.ifCond .eq 12, 3) := by decide +kernel
theorem dX5_readLine_17 : decode cX5_readLine 17 = .ok (.aload_n 0, 1) := by decide +kernel
theorem dX5_readLine_18 : decode cX5_readLine 18 = .ok (.bipush 58, 2) := by decide +kernel
theorem dX5_readLine_20 : decode cX5_readLine 20 = .ok (.invokevirtual 122, 3) := by decide +kernel
theorem dX5_readLine_23 : decode cX5_readLine 23 = .ok (.ifCond .ne 5, 3) := by decide +kernel
theorem dX5_readLine_26 : decode cX5_readLine 26 = .ok (.iconst 0, 1) := by decide +kernel
theorem dX5_readLine_27 : decode cX5_readLine 27 = .ok (.ireturn, 1) := by decide +kernel
theorem dX5_readLine_28 : decode cX5_readLine 28 = .ok (.aload_n 0, 1) := by decide +kernel
theorem dX5_readLine_29 : decode cX5_readLine 29 = .ok (.invokevirtual 56, 3) := by decide +kernel
theorem dX5_readLine_32 : decode cX5_readLine 32 = .ok (.istore_n 1, 1) := by decide +kernel
theorem dX5_readLine_33 : decode cX5_readLine 33 = .ok (.iload_n 1, 1) := by decide +kernel
theorem dX5_readLine_34 : decode cX5_readLine 34 = .ok (.invokestatic 128, 3) := by decide +kernel
theorem dX5_readLine_37 : decode cX5_readLine 37 = .ok (.ifCond .ne 5, 3) := by decide +kernel
theorem dX5_readLine_40 : decode cX5_readLine 40 = .ok (.iconst 0, 1) := by decide +kernel
theorem dX5_readLine_41 : decode cX5_readLine 41 = .ok (.ireturn, 1) := by decide +kernel
theorem dX5_readLine_42 : decode cX5_readLine 42 = .ok (.aload_n 0, 1) := by decide +kernel
theorem dX5_readLine_43 : decode cX5_readLine 43 = .ok (.dup, 1) := by decide +kernel
theorem dX5_readLine_44 : decode cX5_readLine 44 = .ok (.getfield 25, 3) := by decide +kernel
theorem dX5_readLine_47 : decode cX5_readLine 47 = .ok (.iconst 1, 1) := by decide +kernel
theorem dX5_readLine_48 : decode cX5_readLine 48 = .ok (.iadd, 1) := by decide +kernel
theorem dX5_readLine_49 : decode cX5_readLine 49 = .ok (.putfield 25, 3) := by decide +kernel
theorem dX5_readLine_52 : decode cX5_readLine 52 = .ok (.iload_n 1, 1) := by decide +kernel
theorem dX5_readLine_53 : decode cX5_readLine 53 = .ok (.bipush 15, 2) := by decide +kernel
theorem dX5_readLine_55 : decode cX5_readLine 55 = .ok (.if_icmp .ne 10, 3) := by decide +kernel
theorem dX5_readLine_58 : decode cX5_readLine 58 = .ok (.aload_n 0, 1) := by decide +kernel
theorem dX5_readLine_59 : decode cX5_readLine 59 = .ok (.invokevirtual 131, 3) := by decide +kernel
theorem dX5_readLine_62 : decode cX5_readLine 62 = .ok (.goto 4, 3) := by decide +kernel
theorem dX5_readLine_65 : decode cX5_readLine 65 = .ok (.iconst 0, 1) := by decide +kernel
theorem dX5_readLine_66 : decode cX5_readLine 66 = .ok (.istore_n 2, 1) := by decide +kernel
theorem dX5_readLine_67 : decode cX5_readLine 67 = .ok (.iload_n 2, 1) := by decide +kernel
theorem dX5_readLine_68 : decode cX5_readLine 68 = .ok (.iconst (-1), 1) := by decide +kernel
theorem dX5_readLine_69 : decode cX5_readLine 69 = .ok (.if_icmp .eq 12, 3) := by decide +kernel
theorem dX5_readLine_72 : decode cX5_readLine 72 = .ok (.aload_n 0, 1) := by decide +kernel
theorem dX5_readLine_73 : decode cX5_readLine 73 = .ok (.bipush 59, 2) := by decide +kernel
theorem dX5_readLine_75 : decode cX5_readLine 75 = .ok (.invokevirtual 122, 3) := by decide +kernel
theorem dX5_readLine_78 : decode cX5_readLine 78 = .ok (.ifCond .ne 5, 3) := by decide +kernel
theorem dX5_readLine_81 : decode cX5_readLine 81 = .ok (.iconst 0, 1) := by decide +kernel
theorem dX5_readLine_82 : decode cX5_readLine 82 = .ok (.ireturn, 1) := by decide +kernel
theorem dX5_readLine_83 : decode cX5_readLine 83 = .ok (.aload_n 0, 1) := by decide +kernel
theorem dX5_readLine_84 : decode cX5_readLine 84 = .ok (.iload_n 1, 1) := by decide +kernel
theorem dX5_readLine_85 : decode cX5_readLine 85 = .ok (.iload_n 2, 1) := by decide +kernel
theorem dX5_readLine_86 : decode cX5_readLine 86 = .ok (.invokevirtual 134, 3) := by decide +kernel
theorem dX5_readLine_89 : decode cX5_readLine 89 = .ok (.iconst 1, 1) := by decide +kernel
theorem dX5_readLine_90 : decode cX5_readLine 90 = .ok (.ireturn, 1) := by decide +kernel

abbrev vX5_readTerm (cI cZ : ClassId) (h h_tokens h_places h_values h_steps h_ends h_acts h_numbers : Nat) (f_lines : Int32) (f_fault : Int32) (f_place : Int32) (f_size : Int32) (f_at : Int32) (f_stepped : Int32) (r_steps : Nat → Int32) (r_tokens : Nat → Int32) (r_values : Nat → Int32) : va_W := [(h, .inr (5, [.ref h_tokens, .ref h_places, .ref h_values, .int f_size, .int f_at, .ref h_steps, .ref h_ends, .ref h_acts, .ref h_numbers, .int f_stepped, .int f_lines, .int f_fault, .int f_place])), (h_steps, .inl (cI, 400, .inl r_steps)), (h_tokens, .inl (cI, 401, .inl r_tokens)), (h_values, .inl (cI, 401, .inl r_values))]
abbrev rmX5_readTerm_d (d : Nat) : Room := { frames := 3 * d + 2, cells := 0, slots := 0, locals := 67 * d + 45 }
def zsX5_readTerm : List Cond := Cond.code yX5_readTerm cX5_readTerm 3 (some .boolean) :: GW
abbrev qX5_readTerm (dC : Nat → ClassId) (dI : Nat → Nat → Nat) (cI cZ cO cW : ClassId) (h h_tokens h_places h_values h_steps h_ends h_acts h_numbers : Nat) (f_lines : Int32) (f_fault : Int32) (f_place : Int32) (f_size : Int32) (r_tokens : Nat → Int32) (r_values : Nat → Int32) (Q : Int32 → Int32 → Int32 → (Nat → Int32) → Prop) (A : Nat → Prop) : Array Value → State → Outcome → State → Prop := va_Qi (fun (r : Int32) (u : Int32 × Int32 × (Nat → Int32)) => Q r u.1 u.2.1 u.2.2) (fun (u : Int32 × Int32 × (Nat → Int32)) (t : State) => va_P (dC, dI) vwCl (vX5_readTerm cI cZ h h_tokens h_places h_values h_steps h_ends h_acts h_numbers f_lines f_fault f_place f_size u.1 u.2.1 u.2.2 r_tokens r_values) t.heap ∧ va_K (dC, dI) vwCl (tysA cI cZ cO cW) t ∧ va_D A (vX5_readTerm cI cZ h h_tokens h_places h_values h_steps h_ends h_acts h_numbers f_lines f_fault f_place f_size u.1 u.2.1 u.2.2 r_tokens r_values)) A

/-! X5_addToken -/
def wX5_addToken (Q : Int32 → (Nat → Int32) → (Nat → Int32) → (Nat → Int32) → Prop) (x1 : Int32) (x2 : Int32) (x3 : Int32) (f_size : Int32) (r_places : Nat → Int32) (r_tokens : Nat → Int32) (r_values : Nat → Int32) : Prop :=
  (((400 : Int32) < f_size → (Q f_size r_places r_tokens r_values)) ∧ (¬ (400 : Int32) < f_size → (vp_in f_size 401 ∧ (vp_in f_size 401 ∧ (vp_in f_size 401 ∧ (Q (f_size + (1 : Int32)) (upd r_places f_size.toNatClampNeg x2) (upd r_tokens f_size.toNatClampNeg x1) (upd r_values f_size.toNatClampNeg x3)))))))
abbrev vX5_addToken (cI cZ : ClassId) (h h_tokens h_places h_values h_steps h_ends h_acts h_numbers : Nat) (f_at : Int32) (f_stepped : Int32) (f_lines : Int32) (f_fault : Int32) (f_place : Int32) (f_size : Int32) (r_places : Nat → Int32) (r_tokens : Nat → Int32) (r_values : Nat → Int32) : va_W := [(h, .inr (5, [.ref h_tokens, .ref h_places, .ref h_values, .int f_size, .int f_at, .ref h_steps, .ref h_ends, .ref h_acts, .ref h_numbers, .int f_stepped, .int f_lines, .int f_fault, .int f_place])), (h_places, .inl (cI, 401, .inl r_places)), (h_tokens, .inl (cI, 401, .inl r_tokens)), (h_values, .inl (cI, 401, .inl r_values))]
abbrev rmX5_addToken : Room := { frames := 0, cells := 0, slots := 0, locals := 0 }
abbrev qX5_addToken (dC : Nat → ClassId) (dI : Nat → Nat → Nat) (cI cZ cO cW : ClassId) (h h_tokens h_places h_values h_steps h_ends h_acts h_numbers : Nat) (f_at : Int32) (f_stepped : Int32) (f_lines : Int32) (f_fault : Int32) (f_place : Int32) (Q : Int32 → (Nat → Int32) → (Nat → Int32) → (Nat → Int32) → Prop) (A : Nat → Prop) : Array Value → State → Outcome → State → Prop := va_Qv (fun (u : Int32 × (Nat → Int32) × (Nat → Int32) × (Nat → Int32)) => Q u.1 u.2.1 u.2.2.1 u.2.2.2) (fun (u : Int32 × (Nat → Int32) × (Nat → Int32) × (Nat → Int32)) (t : State) => va_P (dC, dI) vwCl (vX5_addToken cI cZ h h_tokens h_places h_values h_steps h_ends h_acts h_numbers f_at f_stepped f_lines f_fault f_place u.1 u.2.1 u.2.2.1 u.2.2.2) t.heap ∧ va_K (dC, dI) vwCl (tysA cI cZ cO cW) t ∧ va_D A (vX5_addToken cI cZ h h_tokens h_places h_values h_steps h_ends h_acts h_numbers f_at f_stepped f_lines f_fault f_place u.1 u.2.1 u.2.2.1 u.2.2.2)) A
def zsX5_addToken : List Cond := Cond.code yX5_addToken cX5_addToken 4 none :: GW
set_option maxHeartbeats 4000000 in
set_option maxRecDepth 100000 in
theorem tX5_addToken_e {p : Program} {l : Launch} {e : Env} {s : State} {m : MethodId} {args : Array Value} {below : List Frame} {meth : Method} {c : Code} {dC : Nat → ClassId} {dI : Nat → Nat → Nat} {cI cZ cO cW : ClassId} {A : Nat → Prop} {h h_tokens h_places h_values h_steps h_ends h_acts h_numbers : Nat} {f_at f_stepped f_lines f_fault f_place : Int32} {Q : Int32 → (Nat → Int32) → (Nat → Int32) → (Nat → Int32) → Prop} (hC : Cx p s m args meth c cX5_addToken none 4 GW RX5) (hK : va_K (dC, dI) vwCl (tysA cI cZ cO cW) s) (hA : ∀ q : Nat, s.heap.size ≤ q → A q) :
    ∀ (x1 : Int32) (x2 : Int32) (x3 : Int32) (f_size : Int32) (r_places : Nat → Int32) (r_tokens : Nat → Int32) (r_values : Nat → Int32) (H : Heap) (locs : List Loc) (ls : Array Slot), wX5_addToken Q x1 x2 x3 f_size r_places r_tokens r_values → va_P (dC, dI) vwCl (vX5_addToken cI cZ h h_tokens h_places h_values h_steps h_ends h_acts h_numbers f_at f_stepped f_lines f_fault f_place f_size r_places r_tokens r_values) H → va_D A (vX5_addToken cI cZ h h_tokens h_places h_values h_steps h_ends h_acts h_numbers f_at f_stepped f_lines f_fault f_place f_size r_places r_tokens r_values) → va_S A s.heap H locs → lv_has ls 4 [(0, .ref h), (1, .int x1), (2, .int x2), (3, .int x3)] → W p l e rmX5_addToken s m args below meth c H locs 0 0 (MQ below (qX5_addToken dC dI cI cZ cO cW h h_tokens h_places h_values h_steps h_ends h_acts h_numbers f_at f_stepped f_lines f_fault f_place Q A) args s 0 0 A) (F0 m 0 ls []) := by
  obtain ⟨hx, hb, hr, hml, hown, hts, hlocks⟩ := id hC
  intro x1 x2 x3 f_size r_places r_tokens r_values H locs ls hw hP hD hS hl
  refine lv_aload_n hx hb dX5_addToken_0 rfl (lv_at hl 0 rfl) ?_
  refine va_get (D := (dC, dI)) (ci := 5) (v := .int f_size) (C := RX5) (T := TX5) (N := 13) hx hb hts gu_X5 hown hK hP 0 rfl rfl 3 (by decide) (hts _ gw_260) (fun _ h9 => h9) rfl dX5_addToken_1 ?_
  refine lv_sipush (v := (400 : Int32)) hx hb dX5_addToken_4 (by decide) ?_
  refine lv_icmp_gt (tgt := 50) hx hb dX5_addToken_7 (by decide) (fun c_1 => ?_) (fun c_1 => ?_)
  · have hw := hw.1 c_1
    have hP9 := hP.sub (ws' := (vX5_addToken cI cZ h h_tokens h_places h_values h_steps h_ends h_acts h_numbers f_at f_stepped f_lines f_fault f_place f_size r_places r_tokens r_values)) [0, 1, 2, 3] rfl
    have hD9 := hD.sub (ws' := (vX5_addToken cI cZ h h_tokens h_places h_values h_steps h_ends h_acts h_numbers f_at f_stepped f_lines f_fault f_place f_size r_places r_tokens r_values)) [0, 1, 2, 3] (by decide) rfl
    exact W.vret hx hb hr (fun t ht hW => ⟨⟨(f_size, r_places, r_tokens, r_values), rfl, hw, by rw [ht]; exact hP9, va_K.moved hW.alike hK, hD9⟩, hS.F ht⟩) hS.2.2 dX5_addToken_50
  · have hw := hw.2 c_1
    refine lv_aload_n hx hb dX5_addToken_10 rfl (lv_at hl 0 rfl) ?_
    refine va_get (D := (dC, dI)) (ci := 5) (v := .ref h_tokens) (C := RX5) (T := TX5) (N := 13) hx hb hts gu_X5 hown hK hP 0 rfl rfl 0 (by decide) (hts _ gw_257) (fun _ h9 => h9) rfl dX5_addToken_11 ?_
    refine lv_aload_n hx hb dX5_addToken_14 rfl (lv_at hl 0 rfl) ?_
    refine va_get (D := (dC, dI)) (ci := 5) (v := .int f_size) (C := RX5) (T := TX5) (N := 13) hx hb hts gu_X5 hown hK hP 0 rfl rfl 3 (by decide) (hts _ gw_260) (fun _ h9 => h9) rfl dX5_addToken_15 ?_
    refine lv_iload_n hx hb dX5_addToken_18 rfl (lv_at hl 1 rfl) ?_
    obtain ⟨h_2, hw⟩ := hw
    refine va_iast hx hb hK hP hD hS 2 0 rfl rfl h_2 dX5_addToken_19 (fun H locs hP hD hS => ?_)
    have hP : va_P (dC, dI) vwCl [(h, .inr (5, [.ref h_tokens, .ref h_places, .ref h_values, .int f_size, .int f_at, .ref h_steps, .ref h_ends, .ref h_acts, .ref h_numbers, .int f_stepped, .int f_lines, .int f_fault, .int f_place])), (h_places, .inl (cI, 401, .inl r_places)), (h_tokens, .inl (cI, 401, .inl (upd r_tokens f_size.toNatClampNeg x1))), (h_values, .inl (cI, 401, .inl r_values))] _ := hP
    have hD : va_D A [(h, .inr (5, [.ref h_tokens, .ref h_places, .ref h_values, .int f_size, .int f_at, .ref h_steps, .ref h_ends, .ref h_acts, .ref h_numbers, .int f_stepped, .int f_lines, .int f_fault, .int f_place])), (h_places, .inl (cI, 401, .inl r_places)), (h_tokens, .inl (cI, 401, .inl (upd r_tokens f_size.toNatClampNeg x1))), (h_values, .inl (cI, 401, .inl r_values))] := hD
    refine lv_aload_n hx hb dX5_addToken_20 rfl (lv_at hl 0 rfl) ?_
    refine va_get (D := (dC, dI)) (ci := 5) (v := .ref h_places) (C := RX5) (T := TX5) (N := 13) hx hb hts gu_X5 hown hK hP 0 rfl rfl 1 (by decide) (hts _ gw_258) (fun _ h9 => h9) rfl dX5_addToken_21 ?_
    refine lv_aload_n hx hb dX5_addToken_24 rfl (lv_at hl 0 rfl) ?_
    refine va_get (D := (dC, dI)) (ci := 5) (v := .int f_size) (C := RX5) (T := TX5) (N := 13) hx hb hts gu_X5 hown hK hP 0 rfl rfl 3 (by decide) (hts _ gw_260) (fun _ h9 => h9) rfl dX5_addToken_25 ?_
    refine lv_iload_n hx hb dX5_addToken_28 rfl (lv_at hl 2 rfl) ?_
    obtain ⟨h_3, hw⟩ := hw
    refine va_iast hx hb hK hP hD hS 1 0 rfl rfl h_3 dX5_addToken_29 (fun H locs hP hD hS => ?_)
    have hP : va_P (dC, dI) vwCl [(h, .inr (5, [.ref h_tokens, .ref h_places, .ref h_values, .int f_size, .int f_at, .ref h_steps, .ref h_ends, .ref h_acts, .ref h_numbers, .int f_stepped, .int f_lines, .int f_fault, .int f_place])), (h_places, .inl (cI, 401, .inl (upd r_places f_size.toNatClampNeg x2))), (h_tokens, .inl (cI, 401, .inl (upd r_tokens f_size.toNatClampNeg x1))), (h_values, .inl (cI, 401, .inl r_values))] _ := hP
    have hD : va_D A [(h, .inr (5, [.ref h_tokens, .ref h_places, .ref h_values, .int f_size, .int f_at, .ref h_steps, .ref h_ends, .ref h_acts, .ref h_numbers, .int f_stepped, .int f_lines, .int f_fault, .int f_place])), (h_places, .inl (cI, 401, .inl (upd r_places f_size.toNatClampNeg x2))), (h_tokens, .inl (cI, 401, .inl (upd r_tokens f_size.toNatClampNeg x1))), (h_values, .inl (cI, 401, .inl r_values))] := hD
    refine lv_aload_n hx hb dX5_addToken_30 rfl (lv_at hl 0 rfl) ?_
    refine va_get (D := (dC, dI)) (ci := 5) (v := .ref h_values) (C := RX5) (T := TX5) (N := 13) hx hb hts gu_X5 hown hK hP 0 rfl rfl 2 (by decide) (hts _ gw_259) (fun _ h9 => h9) rfl dX5_addToken_31 ?_
    refine lv_aload_n hx hb dX5_addToken_34 rfl (lv_at hl 0 rfl) ?_
    refine va_get (D := (dC, dI)) (ci := 5) (v := .int f_size) (C := RX5) (T := TX5) (N := 13) hx hb hts gu_X5 hown hK hP 0 rfl rfl 3 (by decide) (hts _ gw_260) (fun _ h9 => h9) rfl dX5_addToken_35 ?_
    refine lv_iload_n hx hb dX5_addToken_38 rfl (lv_at hl 3 rfl) ?_
    obtain ⟨h_4, hw⟩ := hw
    refine va_iast hx hb hK hP hD hS 3 0 rfl rfl h_4 dX5_addToken_39 (fun H locs hP hD hS => ?_)
    have hP : va_P (dC, dI) vwCl [(h, .inr (5, [.ref h_tokens, .ref h_places, .ref h_values, .int f_size, .int f_at, .ref h_steps, .ref h_ends, .ref h_acts, .ref h_numbers, .int f_stepped, .int f_lines, .int f_fault, .int f_place])), (h_places, .inl (cI, 401, .inl (upd r_places f_size.toNatClampNeg x2))), (h_tokens, .inl (cI, 401, .inl (upd r_tokens f_size.toNatClampNeg x1))), (h_values, .inl (cI, 401, .inl (upd r_values f_size.toNatClampNeg x3)))] _ := hP
    have hD : va_D A [(h, .inr (5, [.ref h_tokens, .ref h_places, .ref h_values, .int f_size, .int f_at, .ref h_steps, .ref h_ends, .ref h_acts, .ref h_numbers, .int f_stepped, .int f_lines, .int f_fault, .int f_place])), (h_places, .inl (cI, 401, .inl (upd r_places f_size.toNatClampNeg x2))), (h_tokens, .inl (cI, 401, .inl (upd r_tokens f_size.toNatClampNeg x1))), (h_values, .inl (cI, 401, .inl (upd r_values f_size.toNatClampNeg x3)))] := hD
    refine lv_aload_n hx hb dX5_addToken_40 rfl (lv_at hl 0 rfl) ?_
    refine lv_dup hx hb dX5_addToken_41 rfl ?_
    refine va_get (D := (dC, dI)) (ci := 5) (v := .int f_size) (C := RX5) (T := TX5) (N := 13) hx hb hts gu_X5 hown hK hP 0 rfl rfl 3 (by decide) (hts _ gw_260) (fun _ h9 => h9) rfl dX5_addToken_42 ?_
    refine lv_iconst (v := (1 : Int32)) hx hb dX5_addToken_45 (by decide) ?_
    refine lv_iadd hx hb dX5_addToken_46 ?_
    refine va_put (D := (dC, dI)) (ci := 5) (v := .int (f_size + (1 : Int32))) (ty := .int) (C := RX5) (T := TX5) (N := 13) hx hb hts gu_X5 tyX5 tyX5_ok nmX5 hown hK hP hD hS 0 rfl rfl 3 (by decide) (hts _ gw_260) (fun _ h9 => h9) rfl (tyX5_ok 3 (by decide)) rfl rfl (Nat.le_of_ble_eq_true rfl) dX5_addToken_47 (fun H locs hP hD hS => ?_)
    have hP : va_P (dC, dI) vwCl [(h, .inr (5, [.ref h_tokens, .ref h_places, .ref h_values, .int (f_size + (1 : Int32)), .int f_at, .ref h_steps, .ref h_ends, .ref h_acts, .ref h_numbers, .int f_stepped, .int f_lines, .int f_fault, .int f_place])), (h_places, .inl (cI, 401, .inl (upd r_places f_size.toNatClampNeg x2))), (h_tokens, .inl (cI, 401, .inl (upd r_tokens f_size.toNatClampNeg x1))), (h_values, .inl (cI, 401, .inl (upd r_values f_size.toNatClampNeg x3)))] _ := hP
    have hD : va_D A [(h, .inr (5, [.ref h_tokens, .ref h_places, .ref h_values, .int (f_size + (1 : Int32)), .int f_at, .ref h_steps, .ref h_ends, .ref h_acts, .ref h_numbers, .int f_stepped, .int f_lines, .int f_fault, .int f_place])), (h_places, .inl (cI, 401, .inl (upd r_places f_size.toNatClampNeg x2))), (h_tokens, .inl (cI, 401, .inl (upd r_tokens f_size.toNatClampNeg x1))), (h_values, .inl (cI, 401, .inl (upd r_values f_size.toNatClampNeg x3)))] := hD
    have hP9 := hP.sub (ws' := (vX5_addToken cI cZ h h_tokens h_places h_values h_steps h_ends h_acts h_numbers f_at f_stepped f_lines f_fault f_place (f_size + (1 : Int32)) (upd r_places f_size.toNatClampNeg x2) (upd r_tokens f_size.toNatClampNeg x1) (upd r_values f_size.toNatClampNeg x3))) [0, 1, 2, 3] rfl
    have hD9 := hD.sub (ws' := (vX5_addToken cI cZ h h_tokens h_places h_values h_steps h_ends h_acts h_numbers f_at f_stepped f_lines f_fault f_place (f_size + (1 : Int32)) (upd r_places f_size.toNatClampNeg x2) (upd r_tokens f_size.toNatClampNeg x1) (upd r_values f_size.toNatClampNeg x3))) [0, 1, 2, 3] (by decide) rfl
    exact W.vret hx hb hr (fun t ht hW => ⟨⟨((f_size + (1 : Int32)), (upd r_places f_size.toNatClampNeg x2), (upd r_tokens f_size.toNatClampNeg x1), (upd r_values f_size.toNatClampNeg x3)), rfl, hw, by rw [ht]; exact hP9, va_K.moved hW.alike hK, hD9⟩, hS.F ht⟩) hS.2.2 dX5_addToken_50
set_option maxHeartbeats 4000000 in
set_option maxRecDepth 100000 in
theorem kX5_addToken (l : Launch) (dC : Nat → ClassId) (dI : Nat → Nat → Nat) (cI cZ cO cW : ClassId) (h h_tokens h_places h_values h_steps h_ends h_acts h_numbers : Nat)  (sz : Nat) (f_at : Int32) (f_stepped : Int32) (f_lines : Int32) (f_fault : Int32) (f_place : Int32) (f_size : Int32) (r_places : Nat → Int32) (r_tokens : Nat → Int32) (r_values : Nat → Int32) (x1 : Int32) (x2 : Int32) (x3 : Int32) (Q : Int32 → (Nat → Int32) → (Nat → Int32) → (Nat → Int32) → Prop) (hw : wX5_addToken Q x1 x2 x3 f_size r_places r_tokens r_values) : Met l yX5_addToken zsX5_addToken rmX5_addToken (va_Pc [.ref h, .int x1, .int x2, .int x3] (fun U => U.heap.size = sz ∧ va_P (dC, dI) vwCl (vX5_addToken cI cZ h h_tokens h_places h_values h_steps h_ends h_acts h_numbers f_at f_stepped f_lines f_fault f_place f_size r_places r_tokens r_values) U.heap ∧ va_K (dC, dI) vwCl (tysA cI cZ cO cW) U ∧ va_D (fun _ => True) (vX5_addToken cI cZ h h_tokens h_places h_values h_steps h_ends h_acts h_numbers f_at f_stepped f_lines f_fault f_place f_size r_places r_tokens r_values))) (qX5_addToken dC dI cI cZ cO cW h h_tokens h_places h_values h_steps h_ends h_acts h_numbers f_at f_stepped f_lines f_fault f_place Q (va_A (vX5_addToken cI cZ h h_tokens h_places h_values h_steps h_ends h_acts h_numbers f_at f_stepped f_lines f_fault f_place f_size r_places r_tokens r_values) sz)) 0 0 (va_A (vX5_addToken cI cZ h h_tokens h_places h_values h_steps h_ends h_acts h_numbers f_at f_stepped f_lines f_fault f_place f_size r_places r_tokens r_values) sz) := by
  refine Met.ofW (cc := cX5_addToken) (maxL := 4) (ret := none) (by decide) rfl ?_
  intro p e s m args below meth c s₁ B hml hv
  obtain ⟨rfl, hsz, hP, hK, hD0⟩ := hv
  subst hsz
  have hC : Cx p s m ([.ref h, .int x1, .int x2, .int x3] : List Value).toArray meth c cX5_addToken none 4 GW RX5 := ⟨B.exec, B.bytes, B.returns, hml, findClass_of_methodNamed B.named, fun w h => atoms_spec (ws := zsX5_addToken) B.pre w (List.mem_cons_of_mem _ h), B.notSynchronized⟩
  have hD := hD0.self (sz := s.heap.size)
  generalize hAe : va_A (vX5_addToken cI cZ h h_tokens h_places h_values h_steps h_ends h_acts h_numbers f_at f_stepped f_lines f_fault f_place f_size r_places r_tokens r_values) s.heap.size = A at hD ⊢
  have hA : ∀ q : Nat, s.heap.size ≤ q → A q := fun q h => by rw [← hAe]; exact Or.inr h
  have hl := lv_entry ([.ref h, .int x1, .int x2, .int x3]) (n := 4) (Nat.le_of_ble_eq_true rfl)
  rw [lg_entry_eq]
  generalize (lg_sl ([.ref h, .int x1, .int x2, .int x3]) ++ List.replicate (4 - (lg_sl ([.ref h, .int x1, .int x2, .int x3])).length) Slot.unset).toArray = ls at hl ⊢
  exact tX5_addToken_e hC hK hA x1 x2 x3 f_size r_places r_tokens r_values _ _ ls hw hP hD va_S.rf hl

/-! X5_isDigit -/
def wX5_isDigit (Q : Int32 → Prop) (x0 : Int32)  : Prop :=
  ((x0 < (48 : Int32) → (Q (0 : Int32))) ∧ (¬ x0 < (48 : Int32) → (((57 : Int32) < x0 → (Q (0 : Int32))) ∧ (¬ (57 : Int32) < x0 → (Q (1 : Int32))))))
abbrev rmX5_isDigit : Room := { frames := 0, cells := 0, slots := 0, locals := 0 }
abbrev qX5_isDigit (dC : Nat → ClassId) (dI : Nat → Nat → Nat) (cI cZ cO cW : ClassId)  (Q : Int32 → Prop) (A : Nat → Prop) : Array Value → State → Outcome → State → Prop := va_Qi (fun (r : Int32) (u : Unit) => Q r) (fun (u : Unit) (t : State) => va_P (dC, dI) vwCl ([] : va_W) t.heap ∧ va_K (dC, dI) vwCl (tysA cI cZ cO cW) t ∧ va_D A ([] : va_W)) A
def zsX5_isDigit : List Cond := Cond.code yX5_isDigit cX5_isDigit 1 (some .boolean) :: GW
set_option maxHeartbeats 4000000 in
set_option maxRecDepth 100000 in
theorem tX5_isDigit_e {p : Program} {l : Launch} {e : Env} {s : State} {m : MethodId} {args : Array Value} {below : List Frame} {meth : Method} {c : Code} {dC : Nat → ClassId} {dI : Nat → Nat → Nat} {cI cZ cO cW : ClassId} {A : Nat → Prop} {Q : Int32 → Prop} (hC : Cx p s m args meth c cX5_isDigit (some .boolean) 1 GW RX5) (hK : va_K (dC, dI) vwCl (tysA cI cZ cO cW) s) (hA : ∀ q : Nat, s.heap.size ≤ q → A q) :
    ∀ (x0 : Int32) (H : Heap) (locs : List Loc) (ls : Array Slot), wX5_isDigit Q x0  → va_P (dC, dI) vwCl ([] : va_W) H → va_D A ([] : va_W) → va_S A s.heap H locs → lv_has ls 1 [(0, .int x0)] → W p l e rmX5_isDigit s m args below meth c H locs 0 0 (MQ below (qX5_isDigit dC dI cI cZ cO cW Q A) args s 0 0 A) (F0 m 0 ls []) := by
  obtain ⟨hx, hb, hr, hml, hown, hts, hlocks⟩ := id hC
  intro x0 H locs ls hw hP hD hS hl
  refine lv_iload_n hx hb dX5_isDigit_0 rfl (lv_at hl 0 rfl) ?_
  refine lv_bipush (v := (48 : Int32)) hx hb dX5_isDigit_1 (by decide) ?_
  refine lv_icmp_lt (tgt := 16) hx hb dX5_isDigit_3 (by decide) (fun c_1 => ?_) (fun c_1 => ?_)
  · have hw := hw.1 c_1
    refine lv_iconst (v := (0 : Int32)) hx hb dX5_isDigit_16 (by decide) ?_
    have hP9 := hP.sub (ws' := ([] : va_W)) [] rfl
    have hD9 := hD.sub (ws' := ([] : va_W)) [] (by decide) rfl
    exact W.zret (v := (0 : Int32)) (ty := .boolean) hx hb hr rfl (fun t ht hW => ⟨⟨(0 : Int32), (), rfl, hw, by rw [ht]; exact hP9, va_K.moved hW.alike hK, hD9⟩, hS.F ht⟩) hS.2.2 dX5_isDigit_17
  · have hw := hw.2 c_1
    refine lv_iload_n hx hb dX5_isDigit_6 rfl (lv_at hl 0 rfl) ?_
    refine lv_bipush (v := (57 : Int32)) hx hb dX5_isDigit_7 (by decide) ?_
    refine lv_icmp_gt (tgt := 16) hx hb dX5_isDigit_9 (by decide) (fun c_2 => ?_) (fun c_2 => ?_)
    · have hw := hw.1 c_2
      refine lv_iconst (v := (0 : Int32)) hx hb dX5_isDigit_16 (by decide) ?_
      have hP9 := hP.sub (ws' := ([] : va_W)) [] rfl
      have hD9 := hD.sub (ws' := ([] : va_W)) [] (by decide) rfl
      exact W.zret (v := (0 : Int32)) (ty := .boolean) hx hb hr rfl (fun t ht hW => ⟨⟨(0 : Int32), (), rfl, hw, by rw [ht]; exact hP9, va_K.moved hW.alike hK, hD9⟩, hS.F ht⟩) hS.2.2 dX5_isDigit_17
    · have hw := hw.2 c_2
      refine lv_iconst (v := (1 : Int32)) hx hb dX5_isDigit_12 (by decide) ?_
      refine lv_goto (tgt := 17) hx hb dX5_isDigit_13 (by decide) ?_
      have hP9 := hP.sub (ws' := ([] : va_W)) [] rfl
      have hD9 := hD.sub (ws' := ([] : va_W)) [] (by decide) rfl
      exact W.zret (v := (1 : Int32)) (ty := .boolean) hx hb hr rfl (fun t ht hW => ⟨⟨(1 : Int32), (), rfl, hw, by rw [ht]; exact hP9, va_K.moved hW.alike hK, hD9⟩, hS.F ht⟩) hS.2.2 dX5_isDigit_17
set_option maxHeartbeats 4000000 in
set_option maxRecDepth 100000 in
theorem kX5_isDigit (l : Launch) (dC : Nat → ClassId) (dI : Nat → Nat → Nat) (cI cZ cO cW : ClassId)  (sz : Nat)  (x0 : Int32) (Q : Int32 → Prop) (hw : wX5_isDigit Q x0 ) : Met l yX5_isDigit zsX5_isDigit rmX5_isDigit (va_Pc [.int x0] (fun U => U.heap.size = sz ∧ va_P (dC, dI) vwCl ([] : va_W) U.heap ∧ va_K (dC, dI) vwCl (tysA cI cZ cO cW) U ∧ va_D (fun _ => True) ([] : va_W))) (qX5_isDigit dC dI cI cZ cO cW Q (va_A ([] : va_W) sz)) 0 0 (va_A ([] : va_W) sz) := by
  refine Met.ofW (cc := cX5_isDigit) (maxL := 1) (ret := (some .boolean)) (by decide) rfl ?_
  intro p e s m args below meth c s₁ B hml hv
  obtain ⟨rfl, hsz, hP, hK, hD0⟩ := hv
  subst hsz
  have hC : Cx p s m ([.int x0] : List Value).toArray meth c cX5_isDigit (some .boolean) 1 GW RX5 := ⟨B.exec, B.bytes, B.returns, hml, findClass_of_methodNamed B.named, fun w h => atoms_spec (ws := zsX5_isDigit) B.pre w (List.mem_cons_of_mem _ h), B.notSynchronized⟩
  have hD := hD0.self (sz := s.heap.size)
  generalize hAe : va_A ([] : va_W) s.heap.size = A at hD ⊢
  have hA : ∀ q : Nat, s.heap.size ≤ q → A q := fun q h => by rw [← hAe]; exact Or.inr h
  have hl := lv_entry ([.int x0]) (n := 1) (Nat.le_of_ble_eq_true rfl)
  rw [lg_entry_eq]
  generalize (lg_sl ([.int x0]) ++ List.replicate (1 - (lg_sl ([.int x0])).length) Slot.unset).toArray = ls at hl ⊢
  exact tX5_isDigit_e hC hK hA x0 _ _ ls hw hP hD va_S.rf hl

/-! X5_scanNumber -/
def wX5_scanNumber_67 (Q : Int32 → Int32 → (Nat → Int32) → (Nat → Int32) → (Nat → Int32) → Prop)   (x2 : Int32) (x3 : Int32) (x4 : Int32) (s1 : Int32) (f_p1_length : Int32) (f_size : Int32) (r_p1_bytes : (Nat → Int32)) (r_places : (Nat → Int32)) (r_tokens : (Nat → Int32)) (r_values : (Nat → Int32)) : Prop :=
  (wX5_addToken (fun f_size_1 r_places_2 r_tokens_3 r_values_4 => (Q x3 f_size_1 r_places_2 r_tokens_3 r_values_4)) s1 x2 x4 f_size r_places r_tokens r_values)
def wX5_scanNumber_50 (Q : Int32 → Int32 → (Nat → Int32) → (Nat → Int32) → (Nat → Int32) → Prop)   (x2 : Int32) (x3 : Int32) (x4 : Int32) (f_p1_length : Int32) (f_size : Int32) (r_p1_bytes : (Nat → Int32)) (r_places : (Nat → Int32)) (r_tokens : (Nat → Int32)) (r_values : (Nat → Int32)) : Prop :=
  (((x3 - x2) ≤ (4 : Int32) → (wX5_scanNumber_67 Q x2 x3 x4 (256 : Int32) f_p1_length f_size r_p1_bytes r_places r_tokens r_values)) ∧ (¬ (x3 - x2) ≤ (4 : Int32) → (wX5_scanNumber_67 Q x2 x3 x4 (258 : Int32) f_p1_length f_size r_p1_bytes r_places r_tokens r_values)))
def wX5_scanNumber_5 (Q : Int32 → Int32 → (Nat → Int32) → (Nat → Int32) → (Nat → Int32) → Prop)   : Nat → Int32 → Int32 → Int32 → Int32 → Int32 → (Nat → Int32) → (Nat → Int32) → (Nat → Int32) → (Nat → Int32) → Prop
  | 0, _, _, _, _, _, _, _, _, _ => False
  | n + 1, x2, x3, x4, f_p1_length, f_size, r_p1_bytes, r_places, r_tokens, r_values => ((f_p1_length ≤ x3 → (wX5_scanNumber_50 Q x2 x3 x4 f_p1_length f_size r_p1_bytes r_places r_tokens r_values)) ∧ (¬ f_p1_length ≤ x3 → (wX6_at (fun r_7 => (wX5_isDigit (fun r_8 => ((r_8 = 0 → (wX5_scanNumber_50 Q x2 x3 x4 f_p1_length f_size r_p1_bytes r_places r_tokens r_values)) ∧ (¬ r_8 = 0 → (wX6_at (fun r_10 => (wX5_scanNumber_5 Q n x2 (x3 + (1 : Int32)) ((((x4 * (10 : Int32)) + r_10) - (48 : Int32)) - (((x4 * (10 : Int32)) + r_10) - (48 : Int32)) / (10000 : Int32) * (10000 : Int32)) f_p1_length f_size r_p1_bytes r_places r_tokens r_values)) x3 f_p1_length r_p1_bytes)))) r_7)) x3 f_p1_length r_p1_bytes)))
def wX5_scanNumber (Q : Int32 → Int32 → (Nat → Int32) → (Nat → Int32) → (Nat → Int32) → Prop) (x2 : Int32) (f_p1_length : Int32) (f_size : Int32) (r_p1_bytes : Nat → Int32) (r_places : Nat → Int32) (r_tokens : Nat → Int32) (r_values : Nat → Int32) : Prop :=
  (∃ j_, wX5_scanNumber_5 Q j_ x2 x2 (0 : Int32) f_p1_length f_size r_p1_bytes r_places r_tokens r_values)
abbrev vX5_scanNumber (cI cZ : ClassId) (h_p1 h_p1_bytes h h_tokens h_places h_values h_steps h_ends h_acts h_numbers : Nat) (f_at : Int32) (f_stepped : Int32) (f_lines : Int32) (f_fault : Int32) (f_place : Int32) (f_p1_length : Int32) (f_size : Int32) (r_p1_bytes : Nat → Int32) (r_places : Nat → Int32) (r_tokens : Nat → Int32) (r_values : Nat → Int32) : va_W := [(h_p1, .inr (6, [.ref h_p1_bytes, .int f_p1_length])), (h, .inr (5, [.ref h_tokens, .ref h_places, .ref h_values, .int f_size, .int f_at, .ref h_steps, .ref h_ends, .ref h_acts, .ref h_numbers, .int f_stepped, .int f_lines, .int f_fault, .int f_place])), (h_p1_bytes, .inl (cI, 400, .inl r_p1_bytes)), (h_places, .inl (cI, 401, .inl r_places)), (h_tokens, .inl (cI, 401, .inl r_tokens)), (h_values, .inl (cI, 401, .inl r_values))]
abbrev rmX5_scanNumber : Room := { frames := 1, cells := 0, slots := 0, locals := 23 }
abbrev qX5_scanNumber (dC : Nat → ClassId) (dI : Nat → Nat → Nat) (cI cZ cO cW : ClassId) (h_p1 h_p1_bytes h h_tokens h_places h_values h_steps h_ends h_acts h_numbers : Nat) (f_at : Int32) (f_stepped : Int32) (f_lines : Int32) (f_fault : Int32) (f_place : Int32) (f_p1_length : Int32) (r_p1_bytes : Nat → Int32) (Q : Int32 → Int32 → (Nat → Int32) → (Nat → Int32) → (Nat → Int32) → Prop) (A : Nat → Prop) : Array Value → State → Outcome → State → Prop := va_Qi (fun (r : Int32) (u : Int32 × (Nat → Int32) × (Nat → Int32) × (Nat → Int32)) => Q r u.1 u.2.1 u.2.2.1 u.2.2.2) (fun (u : Int32 × (Nat → Int32) × (Nat → Int32) × (Nat → Int32)) (t : State) => va_P (dC, dI) vwCl (vX5_scanNumber cI cZ h_p1 h_p1_bytes h h_tokens h_places h_values h_steps h_ends h_acts h_numbers f_at f_stepped f_lines f_fault f_place f_p1_length u.1 r_p1_bytes u.2.1 u.2.2.1 u.2.2.2) t.heap ∧ va_K (dC, dI) vwCl (tysA cI cZ cO cW) t ∧ va_D A (vX5_scanNumber cI cZ h_p1 h_p1_bytes h h_tokens h_places h_values h_steps h_ends h_acts h_numbers f_at f_stepped f_lines f_fault f_place f_p1_length u.1 r_p1_bytes u.2.1 u.2.2.1 u.2.2.2)) A
def zsX5_scanNumber : List Cond := Cond.code yX5_scanNumber cX5_scanNumber 5 (some .int) :: GW
set_option maxHeartbeats 4000000 in
set_option maxRecDepth 100000 in
theorem tX5_scanNumber_67 {p : Program} {l : Launch} {e : Env} {s : State} {m : MethodId} {args : Array Value} {below : List Frame} {meth : Method} {c : Code} {dC : Nat → ClassId} {dI : Nat → Nat → Nat} {cI cZ cO cW : ClassId} {A : Nat → Prop} {h_p1 h_p1_bytes h h_tokens h_places h_values h_steps h_ends h_acts h_numbers : Nat} {f_at f_stepped f_lines f_fault f_place : Int32} {Q : Int32 → Int32 → (Nat → Int32) → (Nat → Int32) → (Nat → Int32) → Prop}  (hC : Cx p s m args meth c cX5_scanNumber (some .int) 5 GW RX5) (hK : va_K (dC, dI) vwCl (tysA cI cZ cO cW) s) (hA : ∀ q : Nat, s.heap.size ≤ q → A q) :
    ∀ (x2 : Int32) (x3 : Int32) (x4 : Int32) (s1 : Int32) (f_p1_length : Int32) (f_size : Int32) (r_p1_bytes : (Nat → Int32)) (r_places : (Nat → Int32)) (r_tokens : (Nat → Int32)) (r_values : (Nat → Int32)) (H : Heap) (locs : List Loc) (ls : Array Slot), wX5_scanNumber_67 Q  x2 x3 x4 s1 f_p1_length f_size r_p1_bytes r_places r_tokens r_values → va_P (dC, dI) vwCl (vX5_scanNumber cI cZ h_p1 h_p1_bytes h h_tokens h_places h_values h_steps h_ends h_acts h_numbers f_at f_stepped f_lines f_fault f_place f_p1_length f_size r_p1_bytes r_places r_tokens r_values) H → va_D A (vX5_scanNumber cI cZ h_p1 h_p1_bytes h h_tokens h_places h_values h_steps h_ends h_acts h_numbers f_at f_stepped f_lines f_fault f_place f_p1_length f_size r_p1_bytes r_places r_tokens r_values) → va_S A s.heap H locs → lv_has ls 5 [(2, .int x2), (3, .int x3), (4, .int x4)] → W p l e rmX5_scanNumber s m args below meth c H locs 0 0 (MQ below (qX5_scanNumber dC dI cI cZ cO cW h_p1 h_p1_bytes h h_tokens h_places h_values h_steps h_ends h_acts h_numbers f_at f_stepped f_lines f_fault f_place f_p1_length r_p1_bytes Q A) args s 0 0 A) (F0 m 67 ls [.int s1, .ref h]) := by
  obtain ⟨hx, hb, hr, hml, hown, hts, hlocks⟩ := id hC
  intro x2 x3 x4 s1 f_p1_length f_size r_p1_bytes r_places r_tokens r_values H locs ls hw hP hD hS hl
  refine lv_iload_n hx hb dX5_scanNumber_67 rfl (lv_at hl 0 rfl) ?_
  refine lv_iload hx hb dX5_scanNumber_68 (lv_at hl 2 rfl) ?_
  have hPc := hP.sub (ws' := [(h, .inr (5, [.ref h_tokens, .ref h_places, .ref h_values, .int f_size, .int f_at, .ref h_steps, .ref h_ends, .ref h_acts, .ref h_numbers, .int f_stepped, .int f_lines, .int f_fault, .int f_place])), (h_places, .inl (cI, 401, .inl r_places)), (h_tokens, .inl (cI, 401, .inl r_tokens)), (h_values, .inl (cI, 401, .inl r_values))]) [1, 3, 4, 5] rfl
  have hDc := hD.sub (ws' := [(h, .inr (5, [.ref h_tokens, .ref h_places, .ref h_values, .int f_size, .int f_at, .ref h_steps, .ref h_ends, .ref h_acts, .ref h_numbers, .int f_stepped, .int f_lines, .int f_fault, .int f_place])), (h_places, .inl (cI, 401, .inl r_places)), (h_tokens, .inl (cI, 401, .inl r_tokens)), (h_values, .inl (cI, 401, .inl r_values))]) [1, 3, 4, 5] (by decide) rfl
  have hFc := va_free (wc := [(h, .inr (5, [.ref h_tokens, .ref h_places, .ref h_values, .int f_size, .int f_at, .ref h_steps, .ref h_ends, .ref h_acts, .ref h_numbers, .int f_stepped, .int f_lines, .int f_fault, .int f_place])), (h_places, .inl (cI, 401, .inl r_places)), (h_tokens, .inl (cI, 401, .inl r_tokens)), (h_values, .inl (cI, 401, .inl r_values))]) hD hS hA [1, 3, 4, 5] rfl
  refine va_callv (va_runV (As := [.int s1, .int x2, .int x4]) (rest := []) ⟨hx, hb, hml, hown, hts⟩ (kX5_addToken l dC dI cI cZ cO cW h h_tokens h_places h_values h_steps h_ends h_acts h_numbers H.size f_at f_stepped f_lines f_fault f_place f_size r_places r_tokens r_values s1 x2 x4 _ hw) (cwV 3 hts (gV gw_332 gw_333 gw_334 gw_329 (gM gw_324)) rfl rfl rfl (by decide +kernel) ⟨Nat.le_of_ble_eq_true rfl, Nat.le_of_ble_eq_true rfl⟩) (pv_of hPc hK hDc (va_recv hK hPc (ci := 5) (q0 := 0) rfl rfl)) rfl rfl hl.1 rfl (lv_room (Nat.le_of_ble_eq_true rfl)) dX5_scanNumber_70 ⟨Nat.zero_le _, Nat.zero_le _⟩) hS (fun q _ h => hFc q h) hFc (fun u t H locs ht hvm hw hB hz1 hk1 hS => ?_)
  obtain ⟨f_size_1, r_places_2, r_tokens_3, r_values_4⟩ := u
  obtain ⟨hP, hD⟩ := af_join (wr := [(h_p1, .inr (6, [.ref h_p1_bytes, .int f_p1_length])), (h_p1_bytes, .inl (cI, 400, .inl r_p1_bytes))]) (w1 := [(h, .inr (5, [.ref h_tokens, .ref h_places, .ref h_values, .int f_size_1, .int f_at, .ref h_steps, .ref h_ends, .ref h_acts, .ref h_numbers, .int f_stepped, .int f_lines, .int f_fault, .int f_place])), (h_places, .inl (cI, 401, .inl r_places_2)), (h_tokens, .inl (cI, 401, .inl r_tokens_3)), (h_values, .inl (cI, 401, .inl r_values_4))]) hB ht hP hD [1, 3, 4, 5] [0, 2] rfl rfl (by decide) (by decide) hk1 hFc
  have hP : va_P (dC, dI) vwCl [(h_p1, .inr (6, [.ref h_p1_bytes, .int f_p1_length])), (h_p1_bytes, .inl (cI, 400, .inl r_p1_bytes)), (h, .inr (5, [.ref h_tokens, .ref h_places, .ref h_values, .int f_size_1, .int f_at, .ref h_steps, .ref h_ends, .ref h_acts, .ref h_numbers, .int f_stepped, .int f_lines, .int f_fault, .int f_place])), (h_places, .inl (cI, 401, .inl r_places_2)), (h_tokens, .inl (cI, 401, .inl r_tokens_3)), (h_values, .inl (cI, 401, .inl r_values_4))] _ := hP
  have hD : va_D A [(h_p1, .inr (6, [.ref h_p1_bytes, .int f_p1_length])), (h_p1_bytes, .inl (cI, 400, .inl r_p1_bytes)), (h, .inr (5, [.ref h_tokens, .ref h_places, .ref h_values, .int f_size_1, .int f_at, .ref h_steps, .ref h_ends, .ref h_acts, .ref h_numbers, .int f_stepped, .int f_lines, .int f_fault, .int f_place])), (h_places, .inl (cI, 401, .inl r_places_2)), (h_tokens, .inl (cI, 401, .inl r_tokens_3)), (h_values, .inl (cI, 401, .inl r_values_4))] := hD
  refine lv_iload_n hx hb dX5_scanNumber_73 rfl (lv_at hl 1 rfl) ?_
  have hP9 := hP.sub (ws' := (vX5_scanNumber cI cZ h_p1 h_p1_bytes h h_tokens h_places h_values h_steps h_ends h_acts h_numbers f_at f_stepped f_lines f_fault f_place f_p1_length f_size_1 r_p1_bytes r_places_2 r_tokens_3 r_values_4)) [0, 2, 1, 3, 4, 5] rfl
  have hD9 := hD.sub (ws' := (vX5_scanNumber cI cZ h_p1 h_p1_bytes h h_tokens h_places h_values h_steps h_ends h_acts h_numbers f_at f_stepped f_lines f_fault f_place f_p1_length f_size_1 r_p1_bytes r_places_2 r_tokens_3 r_values_4)) [0, 2, 1, 3, 4, 5] (by decide) rfl
  exact W.iret (v := x3) hx hb hr (fun t ht hW => ⟨⟨x3, (f_size_1, r_places_2, r_tokens_3, r_values_4), rfl, hw, by rw [ht]; exact hP9, va_K.moved hW.alike hK, hD9⟩, hS.F ht⟩) hS.2.2 dX5_scanNumber_74
set_option maxHeartbeats 4000000 in
set_option maxRecDepth 100000 in
theorem tX5_scanNumber_50 {p : Program} {l : Launch} {e : Env} {s : State} {m : MethodId} {args : Array Value} {below : List Frame} {meth : Method} {c : Code} {dC : Nat → ClassId} {dI : Nat → Nat → Nat} {cI cZ cO cW : ClassId} {A : Nat → Prop} {h_p1 h_p1_bytes h h_tokens h_places h_values h_steps h_ends h_acts h_numbers : Nat} {f_at f_stepped f_lines f_fault f_place : Int32} {Q : Int32 → Int32 → (Nat → Int32) → (Nat → Int32) → (Nat → Int32) → Prop}  (hC : Cx p s m args meth c cX5_scanNumber (some .int) 5 GW RX5) (hK : va_K (dC, dI) vwCl (tysA cI cZ cO cW) s) (hA : ∀ q : Nat, s.heap.size ≤ q → A q) :
    ∀ (x2 : Int32) (x3 : Int32) (x4 : Int32) (f_p1_length : Int32) (f_size : Int32) (r_p1_bytes : (Nat → Int32)) (r_places : (Nat → Int32)) (r_tokens : (Nat → Int32)) (r_values : (Nat → Int32)) (H : Heap) (locs : List Loc) (ls : Array Slot), wX5_scanNumber_50 Q  x2 x3 x4 f_p1_length f_size r_p1_bytes r_places r_tokens r_values → va_P (dC, dI) vwCl (vX5_scanNumber cI cZ h_p1 h_p1_bytes h h_tokens h_places h_values h_steps h_ends h_acts h_numbers f_at f_stepped f_lines f_fault f_place f_p1_length f_size r_p1_bytes r_places r_tokens r_values) H → va_D A (vX5_scanNumber cI cZ h_p1 h_p1_bytes h h_tokens h_places h_values h_steps h_ends h_acts h_numbers f_at f_stepped f_lines f_fault f_place f_p1_length f_size r_p1_bytes r_places r_tokens r_values) → va_S A s.heap H locs → lv_has ls 5 [(0, .ref h), (2, .int x2), (3, .int x3), (4, .int x4)] → W p l e rmX5_scanNumber s m args below meth c H locs 0 0 (MQ below (qX5_scanNumber dC dI cI cZ cO cW h_p1 h_p1_bytes h h_tokens h_places h_values h_steps h_ends h_acts h_numbers f_at f_stepped f_lines f_fault f_place f_p1_length r_p1_bytes Q A) args s 0 0 A) (F0 m 50 ls []) := by
  obtain ⟨hx, hb, hr, hml, hown, hts, hlocks⟩ := id hC
  intro x2 x3 x4 f_p1_length f_size r_p1_bytes r_places r_tokens r_values H locs ls hw hP hD hS hl
  refine lv_aload_n hx hb dX5_scanNumber_50 rfl (lv_at hl 0 rfl) ?_
  refine lv_iload_n hx hb dX5_scanNumber_51 rfl (lv_at hl 2 rfl) ?_
  refine lv_iload_n hx hb dX5_scanNumber_52 rfl (lv_at hl 1 rfl) ?_
  refine lv_isub hx hb dX5_scanNumber_53 ?_
  refine lv_iconst (v := (4 : Int32)) hx hb dX5_scanNumber_54 (by decide) ?_
  refine lv_icmp_le (tgt := 64) hx hb dX5_scanNumber_55 (by decide) (fun c_5 => ?_) (fun c_5 => ?_)
  · have hw := hw.1 c_5
    refine lv_sipush (v := (256 : Int32)) hx hb dX5_scanNumber_64 (by decide) ?_
    exact tX5_scanNumber_67 hC hK hA  x2 x3 x4 (256 : Int32) f_p1_length f_size r_p1_bytes r_places r_tokens r_values _ _ ls hw (hP.sub [0, 1, 2, 3, 4, 5] rfl) (hD.sub [0, 1, 2, 3, 4, 5] (by decide) rfl) hS (lv_sub hl [1, 2, 3] rfl)
  · have hw := hw.2 c_5
    refine lv_sipush (v := (258 : Int32)) hx hb dX5_scanNumber_58 (by decide) ?_
    refine lv_goto (tgt := 67) hx hb dX5_scanNumber_61 (by decide) ?_
    exact tX5_scanNumber_67 hC hK hA  x2 x3 x4 (258 : Int32) f_p1_length f_size r_p1_bytes r_places r_tokens r_values _ _ ls hw (hP.sub [0, 1, 2, 3, 4, 5] rfl) (hD.sub [0, 1, 2, 3, 4, 5] (by decide) rfl) hS (lv_sub hl [1, 2, 3] rfl)
set_option maxHeartbeats 4000000 in
set_option maxRecDepth 100000 in
theorem tX5_scanNumber_5 {p : Program} {l : Launch} {e : Env} {s : State} {m : MethodId} {args : Array Value} {below : List Frame} {meth : Method} {c : Code} {dC : Nat → ClassId} {dI : Nat → Nat → Nat} {cI cZ cO cW : ClassId} {A : Nat → Prop} {h_p1 h_p1_bytes h h_tokens h_places h_values h_steps h_ends h_acts h_numbers : Nat} {f_at f_stepped f_lines f_fault f_place : Int32} {Q : Int32 → Int32 → (Nat → Int32) → (Nat → Int32) → (Nat → Int32) → Prop}  (hC : Cx p s m args meth c cX5_scanNumber (some .int) 5 GW RX5) (hK : va_K (dC, dI) vwCl (tysA cI cZ cO cW) s) (hA : ∀ q : Nat, s.heap.size ≤ q → A q) :
    ∀ (n : Nat) (x2 : Int32) (x3 : Int32) (x4 : Int32) (f_p1_length : Int32) (f_size : Int32) (r_p1_bytes : (Nat → Int32)) (r_places : (Nat → Int32)) (r_tokens : (Nat → Int32)) (r_values : (Nat → Int32)) (H : Heap) (locs : List Loc) (ls : Array Slot), wX5_scanNumber_5 Q  n x2 x3 x4 f_p1_length f_size r_p1_bytes r_places r_tokens r_values → va_P (dC, dI) vwCl (vX5_scanNumber cI cZ h_p1 h_p1_bytes h h_tokens h_places h_values h_steps h_ends h_acts h_numbers f_at f_stepped f_lines f_fault f_place f_p1_length f_size r_p1_bytes r_places r_tokens r_values) H → va_D A (vX5_scanNumber cI cZ h_p1 h_p1_bytes h h_tokens h_places h_values h_steps h_ends h_acts h_numbers f_at f_stepped f_lines f_fault f_place f_p1_length f_size r_p1_bytes r_places r_tokens r_values) → va_S A s.heap H locs → lv_has ls 5 [(0, .ref h), (1, .ref h_p1), (2, .int x2), (3, .int x3), (4, .int x4)] → W p l e rmX5_scanNumber s m args below meth c H locs 0 0 (MQ below (qX5_scanNumber dC dI cI cZ cO cW h_p1 h_p1_bytes h h_tokens h_places h_values h_steps h_ends h_acts h_numbers f_at f_stepped f_lines f_fault f_place f_p1_length r_p1_bytes Q A) args s 0 0 A) (F0 m 5 ls []) := by
  obtain ⟨hx, hb, hr, hml, hown, hts, hlocks⟩ := id hC
  intro n
  induction n with
  | zero =>
    intro  x2 x3 x4 f_p1_length f_size r_p1_bytes r_places r_tokens r_values H locs ls hw
    exact hw.elim
  | succ n ih =>
    intro  x2 x3 x4 f_p1_length f_size r_p1_bytes r_places r_tokens r_values H locs ls hw hP hD hS hl
    refine lv_iload_n hx hb dX5_scanNumber_5 rfl (lv_at hl 3 rfl) ?_
    refine lv_aload_n hx hb dX5_scanNumber_6 rfl (lv_at hl 1 rfl) ?_
    refine va_get (D := (dC, dI)) (ci := 6) (v := .int f_p1_length) (C := RX6) (T := TX6) (N := 2) hx hb hts gu_X6 hown hK hP 0 rfl rfl 1 (by decide) (hts _ gw_325) (fun _ h9 => h9) rfl dX5_scanNumber_7 ?_
    refine lv_icmp_ge (tgt := 50) hx hb dX5_scanNumber_10 (by decide) (fun c_6 => ?_) (fun c_6 => ?_)
    · have hw := hw.1 c_6
      exact tX5_scanNumber_50 hC hK hA  x2 x3 x4 f_p1_length f_size r_p1_bytes r_places r_tokens r_values _ _ ls hw (hP.sub [0, 1, 2, 3, 4, 5] rfl) (hD.sub [0, 1, 2, 3, 4, 5] (by decide) rfl) hS (lv_sub hl [0, 2, 3, 4] rfl)
    · have hw := hw.2 c_6
      refine lv_aload_n hx hb dX5_scanNumber_13 rfl (lv_at hl 1 rfl) ?_
      refine lv_iload_n hx hb dX5_scanNumber_14 rfl (lv_at hl 3 rfl) ?_
      have hPc := hP.sub (ws' := [(h_p1, .inr (6, [.ref h_p1_bytes, .int f_p1_length])), (h_p1_bytes, .inl (cI, 400, .inl r_p1_bytes))]) [0, 2] rfl
      have hDc := hD.sub (ws' := [(h_p1, .inr (6, [.ref h_p1_bytes, .int f_p1_length])), (h_p1_bytes, .inl (cI, 400, .inl r_p1_bytes))]) [0, 2] (by decide) rfl
      have hFc := va_free (wc := [(h_p1, .inr (6, [.ref h_p1_bytes, .int f_p1_length])), (h_p1_bytes, .inl (cI, 400, .inl r_p1_bytes))]) hD hS hA [0, 2] rfl
      refine va_calli (va_runV (As := [.int x3]) (rest := []) ⟨hx, hb, hml, hown, hts⟩ (kX6_at l dC dI cI cZ cO cW h_p1 h_p1_bytes H.size f_p1_length r_p1_bytes x3 _ hw) (cwV 1 hts (gV gw_326 gw_313 gw_314 gw_315 (gM gw_270)) rfl rfl rfl (by decide +kernel) ⟨Nat.le_of_ble_eq_true rfl, Nat.le_of_ble_eq_true rfl⟩) (pv_of hPc hK hDc (va_recv hK hPc (ci := 6) (q0 := 0) rfl rfl)) rfl rfl hl.1 rfl (lv_room (Nat.le_of_ble_eq_true rfl)) dX5_scanNumber_15 ⟨Nat.zero_le _, Nat.zero_le _⟩) hS (fun q _ h => hFc q h) hFc (fun r_7 u t H locs ht hvm hw hB hz1 hk1 hS => ?_)
      obtain ⟨hP, hD⟩ := af_join (wr := [(h, .inr (5, [.ref h_tokens, .ref h_places, .ref h_values, .int f_size, .int f_at, .ref h_steps, .ref h_ends, .ref h_acts, .ref h_numbers, .int f_stepped, .int f_lines, .int f_fault, .int f_place])), (h_places, .inl (cI, 401, .inl r_places)), (h_tokens, .inl (cI, 401, .inl r_tokens)), (h_values, .inl (cI, 401, .inl r_values))]) (w1 := [(h_p1, .inr (6, [.ref h_p1_bytes, .int f_p1_length])), (h_p1_bytes, .inl (cI, 400, .inl r_p1_bytes))]) hB ht hP hD [0, 2] [1, 3, 4, 5] rfl rfl (by decide) (by decide) hk1 hFc
      have hP : va_P (dC, dI) vwCl [(h, .inr (5, [.ref h_tokens, .ref h_places, .ref h_values, .int f_size, .int f_at, .ref h_steps, .ref h_ends, .ref h_acts, .ref h_numbers, .int f_stepped, .int f_lines, .int f_fault, .int f_place])), (h_places, .inl (cI, 401, .inl r_places)), (h_tokens, .inl (cI, 401, .inl r_tokens)), (h_values, .inl (cI, 401, .inl r_values)), (h_p1, .inr (6, [.ref h_p1_bytes, .int f_p1_length])), (h_p1_bytes, .inl (cI, 400, .inl r_p1_bytes))] _ := hP
      have hD : va_D A [(h, .inr (5, [.ref h_tokens, .ref h_places, .ref h_values, .int f_size, .int f_at, .ref h_steps, .ref h_ends, .ref h_acts, .ref h_numbers, .int f_stepped, .int f_lines, .int f_fault, .int f_place])), (h_places, .inl (cI, 401, .inl r_places)), (h_tokens, .inl (cI, 401, .inl r_tokens)), (h_values, .inl (cI, 401, .inl r_values)), (h_p1, .inr (6, [.ref h_p1_bytes, .int f_p1_length])), (h_p1_bytes, .inl (cI, 400, .inl r_p1_bytes))] := hD
      have hPc := hP.sub (ws' := []) [] rfl
      have hDc := hD.sub (ws' := []) [] (by decide) rfl
      have hFc := va_free (wc := []) hD hS hA [] rfl
      refine va_calli (va_runS (As := [.int r_7]) (rest := []) ⟨hx, hb, hml, hown, hts⟩ (kX5_isDigit l dC dI cI cZ cO cW H.size r_7 _ hw) (va_cwS 1 hts (gS gw_338 gw_339 gw_329 (gM gw_336)) rfl rfl rfl (by decide +kernel) ⟨Nat.le_of_ble_eq_true rfl, Nat.le_of_ble_eq_true rfl⟩) (ps_of hPc hK hDc) rfl rfl hl.1 rfl (lv_room (Nat.le_of_ble_eq_true rfl)) dX5_scanNumber_18 ⟨Nat.zero_le _, Nat.zero_le _⟩) hS (fun q _ h => hFc q h) hFc (fun r_8 u t H locs ht hvm hw hB hz1 hk1 hS => ?_)
      obtain ⟨hP, hD⟩ := af_join (wr := [(h, .inr (5, [.ref h_tokens, .ref h_places, .ref h_values, .int f_size, .int f_at, .ref h_steps, .ref h_ends, .ref h_acts, .ref h_numbers, .int f_stepped, .int f_lines, .int f_fault, .int f_place])), (h_places, .inl (cI, 401, .inl r_places)), (h_tokens, .inl (cI, 401, .inl r_tokens)), (h_values, .inl (cI, 401, .inl r_values)), (h_p1, .inr (6, [.ref h_p1_bytes, .int f_p1_length])), (h_p1_bytes, .inl (cI, 400, .inl r_p1_bytes))]) (w1 := []) hB ht hP hD [] [0, 1, 2, 3, 4, 5] rfl rfl (by decide) (by decide) hk1 hFc
      have hP : va_P (dC, dI) vwCl [(h, .inr (5, [.ref h_tokens, .ref h_places, .ref h_values, .int f_size, .int f_at, .ref h_steps, .ref h_ends, .ref h_acts, .ref h_numbers, .int f_stepped, .int f_lines, .int f_fault, .int f_place])), (h_places, .inl (cI, 401, .inl r_places)), (h_tokens, .inl (cI, 401, .inl r_tokens)), (h_values, .inl (cI, 401, .inl r_values)), (h_p1, .inr (6, [.ref h_p1_bytes, .int f_p1_length])), (h_p1_bytes, .inl (cI, 400, .inl r_p1_bytes))] _ := hP
      have hD : va_D A [(h, .inr (5, [.ref h_tokens, .ref h_places, .ref h_values, .int f_size, .int f_at, .ref h_steps, .ref h_ends, .ref h_acts, .ref h_numbers, .int f_stepped, .int f_lines, .int f_fault, .int f_place])), (h_places, .inl (cI, 401, .inl r_places)), (h_tokens, .inl (cI, 401, .inl r_tokens)), (h_values, .inl (cI, 401, .inl r_values)), (h_p1, .inr (6, [.ref h_p1_bytes, .int f_p1_length])), (h_p1_bytes, .inl (cI, 400, .inl r_p1_bytes))] := hD
      refine lv_if_eq (tgt := 50) hx hb dX5_scanNumber_21 (by decide) (fun c_9 => ?_) (fun c_9 => ?_)
      · have hw := hw.1 c_9
        exact tX5_scanNumber_50 hC hK hA  x2 x3 x4 f_p1_length f_size r_p1_bytes r_places r_tokens r_values _ _ ls hw (hP.sub [4, 0, 5, 1, 2, 3] rfl) (hD.sub [4, 0, 5, 1, 2, 3] (by decide) rfl) hS (lv_sub hl [0, 2, 3, 4] rfl)
      · have hw := hw.2 c_9
        refine lv_iload hx hb dX5_scanNumber_24 (lv_at hl 4 rfl) ?_
        refine lv_bipush (v := (10 : Int32)) hx hb dX5_scanNumber_26 (by decide) ?_
        refine lv_imul hx hb dX5_scanNumber_28 ?_
        refine lv_aload_n hx hb dX5_scanNumber_29 rfl (lv_at hl 1 rfl) ?_
        refine lv_iload_n hx hb dX5_scanNumber_30 rfl (lv_at hl 3 rfl) ?_
        have hPc := hP.sub (ws' := [(h_p1, .inr (6, [.ref h_p1_bytes, .int f_p1_length])), (h_p1_bytes, .inl (cI, 400, .inl r_p1_bytes))]) [4, 5] rfl
        have hDc := hD.sub (ws' := [(h_p1, .inr (6, [.ref h_p1_bytes, .int f_p1_length])), (h_p1_bytes, .inl (cI, 400, .inl r_p1_bytes))]) [4, 5] (by decide) rfl
        have hFc := va_free (wc := [(h_p1, .inr (6, [.ref h_p1_bytes, .int f_p1_length])), (h_p1_bytes, .inl (cI, 400, .inl r_p1_bytes))]) hD hS hA [4, 5] rfl
        refine va_calli (va_runV (As := [.int x3]) (rest := [.int (x4 * (10 : Int32))]) ⟨hx, hb, hml, hown, hts⟩ (kX6_at l dC dI cI cZ cO cW h_p1 h_p1_bytes H.size f_p1_length r_p1_bytes x3 _ hw) (cwV 1 hts (gV gw_326 gw_313 gw_314 gw_315 (gM gw_270)) rfl rfl rfl (by decide +kernel) ⟨Nat.le_of_ble_eq_true rfl, Nat.le_of_ble_eq_true rfl⟩) (pv_of hPc hK hDc (va_recv hK hPc (ci := 6) (q0 := 0) rfl rfl)) rfl rfl hl.1 rfl (lv_room (Nat.le_of_ble_eq_true rfl)) dX5_scanNumber_31 ⟨Nat.zero_le _, Nat.zero_le _⟩) hS (fun q _ h => hFc q h) hFc (fun r_10 u t H locs ht hvm hw hB hz1 hk1 hS => ?_)
        obtain ⟨hP, hD⟩ := af_join (wr := [(h, .inr (5, [.ref h_tokens, .ref h_places, .ref h_values, .int f_size, .int f_at, .ref h_steps, .ref h_ends, .ref h_acts, .ref h_numbers, .int f_stepped, .int f_lines, .int f_fault, .int f_place])), (h_places, .inl (cI, 401, .inl r_places)), (h_tokens, .inl (cI, 401, .inl r_tokens)), (h_values, .inl (cI, 401, .inl r_values))]) (w1 := [(h_p1, .inr (6, [.ref h_p1_bytes, .int f_p1_length])), (h_p1_bytes, .inl (cI, 400, .inl r_p1_bytes))]) hB ht hP hD [4, 5] [0, 1, 2, 3] rfl rfl (by decide) (by decide) hk1 hFc
        have hP : va_P (dC, dI) vwCl [(h, .inr (5, [.ref h_tokens, .ref h_places, .ref h_values, .int f_size, .int f_at, .ref h_steps, .ref h_ends, .ref h_acts, .ref h_numbers, .int f_stepped, .int f_lines, .int f_fault, .int f_place])), (h_places, .inl (cI, 401, .inl r_places)), (h_tokens, .inl (cI, 401, .inl r_tokens)), (h_values, .inl (cI, 401, .inl r_values)), (h_p1, .inr (6, [.ref h_p1_bytes, .int f_p1_length])), (h_p1_bytes, .inl (cI, 400, .inl r_p1_bytes))] _ := hP
        have hD : va_D A [(h, .inr (5, [.ref h_tokens, .ref h_places, .ref h_values, .int f_size, .int f_at, .ref h_steps, .ref h_ends, .ref h_acts, .ref h_numbers, .int f_stepped, .int f_lines, .int f_fault, .int f_place])), (h_places, .inl (cI, 401, .inl r_places)), (h_tokens, .inl (cI, 401, .inl r_tokens)), (h_values, .inl (cI, 401, .inl r_values)), (h_p1, .inr (6, [.ref h_p1_bytes, .int f_p1_length])), (h_p1_bytes, .inl (cI, 400, .inl r_p1_bytes))] := hD
        refine lv_iadd hx hb dX5_scanNumber_34 ?_
        refine lv_bipush (v := (48 : Int32)) hx hb dX5_scanNumber_35 (by decide) ?_
        refine lv_isub hx hb dX5_scanNumber_37 ?_
        refine lv_sipush (v := (10000 : Int32)) hx hb dX5_scanNumber_38 (by decide) ?_
        refine lv_irem hx hb dX5_scanNumber_41 (by decide) ?_
        refine lv_istore (lv' := [(4, .int ((((x4 * (10 : Int32)) + r_10) - (48 : Int32)) - (((x4 * (10 : Int32)) + r_10) - (48 : Int32)) / (10000 : Int32) * (10000 : Int32))), (0, .ref h), (1, .ref h_p1), (2, .int x2), (3, .int x3)]) hx hb dX5_scanNumber_42 hl (by decide) rfl (fun ls hl => ?_)
        refine lv_iinc (v := (x3 + (1 : Int32))) (lv' := [(3, .int (x3 + (1 : Int32))), (4, .int ((((x4 * (10 : Int32)) + r_10) - (48 : Int32)) - (((x4 * (10 : Int32)) + r_10) - (48 : Int32)) / (10000 : Int32) * (10000 : Int32))), (0, .ref h), (1, .ref h_p1), (2, .int x2)]) hx hb dX5_scanNumber_44 hl (k := 4) rfl rfl (by decide) rfl (fun ls hl => ?_)
        refine lv_goto (tgt := 5) hx hb dX5_scanNumber_47 (by decide) ?_
        exact ih x2 (x3 + (1 : Int32)) ((((x4 * (10 : Int32)) + r_10) - (48 : Int32)) - (((x4 * (10 : Int32)) + r_10) - (48 : Int32)) / (10000 : Int32) * (10000 : Int32)) f_p1_length f_size r_p1_bytes r_places r_tokens r_values _ _ ls hw (hP.sub [4, 0, 5, 1, 2, 3] rfl) (hD.sub [4, 0, 5, 1, 2, 3] (by decide) rfl) hS (lv_sub hl [2, 3, 4, 0, 1] rfl)
set_option maxHeartbeats 4000000 in
set_option maxRecDepth 100000 in
theorem tX5_scanNumber_e {p : Program} {l : Launch} {e : Env} {s : State} {m : MethodId} {args : Array Value} {below : List Frame} {meth : Method} {c : Code} {dC : Nat → ClassId} {dI : Nat → Nat → Nat} {cI cZ cO cW : ClassId} {A : Nat → Prop} {h_p1 h_p1_bytes h h_tokens h_places h_values h_steps h_ends h_acts h_numbers : Nat} {f_at f_stepped f_lines f_fault f_place : Int32} {Q : Int32 → Int32 → (Nat → Int32) → (Nat → Int32) → (Nat → Int32) → Prop} (hC : Cx p s m args meth c cX5_scanNumber (some .int) 5 GW RX5) (hK : va_K (dC, dI) vwCl (tysA cI cZ cO cW) s) (hA : ∀ q : Nat, s.heap.size ≤ q → A q) :
    ∀ (x2 : Int32) (f_p1_length : Int32) (f_size : Int32) (r_p1_bytes : Nat → Int32) (r_places : Nat → Int32) (r_tokens : Nat → Int32) (r_values : Nat → Int32) (H : Heap) (locs : List Loc) (ls : Array Slot), wX5_scanNumber Q x2 f_p1_length f_size r_p1_bytes r_places r_tokens r_values → va_P (dC, dI) vwCl (vX5_scanNumber cI cZ h_p1 h_p1_bytes h h_tokens h_places h_values h_steps h_ends h_acts h_numbers f_at f_stepped f_lines f_fault f_place f_p1_length f_size r_p1_bytes r_places r_tokens r_values) H → va_D A (vX5_scanNumber cI cZ h_p1 h_p1_bytes h h_tokens h_places h_values h_steps h_ends h_acts h_numbers f_at f_stepped f_lines f_fault f_place f_p1_length f_size r_p1_bytes r_places r_tokens r_values) → va_S A s.heap H locs → lv_has ls 5 [(0, .ref h), (1, .ref h_p1), (2, .int x2)] → W p l e rmX5_scanNumber s m args below meth c H locs 0 0 (MQ below (qX5_scanNumber dC dI cI cZ cO cW h_p1 h_p1_bytes h h_tokens h_places h_values h_steps h_ends h_acts h_numbers f_at f_stepped f_lines f_fault f_place f_p1_length r_p1_bytes Q A) args s 0 0 A) (F0 m 0 ls []) := by
  obtain ⟨hx, hb, hr, hml, hown, hts, hlocks⟩ := id hC
  intro x2 f_p1_length f_size r_p1_bytes r_places r_tokens r_values H locs ls hw hP hD hS hl
  refine lv_iload_n hx hb dX5_scanNumber_0 rfl (lv_at hl 2 rfl) ?_
  refine lv_istore_n (lv' := [(3, .int x2), (0, .ref h), (1, .ref h_p1), (2, .int x2)]) hx hb dX5_scanNumber_1 rfl hl (by decide) rfl (fun ls hl => ?_)
  refine lv_iconst (v := (0 : Int32)) hx hb dX5_scanNumber_2 (by decide) ?_
  refine lv_istore (lv' := [(4, .int (0 : Int32)), (3, .int x2), (0, .ref h), (1, .ref h_p1), (2, .int x2)]) hx hb dX5_scanNumber_3 hl (by decide) rfl (fun ls hl => ?_)
  obtain ⟨n_11, hw⟩ := hw
  exact tX5_scanNumber_5 hC hK hA  n_11 x2 x2 (0 : Int32) f_p1_length f_size r_p1_bytes r_places r_tokens r_values _ _ ls hw (hP.sub [0, 1, 2, 3, 4, 5] rfl) (hD.sub [0, 1, 2, 3, 4, 5] (by decide) rfl) hS (lv_sub hl [2, 3, 4, 1, 0] rfl)
set_option maxHeartbeats 4000000 in
set_option maxRecDepth 100000 in
theorem kX5_scanNumber (l : Launch) (dC : Nat → ClassId) (dI : Nat → Nat → Nat) (cI cZ cO cW : ClassId) (h_p1 h_p1_bytes h h_tokens h_places h_values h_steps h_ends h_acts h_numbers : Nat)  (sz : Nat) (f_at : Int32) (f_stepped : Int32) (f_lines : Int32) (f_fault : Int32) (f_place : Int32) (f_p1_length : Int32) (f_size : Int32) (r_p1_bytes : Nat → Int32) (r_places : Nat → Int32) (r_tokens : Nat → Int32) (r_values : Nat → Int32) (x2 : Int32) (Q : Int32 → Int32 → (Nat → Int32) → (Nat → Int32) → (Nat → Int32) → Prop) (hw : wX5_scanNumber Q x2 f_p1_length f_size r_p1_bytes r_places r_tokens r_values) : Met l yX5_scanNumber zsX5_scanNumber rmX5_scanNumber (va_Pc [.ref h, .ref h_p1, .int x2] (fun U => U.heap.size = sz ∧ va_P (dC, dI) vwCl (vX5_scanNumber cI cZ h_p1 h_p1_bytes h h_tokens h_places h_values h_steps h_ends h_acts h_numbers f_at f_stepped f_lines f_fault f_place f_p1_length f_size r_p1_bytes r_places r_tokens r_values) U.heap ∧ va_K (dC, dI) vwCl (tysA cI cZ cO cW) U ∧ va_D (fun _ => True) (vX5_scanNumber cI cZ h_p1 h_p1_bytes h h_tokens h_places h_values h_steps h_ends h_acts h_numbers f_at f_stepped f_lines f_fault f_place f_p1_length f_size r_p1_bytes r_places r_tokens r_values))) (qX5_scanNumber dC dI cI cZ cO cW h_p1 h_p1_bytes h h_tokens h_places h_values h_steps h_ends h_acts h_numbers f_at f_stepped f_lines f_fault f_place f_p1_length r_p1_bytes Q (va_A (vX5_scanNumber cI cZ h_p1 h_p1_bytes h h_tokens h_places h_values h_steps h_ends h_acts h_numbers f_at f_stepped f_lines f_fault f_place f_p1_length f_size r_p1_bytes r_places r_tokens r_values) sz)) 0 0 (va_A (vX5_scanNumber cI cZ h_p1 h_p1_bytes h h_tokens h_places h_values h_steps h_ends h_acts h_numbers f_at f_stepped f_lines f_fault f_place f_p1_length f_size r_p1_bytes r_places r_tokens r_values) sz) := by
  refine Met.ofW (cc := cX5_scanNumber) (maxL := 5) (ret := (some .int)) (by decide) rfl ?_
  intro p e s m args below meth c s₁ B hml hv
  obtain ⟨rfl, hsz, hP, hK, hD0⟩ := hv
  subst hsz
  have hC : Cx p s m ([.ref h, .ref h_p1, .int x2] : List Value).toArray meth c cX5_scanNumber (some .int) 5 GW RX5 := ⟨B.exec, B.bytes, B.returns, hml, findClass_of_methodNamed B.named, fun w h => atoms_spec (ws := zsX5_scanNumber) B.pre w (List.mem_cons_of_mem _ h), B.notSynchronized⟩
  have hD := hD0.self (sz := s.heap.size)
  generalize hAe : va_A (vX5_scanNumber cI cZ h_p1 h_p1_bytes h h_tokens h_places h_values h_steps h_ends h_acts h_numbers f_at f_stepped f_lines f_fault f_place f_p1_length f_size r_p1_bytes r_places r_tokens r_values) s.heap.size = A at hD ⊢
  have hA : ∀ q : Nat, s.heap.size ≤ q → A q := fun q h => by rw [← hAe]; exact Or.inr h
  have hl := lv_entry ([.ref h, .ref h_p1, .int x2]) (n := 5) (Nat.le_of_ble_eq_true rfl)
  rw [lg_entry_eq]
  generalize (lg_sl ([.ref h, .ref h_p1, .int x2]) ++ List.replicate (5 - (lg_sl ([.ref h, .ref h_p1, .int x2])).length) Slot.unset).toArray = ls at hl ⊢
  exact tX5_scanNumber_e hC hK hA x2 f_p1_length f_size r_p1_bytes r_places r_tokens r_values _ _ ls hw hP hD va_S.rf hl

/-! X5_isLetter -/
def wX5_isLetter (Q : Int32 → Prop) (x0 : Int32)  : Prop :=
  ((x0 < (97 : Int32) → (Q (0 : Int32))) ∧ (¬ x0 < (97 : Int32) → (((122 : Int32) < x0 → (Q (0 : Int32))) ∧ (¬ (122 : Int32) < x0 → (Q (1 : Int32))))))
abbrev rmX5_isLetter : Room := { frames := 0, cells := 0, slots := 0, locals := 0 }
abbrev qX5_isLetter (dC : Nat → ClassId) (dI : Nat → Nat → Nat) (cI cZ cO cW : ClassId)  (Q : Int32 → Prop) (A : Nat → Prop) : Array Value → State → Outcome → State → Prop := va_Qi (fun (r : Int32) (u : Unit) => Q r) (fun (u : Unit) (t : State) => va_P (dC, dI) vwCl ([] : va_W) t.heap ∧ va_K (dC, dI) vwCl (tysA cI cZ cO cW) t ∧ va_D A ([] : va_W)) A
def zsX5_isLetter : List Cond := Cond.code yX5_isLetter cX5_isLetter 1 (some .boolean) :: GW
set_option maxHeartbeats 4000000 in
set_option maxRecDepth 100000 in
theorem tX5_isLetter_e {p : Program} {l : Launch} {e : Env} {s : State} {m : MethodId} {args : Array Value} {below : List Frame} {meth : Method} {c : Code} {dC : Nat → ClassId} {dI : Nat → Nat → Nat} {cI cZ cO cW : ClassId} {A : Nat → Prop} {Q : Int32 → Prop} (hC : Cx p s m args meth c cX5_isLetter (some .boolean) 1 GW RX5) (hK : va_K (dC, dI) vwCl (tysA cI cZ cO cW) s) (hA : ∀ q : Nat, s.heap.size ≤ q → A q) :
    ∀ (x0 : Int32) (H : Heap) (locs : List Loc) (ls : Array Slot), wX5_isLetter Q x0  → va_P (dC, dI) vwCl ([] : va_W) H → va_D A ([] : va_W) → va_S A s.heap H locs → lv_has ls 1 [(0, .int x0)] → W p l e rmX5_isLetter s m args below meth c H locs 0 0 (MQ below (qX5_isLetter dC dI cI cZ cO cW Q A) args s 0 0 A) (F0 m 0 ls []) := by
  obtain ⟨hx, hb, hr, hml, hown, hts, hlocks⟩ := id hC
  intro x0 H locs ls hw hP hD hS hl
  refine lv_iload_n hx hb dX5_isLetter_0 rfl (lv_at hl 0 rfl) ?_
  refine lv_bipush (v := (97 : Int32)) hx hb dX5_isLetter_1 (by decide) ?_
  refine lv_icmp_lt (tgt := 16) hx hb dX5_isLetter_3 (by decide) (fun c_1 => ?_) (fun c_1 => ?_)
  · have hw := hw.1 c_1
    refine lv_iconst (v := (0 : Int32)) hx hb dX5_isLetter_16 (by decide) ?_
    have hP9 := hP.sub (ws' := ([] : va_W)) [] rfl
    have hD9 := hD.sub (ws' := ([] : va_W)) [] (by decide) rfl
    exact W.zret (v := (0 : Int32)) (ty := .boolean) hx hb hr rfl (fun t ht hW => ⟨⟨(0 : Int32), (), rfl, hw, by rw [ht]; exact hP9, va_K.moved hW.alike hK, hD9⟩, hS.F ht⟩) hS.2.2 dX5_isLetter_17
  · have hw := hw.2 c_1
    refine lv_iload_n hx hb dX5_isLetter_6 rfl (lv_at hl 0 rfl) ?_
    refine lv_bipush (v := (122 : Int32)) hx hb dX5_isLetter_7 (by decide) ?_
    refine lv_icmp_gt (tgt := 16) hx hb dX5_isLetter_9 (by decide) (fun c_2 => ?_) (fun c_2 => ?_)
    · have hw := hw.1 c_2
      refine lv_iconst (v := (0 : Int32)) hx hb dX5_isLetter_16 (by decide) ?_
      have hP9 := hP.sub (ws' := ([] : va_W)) [] rfl
      have hD9 := hD.sub (ws' := ([] : va_W)) [] (by decide) rfl
      exact W.zret (v := (0 : Int32)) (ty := .boolean) hx hb hr rfl (fun t ht hW => ⟨⟨(0 : Int32), (), rfl, hw, by rw [ht]; exact hP9, va_K.moved hW.alike hK, hD9⟩, hS.F ht⟩) hS.2.2 dX5_isLetter_17
    · have hw := hw.2 c_2
      refine lv_iconst (v := (1 : Int32)) hx hb dX5_isLetter_12 (by decide) ?_
      refine lv_goto (tgt := 17) hx hb dX5_isLetter_13 (by decide) ?_
      have hP9 := hP.sub (ws' := ([] : va_W)) [] rfl
      have hD9 := hD.sub (ws' := ([] : va_W)) [] (by decide) rfl
      exact W.zret (v := (1 : Int32)) (ty := .boolean) hx hb hr rfl (fun t ht hW => ⟨⟨(1 : Int32), (), rfl, hw, by rw [ht]; exact hP9, va_K.moved hW.alike hK, hD9⟩, hS.F ht⟩) hS.2.2 dX5_isLetter_17
set_option maxHeartbeats 4000000 in
set_option maxRecDepth 100000 in
theorem kX5_isLetter (l : Launch) (dC : Nat → ClassId) (dI : Nat → Nat → Nat) (cI cZ cO cW : ClassId)  (sz : Nat)  (x0 : Int32) (Q : Int32 → Prop) (hw : wX5_isLetter Q x0 ) : Met l yX5_isLetter zsX5_isLetter rmX5_isLetter (va_Pc [.int x0] (fun U => U.heap.size = sz ∧ va_P (dC, dI) vwCl ([] : va_W) U.heap ∧ va_K (dC, dI) vwCl (tysA cI cZ cO cW) U ∧ va_D (fun _ => True) ([] : va_W))) (qX5_isLetter dC dI cI cZ cO cW Q (va_A ([] : va_W) sz)) 0 0 (va_A ([] : va_W) sz) := by
  refine Met.ofW (cc := cX5_isLetter) (maxL := 1) (ret := (some .boolean)) (by decide) rfl ?_
  intro p e s m args below meth c s₁ B hml hv
  obtain ⟨rfl, hsz, hP, hK, hD0⟩ := hv
  subst hsz
  have hC : Cx p s m ([.int x0] : List Value).toArray meth c cX5_isLetter (some .boolean) 1 GW RX5 := ⟨B.exec, B.bytes, B.returns, hml, findClass_of_methodNamed B.named, fun w h => atoms_spec (ws := zsX5_isLetter) B.pre w (List.mem_cons_of_mem _ h), B.notSynchronized⟩
  have hD := hD0.self (sz := s.heap.size)
  generalize hAe : va_A ([] : va_W) s.heap.size = A at hD ⊢
  have hA : ∀ q : Nat, s.heap.size ≤ q → A q := fun q h => by rw [← hAe]; exact Or.inr h
  have hl := lv_entry ([.int x0]) (n := 1) (Nat.le_of_ble_eq_true rfl)
  rw [lg_entry_eq]
  generalize (lg_sl ([.int x0]) ++ List.replicate (1 - (lg_sl ([.int x0])).length) Slot.unset).toArray = ls at hl ⊢
  exact tX5_isLetter_e hC hK hA x0 _ _ ls hw hP hD va_S.rf hl

/-! X5_isComparison -/
def wX5_isComparison_18 (Q : Int32 → Prop)    : Prop :=
  (Q (1 : Int32))
def wX5_isComparison (Q : Int32 → Prop) (x0 : Int32)  : Prop :=
  ((x0 = (61 : Int32) → (wX5_isComparison_18 Q )) ∧ (¬ x0 = (61 : Int32) → ((x0 = (60 : Int32) → (wX5_isComparison_18 Q )) ∧ (¬ x0 = (60 : Int32) → ((¬ x0 = (62 : Int32) → (Q (0 : Int32))) ∧ (x0 = (62 : Int32) → (wX5_isComparison_18 Q )))))))
abbrev rmX5_isComparison : Room := { frames := 0, cells := 0, slots := 0, locals := 0 }
abbrev qX5_isComparison (dC : Nat → ClassId) (dI : Nat → Nat → Nat) (cI cZ cO cW : ClassId)  (Q : Int32 → Prop) (A : Nat → Prop) : Array Value → State → Outcome → State → Prop := va_Qi (fun (r : Int32) (u : Unit) => Q r) (fun (u : Unit) (t : State) => va_P (dC, dI) vwCl ([] : va_W) t.heap ∧ va_K (dC, dI) vwCl (tysA cI cZ cO cW) t ∧ va_D A ([] : va_W)) A
def zsX5_isComparison : List Cond := Cond.code yX5_isComparison cX5_isComparison 1 (some .boolean) :: GW
set_option maxHeartbeats 4000000 in
set_option maxRecDepth 100000 in
theorem tX5_isComparison_18 {p : Program} {l : Launch} {e : Env} {s : State} {m : MethodId} {args : Array Value} {below : List Frame} {meth : Method} {c : Code} {dC : Nat → ClassId} {dI : Nat → Nat → Nat} {cI cZ cO cW : ClassId} {A : Nat → Prop} {Q : Int32 → Prop}  (hC : Cx p s m args meth c cX5_isComparison (some .boolean) 1 GW RX5) (hK : va_K (dC, dI) vwCl (tysA cI cZ cO cW) s) (hA : ∀ q : Nat, s.heap.size ≤ q → A q) :
    ∀  (H : Heap) (locs : List Loc) (ls : Array Slot), wX5_isComparison_18 Q   → va_P (dC, dI) vwCl ([] : va_W) H → va_D A ([] : va_W) → va_S A s.heap H locs → lv_has ls 1 [] → W p l e rmX5_isComparison s m args below meth c H locs 0 0 (MQ below (qX5_isComparison dC dI cI cZ cO cW Q A) args s 0 0 A) (F0 m 18 ls []) := by
  obtain ⟨hx, hb, hr, hml, hown, hts, hlocks⟩ := id hC
  intro  H locs ls hw hP hD hS hl
  refine lv_iconst (v := (1 : Int32)) hx hb dX5_isComparison_18 (by decide) ?_
  refine lv_goto (tgt := 23) hx hb dX5_isComparison_19 (by decide) ?_
  have hP9 := hP.sub (ws' := ([] : va_W)) [] rfl
  have hD9 := hD.sub (ws' := ([] : va_W)) [] (by decide) rfl
  exact W.zret (v := (1 : Int32)) (ty := .boolean) hx hb hr rfl (fun t ht hW => ⟨⟨(1 : Int32), (), rfl, hw, by rw [ht]; exact hP9, va_K.moved hW.alike hK, hD9⟩, hS.F ht⟩) hS.2.2 dX5_isComparison_23
set_option maxHeartbeats 4000000 in
set_option maxRecDepth 100000 in
theorem tX5_isComparison_e {p : Program} {l : Launch} {e : Env} {s : State} {m : MethodId} {args : Array Value} {below : List Frame} {meth : Method} {c : Code} {dC : Nat → ClassId} {dI : Nat → Nat → Nat} {cI cZ cO cW : ClassId} {A : Nat → Prop} {Q : Int32 → Prop} (hC : Cx p s m args meth c cX5_isComparison (some .boolean) 1 GW RX5) (hK : va_K (dC, dI) vwCl (tysA cI cZ cO cW) s) (hA : ∀ q : Nat, s.heap.size ≤ q → A q) :
    ∀ (x0 : Int32) (H : Heap) (locs : List Loc) (ls : Array Slot), wX5_isComparison Q x0  → va_P (dC, dI) vwCl ([] : va_W) H → va_D A ([] : va_W) → va_S A s.heap H locs → lv_has ls 1 [(0, .int x0)] → W p l e rmX5_isComparison s m args below meth c H locs 0 0 (MQ below (qX5_isComparison dC dI cI cZ cO cW Q A) args s 0 0 A) (F0 m 0 ls []) := by
  obtain ⟨hx, hb, hr, hml, hown, hts, hlocks⟩ := id hC
  intro x0 H locs ls hw hP hD hS hl
  refine lv_iload_n hx hb dX5_isComparison_0 rfl (lv_at hl 0 rfl) ?_
  refine lv_bipush (v := (61 : Int32)) hx hb dX5_isComparison_1 (by decide) ?_
  refine lv_icmp_eq (tgt := 18) hx hb dX5_isComparison_3 (by decide) (fun c_1 => ?_) (fun c_1 => ?_)
  · have hw := hw.1 c_1
    exact tX5_isComparison_18 hC hK hA  _ _ ls hw (hP.sub [] rfl) (hD.sub [] (by decide) rfl) hS (lv_sub hl [] rfl)
  · have hw := hw.2 c_1
    refine lv_iload_n hx hb dX5_isComparison_6 rfl (lv_at hl 0 rfl) ?_
    refine lv_bipush (v := (60 : Int32)) hx hb dX5_isComparison_7 (by decide) ?_
    refine lv_icmp_eq (tgt := 18) hx hb dX5_isComparison_9 (by decide) (fun c_2 => ?_) (fun c_2 => ?_)
    · have hw := hw.1 c_2
      exact tX5_isComparison_18 hC hK hA  _ _ ls hw (hP.sub [] rfl) (hD.sub [] (by decide) rfl) hS (lv_sub hl [] rfl)
    · have hw := hw.2 c_2
      refine lv_iload_n hx hb dX5_isComparison_12 rfl (lv_at hl 0 rfl) ?_
      refine lv_bipush (v := (62 : Int32)) hx hb dX5_isComparison_13 (by decide) ?_
      refine lv_icmp_ne (tgt := 22) hx hb dX5_isComparison_15 (by decide) (fun c_3 => ?_) (fun c_3 => ?_)
      · have hw := hw.1 c_3
        refine lv_iconst (v := (0 : Int32)) hx hb dX5_isComparison_22 (by decide) ?_
        have hP9 := hP.sub (ws' := ([] : va_W)) [] rfl
        have hD9 := hD.sub (ws' := ([] : va_W)) [] (by decide) rfl
        exact W.zret (v := (0 : Int32)) (ty := .boolean) hx hb hr rfl (fun t ht hW => ⟨⟨(0 : Int32), (), rfl, hw, by rw [ht]; exact hP9, va_K.moved hW.alike hK, hD9⟩, hS.F ht⟩) hS.2.2 dX5_isComparison_23
      · have hw := hw.2 c_3
        exact tX5_isComparison_18 hC hK hA  _ _ ls hw (hP.sub [] rfl) (hD.sub [] (by decide) rfl) hS (lv_sub hl [] rfl)
set_option maxHeartbeats 4000000 in
set_option maxRecDepth 100000 in
theorem kX5_isComparison (l : Launch) (dC : Nat → ClassId) (dI : Nat → Nat → Nat) (cI cZ cO cW : ClassId)  (sz : Nat)  (x0 : Int32) (Q : Int32 → Prop) (hw : wX5_isComparison Q x0 ) : Met l yX5_isComparison zsX5_isComparison rmX5_isComparison (va_Pc [.int x0] (fun U => U.heap.size = sz ∧ va_P (dC, dI) vwCl ([] : va_W) U.heap ∧ va_K (dC, dI) vwCl (tysA cI cZ cO cW) U ∧ va_D (fun _ => True) ([] : va_W))) (qX5_isComparison dC dI cI cZ cO cW Q (va_A ([] : va_W) sz)) 0 0 (va_A ([] : va_W) sz) := by
  refine Met.ofW (cc := cX5_isComparison) (maxL := 1) (ret := (some .boolean)) (by decide) rfl ?_
  intro p e s m args below meth c s₁ B hml hv
  obtain ⟨rfl, hsz, hP, hK, hD0⟩ := hv
  subst hsz
  have hC : Cx p s m ([.int x0] : List Value).toArray meth c cX5_isComparison (some .boolean) 1 GW RX5 := ⟨B.exec, B.bytes, B.returns, hml, findClass_of_methodNamed B.named, fun w h => atoms_spec (ws := zsX5_isComparison) B.pre w (List.mem_cons_of_mem _ h), B.notSynchronized⟩
  have hD := hD0.self (sz := s.heap.size)
  generalize hAe : va_A ([] : va_W) s.heap.size = A at hD ⊢
  have hA : ∀ q : Nat, s.heap.size ≤ q → A q := fun q h => by rw [← hAe]; exact Or.inr h
  have hl := lv_entry ([.int x0]) (n := 1) (Nat.le_of_ble_eq_true rfl)
  rw [lg_entry_eq]
  generalize (lg_sl ([.int x0]) ++ List.replicate (1 - (lg_sl ([.int x0])).length) Slot.unset).toArray = ls at hl ⊢
  exact tX5_isComparison_e hC hK hA x0 _ _ ls hw hP hD va_S.rf hl

/-! X5_isSign -/
def wX5_isSign_31 (Q : Int32 → Prop)    : Prop :=
  (Q (1 : Int32))
def wX5_isSign (Q : Int32 → Prop) (x0 : Int32)  : Prop :=
  ((x0 = (40 : Int32) → (wX5_isSign_31 Q )) ∧ (¬ x0 = (40 : Int32) → ((x0 = (41 : Int32) → (wX5_isSign_31 Q )) ∧ (¬ x0 = (41 : Int32) → ((x0 = (58 : Int32) → (wX5_isSign_31 Q )) ∧ (¬ x0 = (58 : Int32) → ((x0 = (59 : Int32) → (wX5_isSign_31 Q )) ∧ (¬ x0 = (59 : Int32) → (wX5_isComparison (fun r_5 => ((r_5 = 0 → (Q (0 : Int32))) ∧ (¬ r_5 = 0 → (wX5_isSign_31 Q)))) x0)))))))))
abbrev rmX5_isSign : Room := { frames := 1, cells := 0, slots := 0, locals := 20 }
abbrev qX5_isSign (dC : Nat → ClassId) (dI : Nat → Nat → Nat) (cI cZ cO cW : ClassId)  (Q : Int32 → Prop) (A : Nat → Prop) : Array Value → State → Outcome → State → Prop := va_Qi (fun (r : Int32) (u : Unit) => Q r) (fun (u : Unit) (t : State) => va_P (dC, dI) vwCl ([] : va_W) t.heap ∧ va_K (dC, dI) vwCl (tysA cI cZ cO cW) t ∧ va_D A ([] : va_W)) A
def zsX5_isSign : List Cond := Cond.code yX5_isSign cX5_isSign 1 (some .boolean) :: GW
set_option maxHeartbeats 4000000 in
set_option maxRecDepth 100000 in
theorem tX5_isSign_31 {p : Program} {l : Launch} {e : Env} {s : State} {m : MethodId} {args : Array Value} {below : List Frame} {meth : Method} {c : Code} {dC : Nat → ClassId} {dI : Nat → Nat → Nat} {cI cZ cO cW : ClassId} {A : Nat → Prop} {Q : Int32 → Prop}  (hC : Cx p s m args meth c cX5_isSign (some .boolean) 1 GW RX5) (hK : va_K (dC, dI) vwCl (tysA cI cZ cO cW) s) (hA : ∀ q : Nat, s.heap.size ≤ q → A q) :
    ∀  (H : Heap) (locs : List Loc) (ls : Array Slot), wX5_isSign_31 Q   → va_P (dC, dI) vwCl ([] : va_W) H → va_D A ([] : va_W) → va_S A s.heap H locs → lv_has ls 1 [] → W p l e rmX5_isSign s m args below meth c H locs 0 0 (MQ below (qX5_isSign dC dI cI cZ cO cW Q A) args s 0 0 A) (F0 m 31 ls []) := by
  obtain ⟨hx, hb, hr, hml, hown, hts, hlocks⟩ := id hC
  intro  H locs ls hw hP hD hS hl
  refine lv_iconst (v := (1 : Int32)) hx hb dX5_isSign_31 (by decide) ?_
  refine lv_goto (tgt := 36) hx hb dX5_isSign_32 (by decide) ?_
  have hP9 := hP.sub (ws' := ([] : va_W)) [] rfl
  have hD9 := hD.sub (ws' := ([] : va_W)) [] (by decide) rfl
  exact W.zret (v := (1 : Int32)) (ty := .boolean) hx hb hr rfl (fun t ht hW => ⟨⟨(1 : Int32), (), rfl, hw, by rw [ht]; exact hP9, va_K.moved hW.alike hK, hD9⟩, hS.F ht⟩) hS.2.2 dX5_isSign_36
set_option maxHeartbeats 4000000 in
set_option maxRecDepth 100000 in
theorem tX5_isSign_e {p : Program} {l : Launch} {e : Env} {s : State} {m : MethodId} {args : Array Value} {below : List Frame} {meth : Method} {c : Code} {dC : Nat → ClassId} {dI : Nat → Nat → Nat} {cI cZ cO cW : ClassId} {A : Nat → Prop} {Q : Int32 → Prop} (hC : Cx p s m args meth c cX5_isSign (some .boolean) 1 GW RX5) (hK : va_K (dC, dI) vwCl (tysA cI cZ cO cW) s) (hA : ∀ q : Nat, s.heap.size ≤ q → A q) :
    ∀ (x0 : Int32) (H : Heap) (locs : List Loc) (ls : Array Slot), wX5_isSign Q x0  → va_P (dC, dI) vwCl ([] : va_W) H → va_D A ([] : va_W) → va_S A s.heap H locs → lv_has ls 1 [(0, .int x0)] → W p l e rmX5_isSign s m args below meth c H locs 0 0 (MQ below (qX5_isSign dC dI cI cZ cO cW Q A) args s 0 0 A) (F0 m 0 ls []) := by
  obtain ⟨hx, hb, hr, hml, hown, hts, hlocks⟩ := id hC
  intro x0 H locs ls hw hP hD hS hl
  refine lv_iload_n hx hb dX5_isSign_0 rfl (lv_at hl 0 rfl) ?_
  refine lv_bipush (v := (40 : Int32)) hx hb dX5_isSign_1 (by decide) ?_
  refine lv_icmp_eq (tgt := 31) hx hb dX5_isSign_3 (by decide) (fun c_1 => ?_) (fun c_1 => ?_)
  · have hw := hw.1 c_1
    exact tX5_isSign_31 hC hK hA  _ _ ls hw (hP.sub [] rfl) (hD.sub [] (by decide) rfl) hS (lv_sub hl [] rfl)
  · have hw := hw.2 c_1
    refine lv_iload_n hx hb dX5_isSign_6 rfl (lv_at hl 0 rfl) ?_
    refine lv_bipush (v := (41 : Int32)) hx hb dX5_isSign_7 (by decide) ?_
    refine lv_icmp_eq (tgt := 31) hx hb dX5_isSign_9 (by decide) (fun c_2 => ?_) (fun c_2 => ?_)
    · have hw := hw.1 c_2
      exact tX5_isSign_31 hC hK hA  _ _ ls hw (hP.sub [] rfl) (hD.sub [] (by decide) rfl) hS (lv_sub hl [] rfl)
    · have hw := hw.2 c_2
      refine lv_iload_n hx hb dX5_isSign_12 rfl (lv_at hl 0 rfl) ?_
      refine lv_bipush (v := (58 : Int32)) hx hb dX5_isSign_13 (by decide) ?_
      refine lv_icmp_eq (tgt := 31) hx hb dX5_isSign_15 (by decide) (fun c_3 => ?_) (fun c_3 => ?_)
      · have hw := hw.1 c_3
        exact tX5_isSign_31 hC hK hA  _ _ ls hw (hP.sub [] rfl) (hD.sub [] (by decide) rfl) hS (lv_sub hl [] rfl)
      · have hw := hw.2 c_3
        refine lv_iload_n hx hb dX5_isSign_18 rfl (lv_at hl 0 rfl) ?_
        refine lv_bipush (v := (59 : Int32)) hx hb dX5_isSign_19 (by decide) ?_
        refine lv_icmp_eq (tgt := 31) hx hb dX5_isSign_21 (by decide) (fun c_4 => ?_) (fun c_4 => ?_)
        · have hw := hw.1 c_4
          exact tX5_isSign_31 hC hK hA  _ _ ls hw (hP.sub [] rfl) (hD.sub [] (by decide) rfl) hS (lv_sub hl [] rfl)
        · have hw := hw.2 c_4
          refine lv_iload_n hx hb dX5_isSign_24 rfl (lv_at hl 0 rfl) ?_
          have hPc := hP.sub (ws' := []) [] rfl
          have hDc := hD.sub (ws' := []) [] (by decide) rfl
          have hFc := va_free (wc := []) hD hS hA [] rfl
          refine va_calli (va_runS (As := [.int x0]) (rest := []) ⟨hx, hb, hml, hown, hts⟩ (kX5_isComparison l dC dI cI cZ cO cW H.size x0 _ hw) (va_cwS 1 hts (gS gw_342 gw_343 gw_329 (gM gw_340)) rfl rfl rfl (by decide +kernel) ⟨Nat.le_of_ble_eq_true rfl, Nat.le_of_ble_eq_true rfl⟩) (ps_of hPc hK hDc) rfl rfl hl.1 rfl (lv_room (Nat.le_of_ble_eq_true rfl)) dX5_isSign_25 ⟨Nat.zero_le _, Nat.zero_le _⟩) hS (fun q _ h => hFc q h) hFc (fun r_5 u t H locs ht hvm hw hB hz1 hk1 hS => ?_)
          obtain ⟨hP, hD⟩ := af_join (wr := []) (w1 := []) hB ht hP hD [] [] rfl rfl (by decide) (by decide) hk1 hFc
          have hP : va_P (dC, dI) vwCl [] _ := hP
          have hD : va_D A [] := hD
          refine lv_if_eq (tgt := 35) hx hb dX5_isSign_28 (by decide) (fun c_6 => ?_) (fun c_6 => ?_)
          · have hw := hw.1 c_6
            refine lv_iconst (v := (0 : Int32)) hx hb dX5_isSign_35 (by decide) ?_
            have hP9 := hP.sub (ws' := ([] : va_W)) [] rfl
            have hD9 := hD.sub (ws' := ([] : va_W)) [] (by decide) rfl
            exact W.zret (v := (0 : Int32)) (ty := .boolean) hx hb hr rfl (fun t ht hW => ⟨⟨(0 : Int32), (), rfl, hw, by rw [ht]; exact hP9, va_K.moved hW.alike hK, hD9⟩, hS.F ht⟩) hS.2.2 dX5_isSign_36
          · have hw := hw.2 c_6
            exact tX5_isSign_31 hC hK hA  _ _ ls hw (hP.sub [] rfl) (hD.sub [] (by decide) rfl) hS (lv_sub hl [] rfl)
set_option maxHeartbeats 4000000 in
set_option maxRecDepth 100000 in
theorem kX5_isSign (l : Launch) (dC : Nat → ClassId) (dI : Nat → Nat → Nat) (cI cZ cO cW : ClassId)  (sz : Nat)  (x0 : Int32) (Q : Int32 → Prop) (hw : wX5_isSign Q x0 ) : Met l yX5_isSign zsX5_isSign rmX5_isSign (va_Pc [.int x0] (fun U => U.heap.size = sz ∧ va_P (dC, dI) vwCl ([] : va_W) U.heap ∧ va_K (dC, dI) vwCl (tysA cI cZ cO cW) U ∧ va_D (fun _ => True) ([] : va_W))) (qX5_isSign dC dI cI cZ cO cW Q (va_A ([] : va_W) sz)) 0 0 (va_A ([] : va_W) sz) := by
  refine Met.ofW (cc := cX5_isSign) (maxL := 1) (ret := (some .boolean)) (by decide) rfl ?_
  intro p e s m args below meth c s₁ B hml hv
  obtain ⟨rfl, hsz, hP, hK, hD0⟩ := hv
  subst hsz
  have hC : Cx p s m ([.int x0] : List Value).toArray meth c cX5_isSign (some .boolean) 1 GW RX5 := ⟨B.exec, B.bytes, B.returns, hml, findClass_of_methodNamed B.named, fun w h => atoms_spec (ws := zsX5_isSign) B.pre w (List.mem_cons_of_mem _ h), B.notSynchronized⟩
  have hD := hD0.self (sz := s.heap.size)
  generalize hAe : va_A ([] : va_W) s.heap.size = A at hD ⊢
  have hA : ∀ q : Nat, s.heap.size ≤ q → A q := fun q h => by rw [← hAe]; exact Or.inr h
  have hl := lv_entry ([.int x0]) (n := 1) (Nat.le_of_ble_eq_true rfl)
  rw [lg_entry_eq]
  generalize (lg_sl ([.int x0]) ++ List.replicate (1 - (lg_sl ([.int x0])).length) Slot.unset).toArray = ls at hl ⊢
  exact tX5_isSign_e hC hK hA x0 _ _ ls hw hP hD va_S.rf hl

/-! X5_token -/
def wX5_token (Q : Int32 → Prop)  (f_size : Int32) (f_at : Int32) (r_tokens : Nat → Int32) : Prop :=
  ((f_size ≤ f_at → (Q (257 : Int32))) ∧ (¬ f_size ≤ f_at → (vp_in f_at 401 ∧ (Q (r_tokens f_at.toNatClampNeg)))))
abbrev vX5_token (cI cZ : ClassId) (h h_tokens h_places h_values h_steps h_ends h_acts h_numbers : Nat) (f_stepped : Int32) (f_lines : Int32) (f_fault : Int32) (f_place : Int32) (f_size : Int32) (f_at : Int32) (r_tokens : Nat → Int32) : va_W := [(h, .inr (5, [.ref h_tokens, .ref h_places, .ref h_values, .int f_size, .int f_at, .ref h_steps, .ref h_ends, .ref h_acts, .ref h_numbers, .int f_stepped, .int f_lines, .int f_fault, .int f_place])), (h_tokens, .inl (cI, 401, .inl r_tokens))]
abbrev rmX5_token : Room := { frames := 0, cells := 0, slots := 0, locals := 0 }
abbrev qX5_token (dC : Nat → ClassId) (dI : Nat → Nat → Nat) (cI cZ cO cW : ClassId) (h h_tokens h_places h_values h_steps h_ends h_acts h_numbers : Nat) (f_stepped : Int32) (f_lines : Int32) (f_fault : Int32) (f_place : Int32) (f_size : Int32) (f_at : Int32) (r_tokens : Nat → Int32) (Q : Int32 → Prop) (A : Nat → Prop) : Array Value → State → Outcome → State → Prop := va_Qi (fun (r : Int32) (u : Unit) => Q r) (fun (u : Unit) (t : State) => va_P (dC, dI) vwCl (vX5_token cI cZ h h_tokens h_places h_values h_steps h_ends h_acts h_numbers f_stepped f_lines f_fault f_place f_size f_at r_tokens) t.heap ∧ va_K (dC, dI) vwCl (tysA cI cZ cO cW) t ∧ va_D A (vX5_token cI cZ h h_tokens h_places h_values h_steps h_ends h_acts h_numbers f_stepped f_lines f_fault f_place f_size f_at r_tokens)) A
def zsX5_token : List Cond := Cond.code yX5_token cX5_token 1 (some .int) :: GW
set_option maxHeartbeats 4000000 in
set_option maxRecDepth 100000 in
theorem tX5_token_e {p : Program} {l : Launch} {e : Env} {s : State} {m : MethodId} {args : Array Value} {below : List Frame} {meth : Method} {c : Code} {dC : Nat → ClassId} {dI : Nat → Nat → Nat} {cI cZ cO cW : ClassId} {A : Nat → Prop} {h h_tokens h_places h_values h_steps h_ends h_acts h_numbers : Nat} {f_stepped f_lines f_fault f_place : Int32} {Q : Int32 → Prop} (hC : Cx p s m args meth c cX5_token (some .int) 1 GW RX5) (hK : va_K (dC, dI) vwCl (tysA cI cZ cO cW) s) (hA : ∀ q : Nat, s.heap.size ≤ q → A q) :
    ∀ (f_size : Int32) (f_at : Int32) (r_tokens : Nat → Int32) (H : Heap) (locs : List Loc) (ls : Array Slot), wX5_token Q  f_size f_at r_tokens → va_P (dC, dI) vwCl (vX5_token cI cZ h h_tokens h_places h_values h_steps h_ends h_acts h_numbers f_stepped f_lines f_fault f_place f_size f_at r_tokens) H → va_D A (vX5_token cI cZ h h_tokens h_places h_values h_steps h_ends h_acts h_numbers f_stepped f_lines f_fault f_place f_size f_at r_tokens) → va_S A s.heap H locs → lv_has ls 1 [(0, .ref h)] → W p l e rmX5_token s m args below meth c H locs 0 0 (MQ below (qX5_token dC dI cI cZ cO cW h h_tokens h_places h_values h_steps h_ends h_acts h_numbers f_stepped f_lines f_fault f_place f_size f_at r_tokens Q A) args s 0 0 A) (F0 m 0 ls []) := by
  obtain ⟨hx, hb, hr, hml, hown, hts, hlocks⟩ := id hC
  intro  f_size f_at r_tokens H locs ls hw hP hD hS hl
  refine lv_aload_n hx hb dX5_token_0 rfl (lv_at hl 0 rfl) ?_
  refine va_get (D := (dC, dI)) (ci := 5) (v := .int f_at) (C := RX5) (T := TX5) (N := 13) hx hb hts gu_X5 hown hK hP 0 rfl rfl 4 (by decide) (hts _ gw_261) (fun _ h9 => h9) rfl dX5_token_1 ?_
  refine lv_aload_n hx hb dX5_token_4 rfl (lv_at hl 0 rfl) ?_
  refine va_get (D := (dC, dI)) (ci := 5) (v := .int f_size) (C := RX5) (T := TX5) (N := 13) hx hb hts gu_X5 hown hK hP 0 rfl rfl 3 (by decide) (hts _ gw_260) (fun _ h9 => h9) rfl dX5_token_5 ?_
  refine lv_icmp_ge (tgt := 23) hx hb dX5_token_8 (by decide) (fun c_1 => ?_) (fun c_1 => ?_)
  · have hw := hw.1 c_1
    refine lv_sipush (v := (257 : Int32)) hx hb dX5_token_23 (by decide) ?_
    have hP9 := hP.sub (ws' := (vX5_token cI cZ h h_tokens h_places h_values h_steps h_ends h_acts h_numbers f_stepped f_lines f_fault f_place f_size f_at r_tokens)) [0, 1] rfl
    have hD9 := hD.sub (ws' := (vX5_token cI cZ h h_tokens h_places h_values h_steps h_ends h_acts h_numbers f_stepped f_lines f_fault f_place f_size f_at r_tokens)) [0, 1] (by decide) rfl
    exact W.iret (v := (257 : Int32)) hx hb hr (fun t ht hW => ⟨⟨(257 : Int32), (), rfl, hw, by rw [ht]; exact hP9, va_K.moved hW.alike hK, hD9⟩, hS.F ht⟩) hS.2.2 dX5_token_26
  · have hw := hw.2 c_1
    refine lv_aload_n hx hb dX5_token_11 rfl (lv_at hl 0 rfl) ?_
    refine va_get (D := (dC, dI)) (ci := 5) (v := .ref h_tokens) (C := RX5) (T := TX5) (N := 13) hx hb hts gu_X5 hown hK hP 0 rfl rfl 0 (by decide) (hts _ gw_257) (fun _ h9 => h9) rfl dX5_token_12 ?_
    refine lv_aload_n hx hb dX5_token_15 rfl (lv_at hl 0 rfl) ?_
    refine va_get (D := (dC, dI)) (ci := 5) (v := .int f_at) (C := RX5) (T := TX5) (N := 13) hx hb hts gu_X5 hown hK hP 0 rfl rfl 4 (by decide) (hts _ gw_261) (fun _ h9 => h9) rfl dX5_token_16 ?_
    obtain ⟨h_2, hw⟩ := hw
    refine va_iald hx hb hK hP 1 0 rfl rfl h_2 dX5_token_19 ?_
    refine lv_goto (tgt := 26) hx hb dX5_token_20 (by decide) ?_
    have hP9 := hP.sub (ws' := (vX5_token cI cZ h h_tokens h_places h_values h_steps h_ends h_acts h_numbers f_stepped f_lines f_fault f_place f_size f_at r_tokens)) [0, 1] rfl
    have hD9 := hD.sub (ws' := (vX5_token cI cZ h h_tokens h_places h_values h_steps h_ends h_acts h_numbers f_stepped f_lines f_fault f_place f_size f_at r_tokens)) [0, 1] (by decide) rfl
    exact W.iret (v := (r_tokens f_at.toNatClampNeg)) hx hb hr (fun t ht hW => ⟨⟨(r_tokens f_at.toNatClampNeg), (), rfl, hw, by rw [ht]; exact hP9, va_K.moved hW.alike hK, hD9⟩, hS.F ht⟩) hS.2.2 dX5_token_26
set_option maxHeartbeats 4000000 in
set_option maxRecDepth 100000 in
theorem kX5_token (l : Launch) (dC : Nat → ClassId) (dI : Nat → Nat → Nat) (cI cZ cO cW : ClassId) (h h_tokens h_places h_values h_steps h_ends h_acts h_numbers : Nat)  (sz : Nat) (f_stepped : Int32) (f_lines : Int32) (f_fault : Int32) (f_place : Int32) (f_size : Int32) (f_at : Int32) (r_tokens : Nat → Int32)  (Q : Int32 → Prop) (hw : wX5_token Q  f_size f_at r_tokens) : Met l yX5_token zsX5_token rmX5_token (va_Pc [.ref h] (fun U => U.heap.size = sz ∧ va_P (dC, dI) vwCl (vX5_token cI cZ h h_tokens h_places h_values h_steps h_ends h_acts h_numbers f_stepped f_lines f_fault f_place f_size f_at r_tokens) U.heap ∧ va_K (dC, dI) vwCl (tysA cI cZ cO cW) U ∧ va_D (fun _ => True) (vX5_token cI cZ h h_tokens h_places h_values h_steps h_ends h_acts h_numbers f_stepped f_lines f_fault f_place f_size f_at r_tokens))) (qX5_token dC dI cI cZ cO cW h h_tokens h_places h_values h_steps h_ends h_acts h_numbers f_stepped f_lines f_fault f_place f_size f_at r_tokens Q (va_A (vX5_token cI cZ h h_tokens h_places h_values h_steps h_ends h_acts h_numbers f_stepped f_lines f_fault f_place f_size f_at r_tokens) sz)) 0 0 (va_A (vX5_token cI cZ h h_tokens h_places h_values h_steps h_ends h_acts h_numbers f_stepped f_lines f_fault f_place f_size f_at r_tokens) sz) := by
  refine Met.ofW (cc := cX5_token) (maxL := 1) (ret := (some .int)) (by decide) rfl ?_
  intro p e s m args below meth c s₁ B hml hv
  obtain ⟨rfl, hsz, hP, hK, hD0⟩ := hv
  subst hsz
  have hC : Cx p s m ([.ref h] : List Value).toArray meth c cX5_token (some .int) 1 GW RX5 := ⟨B.exec, B.bytes, B.returns, hml, findClass_of_methodNamed B.named, fun w h => atoms_spec (ws := zsX5_token) B.pre w (List.mem_cons_of_mem _ h), B.notSynchronized⟩
  have hD := hD0.self (sz := s.heap.size)
  generalize hAe : va_A (vX5_token cI cZ h h_tokens h_places h_values h_steps h_ends h_acts h_numbers f_stepped f_lines f_fault f_place f_size f_at r_tokens) s.heap.size = A at hD ⊢
  have hA : ∀ q : Nat, s.heap.size ≤ q → A q := fun q h => by rw [← hAe]; exact Or.inr h
  have hl := lv_entry ([.ref h]) (n := 1) (Nat.le_of_ble_eq_true rfl)
  rw [lg_entry_eq]
  generalize (lg_sl ([.ref h]) ++ List.replicate (1 - (lg_sl ([.ref h])).length) Slot.unset).toArray = ls at hl ⊢
  exact tX5_token_e hC hK hA  f_size f_at r_tokens _ _ ls hw hP hD va_S.rf hl

/-! X5_placeHere -/
def wX5_placeHere (Q : Int32 → Prop)  (f_size : Int32) (f_at : Int32) (r_places : Nat → Int32) : Prop :=
  ((f_size ≤ f_at → (Q (-1 : Int32))) ∧ (¬ f_size ≤ f_at → (vp_in f_at 401 ∧ (Q (r_places f_at.toNatClampNeg)))))
abbrev vX5_placeHere (cI cZ : ClassId) (h h_tokens h_places h_values h_steps h_ends h_acts h_numbers : Nat) (f_stepped : Int32) (f_lines : Int32) (f_fault : Int32) (f_place : Int32) (f_size : Int32) (f_at : Int32) (r_places : Nat → Int32) : va_W := [(h, .inr (5, [.ref h_tokens, .ref h_places, .ref h_values, .int f_size, .int f_at, .ref h_steps, .ref h_ends, .ref h_acts, .ref h_numbers, .int f_stepped, .int f_lines, .int f_fault, .int f_place])), (h_places, .inl (cI, 401, .inl r_places))]
abbrev rmX5_placeHere : Room := { frames := 0, cells := 0, slots := 0, locals := 0 }
abbrev qX5_placeHere (dC : Nat → ClassId) (dI : Nat → Nat → Nat) (cI cZ cO cW : ClassId) (h h_tokens h_places h_values h_steps h_ends h_acts h_numbers : Nat) (f_stepped : Int32) (f_lines : Int32) (f_fault : Int32) (f_place : Int32) (f_size : Int32) (f_at : Int32) (r_places : Nat → Int32) (Q : Int32 → Prop) (A : Nat → Prop) : Array Value → State → Outcome → State → Prop := va_Qi (fun (r : Int32) (u : Unit) => Q r) (fun (u : Unit) (t : State) => va_P (dC, dI) vwCl (vX5_placeHere cI cZ h h_tokens h_places h_values h_steps h_ends h_acts h_numbers f_stepped f_lines f_fault f_place f_size f_at r_places) t.heap ∧ va_K (dC, dI) vwCl (tysA cI cZ cO cW) t ∧ va_D A (vX5_placeHere cI cZ h h_tokens h_places h_values h_steps h_ends h_acts h_numbers f_stepped f_lines f_fault f_place f_size f_at r_places)) A
def zsX5_placeHere : List Cond := Cond.code yX5_placeHere cX5_placeHere 1 (some .int) :: GW
set_option maxHeartbeats 4000000 in
set_option maxRecDepth 100000 in
theorem tX5_placeHere_e {p : Program} {l : Launch} {e : Env} {s : State} {m : MethodId} {args : Array Value} {below : List Frame} {meth : Method} {c : Code} {dC : Nat → ClassId} {dI : Nat → Nat → Nat} {cI cZ cO cW : ClassId} {A : Nat → Prop} {h h_tokens h_places h_values h_steps h_ends h_acts h_numbers : Nat} {f_stepped f_lines f_fault f_place : Int32} {Q : Int32 → Prop} (hC : Cx p s m args meth c cX5_placeHere (some .int) 1 GW RX5) (hK : va_K (dC, dI) vwCl (tysA cI cZ cO cW) s) (hA : ∀ q : Nat, s.heap.size ≤ q → A q) :
    ∀ (f_size : Int32) (f_at : Int32) (r_places : Nat → Int32) (H : Heap) (locs : List Loc) (ls : Array Slot), wX5_placeHere Q  f_size f_at r_places → va_P (dC, dI) vwCl (vX5_placeHere cI cZ h h_tokens h_places h_values h_steps h_ends h_acts h_numbers f_stepped f_lines f_fault f_place f_size f_at r_places) H → va_D A (vX5_placeHere cI cZ h h_tokens h_places h_values h_steps h_ends h_acts h_numbers f_stepped f_lines f_fault f_place f_size f_at r_places) → va_S A s.heap H locs → lv_has ls 1 [(0, .ref h)] → W p l e rmX5_placeHere s m args below meth c H locs 0 0 (MQ below (qX5_placeHere dC dI cI cZ cO cW h h_tokens h_places h_values h_steps h_ends h_acts h_numbers f_stepped f_lines f_fault f_place f_size f_at r_places Q A) args s 0 0 A) (F0 m 0 ls []) := by
  obtain ⟨hx, hb, hr, hml, hown, hts, hlocks⟩ := id hC
  intro  f_size f_at r_places H locs ls hw hP hD hS hl
  refine lv_aload_n hx hb dX5_placeHere_0 rfl (lv_at hl 0 rfl) ?_
  refine va_get (D := (dC, dI)) (ci := 5) (v := .int f_at) (C := RX5) (T := TX5) (N := 13) hx hb hts gu_X5 hown hK hP 0 rfl rfl 4 (by decide) (hts _ gw_261) (fun _ h9 => h9) rfl dX5_placeHere_1 ?_
  refine lv_aload_n hx hb dX5_placeHere_4 rfl (lv_at hl 0 rfl) ?_
  refine va_get (D := (dC, dI)) (ci := 5) (v := .int f_size) (C := RX5) (T := TX5) (N := 13) hx hb hts gu_X5 hown hK hP 0 rfl rfl 3 (by decide) (hts _ gw_260) (fun _ h9 => h9) rfl dX5_placeHere_5 ?_
  refine lv_icmp_ge (tgt := 23) hx hb dX5_placeHere_8 (by decide) (fun c_1 => ?_) (fun c_1 => ?_)
  · have hw := hw.1 c_1
    refine lv_iconst (v := (-1 : Int32)) hx hb dX5_placeHere_23 (by decide) ?_
    have hP9 := hP.sub (ws' := (vX5_placeHere cI cZ h h_tokens h_places h_values h_steps h_ends h_acts h_numbers f_stepped f_lines f_fault f_place f_size f_at r_places)) [0, 1] rfl
    have hD9 := hD.sub (ws' := (vX5_placeHere cI cZ h h_tokens h_places h_values h_steps h_ends h_acts h_numbers f_stepped f_lines f_fault f_place f_size f_at r_places)) [0, 1] (by decide) rfl
    exact W.iret (v := (-1 : Int32)) hx hb hr (fun t ht hW => ⟨⟨(-1 : Int32), (), rfl, hw, by rw [ht]; exact hP9, va_K.moved hW.alike hK, hD9⟩, hS.F ht⟩) hS.2.2 dX5_placeHere_24
  · have hw := hw.2 c_1
    refine lv_aload_n hx hb dX5_placeHere_11 rfl (lv_at hl 0 rfl) ?_
    refine va_get (D := (dC, dI)) (ci := 5) (v := .ref h_places) (C := RX5) (T := TX5) (N := 13) hx hb hts gu_X5 hown hK hP 0 rfl rfl 1 (by decide) (hts _ gw_258) (fun _ h9 => h9) rfl dX5_placeHere_12 ?_
    refine lv_aload_n hx hb dX5_placeHere_15 rfl (lv_at hl 0 rfl) ?_
    refine va_get (D := (dC, dI)) (ci := 5) (v := .int f_at) (C := RX5) (T := TX5) (N := 13) hx hb hts gu_X5 hown hK hP 0 rfl rfl 4 (by decide) (hts _ gw_261) (fun _ h9 => h9) rfl dX5_placeHere_16 ?_
    obtain ⟨h_2, hw⟩ := hw
    refine va_iald hx hb hK hP 1 0 rfl rfl h_2 dX5_placeHere_19 ?_
    refine lv_goto (tgt := 24) hx hb dX5_placeHere_20 (by decide) ?_
    have hP9 := hP.sub (ws' := (vX5_placeHere cI cZ h h_tokens h_places h_values h_steps h_ends h_acts h_numbers f_stepped f_lines f_fault f_place f_size f_at r_places)) [0, 1] rfl
    have hD9 := hD.sub (ws' := (vX5_placeHere cI cZ h h_tokens h_places h_values h_steps h_ends h_acts h_numbers f_stepped f_lines f_fault f_place f_size f_at r_places)) [0, 1] (by decide) rfl
    exact W.iret (v := (r_places f_at.toNatClampNeg)) hx hb hr (fun t ht hW => ⟨⟨(r_places f_at.toNatClampNeg), (), rfl, hw, by rw [ht]; exact hP9, va_K.moved hW.alike hK, hD9⟩, hS.F ht⟩) hS.2.2 dX5_placeHere_24
set_option maxHeartbeats 4000000 in
set_option maxRecDepth 100000 in
theorem kX5_placeHere (l : Launch) (dC : Nat → ClassId) (dI : Nat → Nat → Nat) (cI cZ cO cW : ClassId) (h h_tokens h_places h_values h_steps h_ends h_acts h_numbers : Nat)  (sz : Nat) (f_stepped : Int32) (f_lines : Int32) (f_fault : Int32) (f_place : Int32) (f_size : Int32) (f_at : Int32) (r_places : Nat → Int32)  (Q : Int32 → Prop) (hw : wX5_placeHere Q  f_size f_at r_places) : Met l yX5_placeHere zsX5_placeHere rmX5_placeHere (va_Pc [.ref h] (fun U => U.heap.size = sz ∧ va_P (dC, dI) vwCl (vX5_placeHere cI cZ h h_tokens h_places h_values h_steps h_ends h_acts h_numbers f_stepped f_lines f_fault f_place f_size f_at r_places) U.heap ∧ va_K (dC, dI) vwCl (tysA cI cZ cO cW) U ∧ va_D (fun _ => True) (vX5_placeHere cI cZ h h_tokens h_places h_values h_steps h_ends h_acts h_numbers f_stepped f_lines f_fault f_place f_size f_at r_places))) (qX5_placeHere dC dI cI cZ cO cW h h_tokens h_places h_values h_steps h_ends h_acts h_numbers f_stepped f_lines f_fault f_place f_size f_at r_places Q (va_A (vX5_placeHere cI cZ h h_tokens h_places h_values h_steps h_ends h_acts h_numbers f_stepped f_lines f_fault f_place f_size f_at r_places) sz)) 0 0 (va_A (vX5_placeHere cI cZ h h_tokens h_places h_values h_steps h_ends h_acts h_numbers f_stepped f_lines f_fault f_place f_size f_at r_places) sz) := by
  refine Met.ofW (cc := cX5_placeHere) (maxL := 1) (ret := (some .int)) (by decide) rfl ?_
  intro p e s m args below meth c s₁ B hml hv
  obtain ⟨rfl, hsz, hP, hK, hD0⟩ := hv
  subst hsz
  have hC : Cx p s m ([.ref h] : List Value).toArray meth c cX5_placeHere (some .int) 1 GW RX5 := ⟨B.exec, B.bytes, B.returns, hml, findClass_of_methodNamed B.named, fun w h => atoms_spec (ws := zsX5_placeHere) B.pre w (List.mem_cons_of_mem _ h), B.notSynchronized⟩
  have hD := hD0.self (sz := s.heap.size)
  generalize hAe : va_A (vX5_placeHere cI cZ h h_tokens h_places h_values h_steps h_ends h_acts h_numbers f_stepped f_lines f_fault f_place f_size f_at r_places) s.heap.size = A at hD ⊢
  have hA : ∀ q : Nat, s.heap.size ≤ q → A q := fun q h => by rw [← hAe]; exact Or.inr h
  have hl := lv_entry ([.ref h]) (n := 1) (Nat.le_of_ble_eq_true rfl)
  rw [lg_entry_eq]
  generalize (lg_sl ([.ref h]) ++ List.replicate (1 - (lg_sl ([.ref h])).length) Slot.unset).toArray = ls at hl ⊢
  exact tX5_placeHere_e hC hK hA  f_size f_at r_places _ _ ls hw hP hD va_S.rf hl

/-! X5_take -/
def wX5_take (Q : Int32 → Int32 → Prop) (x1 : Int32) (f_size : Int32) (f_at : Int32) (r_tokens : Nat → Int32) : Prop :=
  ((f_size ≤ f_at → (Q (0 : Int32) f_at)) ∧ (¬ f_size ≤ f_at → (vp_in f_at 401 ∧ ((¬ (r_tokens f_at.toNatClampNeg) = x1 → (Q (0 : Int32) f_at)) ∧ ((r_tokens f_at.toNatClampNeg) = x1 → ((¬ x1 = (257 : Int32) → (Q (1 : Int32) (f_at + (1 : Int32)))) ∧ (x1 = (257 : Int32) → (Q (0 : Int32) f_at))))))))
abbrev vX5_take (cI cZ : ClassId) (h h_tokens h_places h_values h_steps h_ends h_acts h_numbers : Nat) (f_stepped : Int32) (f_lines : Int32) (f_fault : Int32) (f_place : Int32) (f_size : Int32) (f_at : Int32) (r_tokens : Nat → Int32) : va_W := [(h, .inr (5, [.ref h_tokens, .ref h_places, .ref h_values, .int f_size, .int f_at, .ref h_steps, .ref h_ends, .ref h_acts, .ref h_numbers, .int f_stepped, .int f_lines, .int f_fault, .int f_place])), (h_tokens, .inl (cI, 401, .inl r_tokens))]
abbrev rmX5_take : Room := { frames := 0, cells := 0, slots := 0, locals := 0 }
abbrev qX5_take (dC : Nat → ClassId) (dI : Nat → Nat → Nat) (cI cZ cO cW : ClassId) (h h_tokens h_places h_values h_steps h_ends h_acts h_numbers : Nat) (f_stepped : Int32) (f_lines : Int32) (f_fault : Int32) (f_place : Int32) (f_size : Int32) (r_tokens : Nat → Int32) (Q : Int32 → Int32 → Prop) (A : Nat → Prop) : Array Value → State → Outcome → State → Prop := va_Qi (fun (r : Int32) (u : Int32) => Q r u) (fun (u : Int32) (t : State) => va_P (dC, dI) vwCl (vX5_take cI cZ h h_tokens h_places h_values h_steps h_ends h_acts h_numbers f_stepped f_lines f_fault f_place f_size u r_tokens) t.heap ∧ va_K (dC, dI) vwCl (tysA cI cZ cO cW) t ∧ va_D A (vX5_take cI cZ h h_tokens h_places h_values h_steps h_ends h_acts h_numbers f_stepped f_lines f_fault f_place f_size u r_tokens)) A
def zsX5_take : List Cond := Cond.code yX5_take cX5_take 2 (some .boolean) :: GW
set_option maxHeartbeats 4000000 in
set_option maxRecDepth 100000 in
theorem tX5_take_e {p : Program} {l : Launch} {e : Env} {s : State} {m : MethodId} {args : Array Value} {below : List Frame} {meth : Method} {c : Code} {dC : Nat → ClassId} {dI : Nat → Nat → Nat} {cI cZ cO cW : ClassId} {A : Nat → Prop} {h h_tokens h_places h_values h_steps h_ends h_acts h_numbers : Nat} {f_stepped f_lines f_fault f_place : Int32} {Q : Int32 → Int32 → Prop} (hC : Cx p s m args meth c cX5_take (some .boolean) 2 GW RX5) (hK : va_K (dC, dI) vwCl (tysA cI cZ cO cW) s) (hA : ∀ q : Nat, s.heap.size ≤ q → A q) :
    ∀ (x1 : Int32) (f_size : Int32) (f_at : Int32) (r_tokens : Nat → Int32) (H : Heap) (locs : List Loc) (ls : Array Slot), wX5_take Q x1 f_size f_at r_tokens → va_P (dC, dI) vwCl (vX5_take cI cZ h h_tokens h_places h_values h_steps h_ends h_acts h_numbers f_stepped f_lines f_fault f_place f_size f_at r_tokens) H → va_D A (vX5_take cI cZ h h_tokens h_places h_values h_steps h_ends h_acts h_numbers f_stepped f_lines f_fault f_place f_size f_at r_tokens) → va_S A s.heap H locs → lv_has ls 2 [(0, .ref h), (1, .int x1)] → W p l e rmX5_take s m args below meth c H locs 0 0 (MQ below (qX5_take dC dI cI cZ cO cW h h_tokens h_places h_values h_steps h_ends h_acts h_numbers f_stepped f_lines f_fault f_place f_size r_tokens Q A) args s 0 0 A) (F0 m 0 ls []) := by
  obtain ⟨hx, hb, hr, hml, hown, hts, hlocks⟩ := id hC
  intro x1 f_size f_at r_tokens H locs ls hw hP hD hS hl
  refine lv_aload_n hx hb dX5_take_0 rfl (lv_at hl 0 rfl) ?_
  refine va_get (D := (dC, dI)) (ci := 5) (v := .int f_at) (C := RX5) (T := TX5) (N := 13) hx hb hts gu_X5 hown hK hP 0 rfl rfl 4 (by decide) (hts _ gw_261) (fun _ h9 => h9) rfl dX5_take_1 ?_
  refine lv_aload_n hx hb dX5_take_4 rfl (lv_at hl 0 rfl) ?_
  refine va_get (D := (dC, dI)) (ci := 5) (v := .int f_size) (C := RX5) (T := TX5) (N := 13) hx hb hts gu_X5 hown hK hP 0 rfl rfl 3 (by decide) (hts _ gw_260) (fun _ h9 => h9) rfl dX5_take_5 ?_
  refine lv_icmp_ge (tgt := 31) hx hb dX5_take_8 (by decide) (fun c_1 => ?_) (fun c_1 => ?_)
  · have hw := hw.1 c_1
    refine lv_iconst (v := (0 : Int32)) hx hb dX5_take_31 (by decide) ?_
    have hP9 := hP.sub (ws' := (vX5_take cI cZ h h_tokens h_places h_values h_steps h_ends h_acts h_numbers f_stepped f_lines f_fault f_place f_size f_at r_tokens)) [0, 1] rfl
    have hD9 := hD.sub (ws' := (vX5_take cI cZ h h_tokens h_places h_values h_steps h_ends h_acts h_numbers f_stepped f_lines f_fault f_place f_size f_at r_tokens)) [0, 1] (by decide) rfl
    exact W.zret (v := (0 : Int32)) (ty := .boolean) hx hb hr rfl (fun t ht hW => ⟨⟨(0 : Int32), f_at, rfl, hw, by rw [ht]; exact hP9, va_K.moved hW.alike hK, hD9⟩, hS.F ht⟩) hS.2.2 dX5_take_32
  · have hw := hw.2 c_1
    refine lv_aload_n hx hb dX5_take_11 rfl (lv_at hl 0 rfl) ?_
    refine va_get (D := (dC, dI)) (ci := 5) (v := .ref h_tokens) (C := RX5) (T := TX5) (N := 13) hx hb hts gu_X5 hown hK hP 0 rfl rfl 0 (by decide) (hts _ gw_257) (fun _ h9 => h9) rfl dX5_take_12 ?_
    refine lv_aload_n hx hb dX5_take_15 rfl (lv_at hl 0 rfl) ?_
    refine va_get (D := (dC, dI)) (ci := 5) (v := .int f_at) (C := RX5) (T := TX5) (N := 13) hx hb hts gu_X5 hown hK hP 0 rfl rfl 4 (by decide) (hts _ gw_261) (fun _ h9 => h9) rfl dX5_take_16 ?_
    obtain ⟨h_2, hw⟩ := hw
    refine va_iald hx hb hK hP 1 0 rfl rfl h_2 dX5_take_19 ?_
    refine lv_iload_n hx hb dX5_take_20 rfl (lv_at hl 1 rfl) ?_
    refine lv_icmp_ne (tgt := 31) hx hb dX5_take_21 (by decide) (fun c_3 => ?_) (fun c_3 => ?_)
    · have hw := hw.1 c_3
      refine lv_iconst (v := (0 : Int32)) hx hb dX5_take_31 (by decide) ?_
      have hP9 := hP.sub (ws' := (vX5_take cI cZ h h_tokens h_places h_values h_steps h_ends h_acts h_numbers f_stepped f_lines f_fault f_place f_size f_at r_tokens)) [0, 1] rfl
      have hD9 := hD.sub (ws' := (vX5_take cI cZ h h_tokens h_places h_values h_steps h_ends h_acts h_numbers f_stepped f_lines f_fault f_place f_size f_at r_tokens)) [0, 1] (by decide) rfl
      exact W.zret (v := (0 : Int32)) (ty := .boolean) hx hb hr rfl (fun t ht hW => ⟨⟨(0 : Int32), f_at, rfl, hw, by rw [ht]; exact hP9, va_K.moved hW.alike hK, hD9⟩, hS.F ht⟩) hS.2.2 dX5_take_32
    · have hw := hw.2 c_3
      refine lv_iload_n hx hb dX5_take_24 rfl (lv_at hl 1 rfl) ?_
      refine lv_sipush (v := (257 : Int32)) hx hb dX5_take_25 (by decide) ?_
      refine lv_icmp_ne (tgt := 33) hx hb dX5_take_28 (by decide) (fun c_4 => ?_) (fun c_4 => ?_)
      · have hw := hw.1 c_4
        refine lv_aload_n hx hb dX5_take_33 rfl (lv_at hl 0 rfl) ?_
        refine lv_dup hx hb dX5_take_34 rfl ?_
        refine va_get (D := (dC, dI)) (ci := 5) (v := .int f_at) (C := RX5) (T := TX5) (N := 13) hx hb hts gu_X5 hown hK hP 0 rfl rfl 4 (by decide) (hts _ gw_261) (fun _ h9 => h9) rfl dX5_take_35 ?_
        refine lv_iconst (v := (1 : Int32)) hx hb dX5_take_38 (by decide) ?_
        refine lv_iadd hx hb dX5_take_39 ?_
        refine va_put (D := (dC, dI)) (ci := 5) (v := .int (f_at + (1 : Int32))) (ty := .int) (C := RX5) (T := TX5) (N := 13) hx hb hts gu_X5 tyX5 tyX5_ok nmX5 hown hK hP hD hS 0 rfl rfl 4 (by decide) (hts _ gw_261) (fun _ h9 => h9) rfl (tyX5_ok 4 (by decide)) rfl rfl (Nat.le_of_ble_eq_true rfl) dX5_take_40 (fun H locs hP hD hS => ?_)
        have hP : va_P (dC, dI) vwCl [(h, .inr (5, [.ref h_tokens, .ref h_places, .ref h_values, .int f_size, .int (f_at + (1 : Int32)), .ref h_steps, .ref h_ends, .ref h_acts, .ref h_numbers, .int f_stepped, .int f_lines, .int f_fault, .int f_place])), (h_tokens, .inl (cI, 401, .inl r_tokens))] _ := hP
        have hD : va_D A [(h, .inr (5, [.ref h_tokens, .ref h_places, .ref h_values, .int f_size, .int (f_at + (1 : Int32)), .ref h_steps, .ref h_ends, .ref h_acts, .ref h_numbers, .int f_stepped, .int f_lines, .int f_fault, .int f_place])), (h_tokens, .inl (cI, 401, .inl r_tokens))] := hD
        refine lv_iconst (v := (1 : Int32)) hx hb dX5_take_43 (by decide) ?_
        have hP9 := hP.sub (ws' := (vX5_take cI cZ h h_tokens h_places h_values h_steps h_ends h_acts h_numbers f_stepped f_lines f_fault f_place f_size (f_at + (1 : Int32)) r_tokens)) [0, 1] rfl
        have hD9 := hD.sub (ws' := (vX5_take cI cZ h h_tokens h_places h_values h_steps h_ends h_acts h_numbers f_stepped f_lines f_fault f_place f_size (f_at + (1 : Int32)) r_tokens)) [0, 1] (by decide) rfl
        exact W.zret (v := (1 : Int32)) (ty := .boolean) hx hb hr rfl (fun t ht hW => ⟨⟨(1 : Int32), (f_at + (1 : Int32)), rfl, hw, by rw [ht]; exact hP9, va_K.moved hW.alike hK, hD9⟩, hS.F ht⟩) hS.2.2 dX5_take_44
      · have hw := hw.2 c_4
        refine lv_iconst (v := (0 : Int32)) hx hb dX5_take_31 (by decide) ?_
        have hP9 := hP.sub (ws' := (vX5_take cI cZ h h_tokens h_places h_values h_steps h_ends h_acts h_numbers f_stepped f_lines f_fault f_place f_size f_at r_tokens)) [0, 1] rfl
        have hD9 := hD.sub (ws' := (vX5_take cI cZ h h_tokens h_places h_values h_steps h_ends h_acts h_numbers f_stepped f_lines f_fault f_place f_size f_at r_tokens)) [0, 1] (by decide) rfl
        exact W.zret (v := (0 : Int32)) (ty := .boolean) hx hb hr rfl (fun t ht hW => ⟨⟨(0 : Int32), f_at, rfl, hw, by rw [ht]; exact hP9, va_K.moved hW.alike hK, hD9⟩, hS.F ht⟩) hS.2.2 dX5_take_32
set_option maxHeartbeats 4000000 in
set_option maxRecDepth 100000 in
theorem kX5_take (l : Launch) (dC : Nat → ClassId) (dI : Nat → Nat → Nat) (cI cZ cO cW : ClassId) (h h_tokens h_places h_values h_steps h_ends h_acts h_numbers : Nat)  (sz : Nat) (f_stepped : Int32) (f_lines : Int32) (f_fault : Int32) (f_place : Int32) (f_size : Int32) (f_at : Int32) (r_tokens : Nat → Int32) (x1 : Int32) (Q : Int32 → Int32 → Prop) (hw : wX5_take Q x1 f_size f_at r_tokens) : Met l yX5_take zsX5_take rmX5_take (va_Pc [.ref h, .int x1] (fun U => U.heap.size = sz ∧ va_P (dC, dI) vwCl (vX5_take cI cZ h h_tokens h_places h_values h_steps h_ends h_acts h_numbers f_stepped f_lines f_fault f_place f_size f_at r_tokens) U.heap ∧ va_K (dC, dI) vwCl (tysA cI cZ cO cW) U ∧ va_D (fun _ => True) (vX5_take cI cZ h h_tokens h_places h_values h_steps h_ends h_acts h_numbers f_stepped f_lines f_fault f_place f_size f_at r_tokens))) (qX5_take dC dI cI cZ cO cW h h_tokens h_places h_values h_steps h_ends h_acts h_numbers f_stepped f_lines f_fault f_place f_size r_tokens Q (va_A (vX5_take cI cZ h h_tokens h_places h_values h_steps h_ends h_acts h_numbers f_stepped f_lines f_fault f_place f_size f_at r_tokens) sz)) 0 0 (va_A (vX5_take cI cZ h h_tokens h_places h_values h_steps h_ends h_acts h_numbers f_stepped f_lines f_fault f_place f_size f_at r_tokens) sz) := by
  refine Met.ofW (cc := cX5_take) (maxL := 2) (ret := (some .boolean)) (by decide) rfl ?_
  intro p e s m args below meth c s₁ B hml hv
  obtain ⟨rfl, hsz, hP, hK, hD0⟩ := hv
  subst hsz
  have hC : Cx p s m ([.ref h, .int x1] : List Value).toArray meth c cX5_take (some .boolean) 2 GW RX5 := ⟨B.exec, B.bytes, B.returns, hml, findClass_of_methodNamed B.named, fun w h => atoms_spec (ws := zsX5_take) B.pre w (List.mem_cons_of_mem _ h), B.notSynchronized⟩
  have hD := hD0.self (sz := s.heap.size)
  generalize hAe : va_A (vX5_take cI cZ h h_tokens h_places h_values h_steps h_ends h_acts h_numbers f_stepped f_lines f_fault f_place f_size f_at r_tokens) s.heap.size = A at hD ⊢
  have hA : ∀ q : Nat, s.heap.size ≤ q → A q := fun q h => by rw [← hAe]; exact Or.inr h
  have hl := lv_entry ([.ref h, .int x1]) (n := 2) (Nat.le_of_ble_eq_true rfl)
  rw [lg_entry_eq]
  generalize (lg_sl ([.ref h, .int x1]) ++ List.replicate (2 - (lg_sl ([.ref h, .int x1])).length) Slot.unset).toArray = ls at hl ⊢
  exact tX5_take_e hC hK hA x1 f_size f_at r_tokens _ _ ls hw hP hD va_S.rf hl

/-! X5_takeNumber -/
def wX5_takeNumber (Q : Int32 → Int32 → Prop)  (f_size : Int32) (f_at : Int32) (r_tokens : Nat → Int32) (r_values : Nat → Int32) : Prop :=
  ((f_size ≤ f_at → (Q (-1 : Int32) f_at)) ∧ (¬ f_size ≤ f_at → (vp_in f_at 401 ∧ (((r_tokens f_at.toNatClampNeg) = (256 : Int32) → (vp_in ((f_at + (1 : Int32)) - (1 : Int32)) 401 ∧ (Q (r_values ((f_at + (1 : Int32)) - (1 : Int32)).toNatClampNeg) (f_at + (1 : Int32))))) ∧ (¬ (r_tokens f_at.toNatClampNeg) = (256 : Int32) → (Q (-1 : Int32) f_at))))))
abbrev vX5_takeNumber (cI cZ : ClassId) (h h_tokens h_places h_values h_steps h_ends h_acts h_numbers : Nat) (f_stepped : Int32) (f_lines : Int32) (f_fault : Int32) (f_place : Int32) (f_size : Int32) (f_at : Int32) (r_tokens : Nat → Int32) (r_values : Nat → Int32) : va_W := [(h, .inr (5, [.ref h_tokens, .ref h_places, .ref h_values, .int f_size, .int f_at, .ref h_steps, .ref h_ends, .ref h_acts, .ref h_numbers, .int f_stepped, .int f_lines, .int f_fault, .int f_place])), (h_tokens, .inl (cI, 401, .inl r_tokens)), (h_values, .inl (cI, 401, .inl r_values))]
abbrev rmX5_takeNumber : Room := { frames := 0, cells := 0, slots := 0, locals := 0 }
abbrev qX5_takeNumber (dC : Nat → ClassId) (dI : Nat → Nat → Nat) (cI cZ cO cW : ClassId) (h h_tokens h_places h_values h_steps h_ends h_acts h_numbers : Nat) (f_stepped : Int32) (f_lines : Int32) (f_fault : Int32) (f_place : Int32) (f_size : Int32) (r_tokens : Nat → Int32) (r_values : Nat → Int32) (Q : Int32 → Int32 → Prop) (A : Nat → Prop) : Array Value → State → Outcome → State → Prop := va_Qi (fun (r : Int32) (u : Int32) => Q r u) (fun (u : Int32) (t : State) => va_P (dC, dI) vwCl (vX5_takeNumber cI cZ h h_tokens h_places h_values h_steps h_ends h_acts h_numbers f_stepped f_lines f_fault f_place f_size u r_tokens r_values) t.heap ∧ va_K (dC, dI) vwCl (tysA cI cZ cO cW) t ∧ va_D A (vX5_takeNumber cI cZ h h_tokens h_places h_values h_steps h_ends h_acts h_numbers f_stepped f_lines f_fault f_place f_size u r_tokens r_values)) A
def zsX5_takeNumber : List Cond := Cond.code yX5_takeNumber cX5_takeNumber 1 (some .int) :: GW
set_option maxHeartbeats 4000000 in
set_option maxRecDepth 100000 in
theorem tX5_takeNumber_e {p : Program} {l : Launch} {e : Env} {s : State} {m : MethodId} {args : Array Value} {below : List Frame} {meth : Method} {c : Code} {dC : Nat → ClassId} {dI : Nat → Nat → Nat} {cI cZ cO cW : ClassId} {A : Nat → Prop} {h h_tokens h_places h_values h_steps h_ends h_acts h_numbers : Nat} {f_stepped f_lines f_fault f_place : Int32} {Q : Int32 → Int32 → Prop} (hC : Cx p s m args meth c cX5_takeNumber (some .int) 1 GW RX5) (hK : va_K (dC, dI) vwCl (tysA cI cZ cO cW) s) (hA : ∀ q : Nat, s.heap.size ≤ q → A q) :
    ∀ (f_size : Int32) (f_at : Int32) (r_tokens : Nat → Int32) (r_values : Nat → Int32) (H : Heap) (locs : List Loc) (ls : Array Slot), wX5_takeNumber Q  f_size f_at r_tokens r_values → va_P (dC, dI) vwCl (vX5_takeNumber cI cZ h h_tokens h_places h_values h_steps h_ends h_acts h_numbers f_stepped f_lines f_fault f_place f_size f_at r_tokens r_values) H → va_D A (vX5_takeNumber cI cZ h h_tokens h_places h_values h_steps h_ends h_acts h_numbers f_stepped f_lines f_fault f_place f_size f_at r_tokens r_values) → va_S A s.heap H locs → lv_has ls 1 [(0, .ref h)] → W p l e rmX5_takeNumber s m args below meth c H locs 0 0 (MQ below (qX5_takeNumber dC dI cI cZ cO cW h h_tokens h_places h_values h_steps h_ends h_acts h_numbers f_stepped f_lines f_fault f_place f_size r_tokens r_values Q A) args s 0 0 A) (F0 m 0 ls []) := by
  obtain ⟨hx, hb, hr, hml, hown, hts, hlocks⟩ := id hC
  intro  f_size f_at r_tokens r_values H locs ls hw hP hD hS hl
  refine lv_aload_n hx hb dX5_takeNumber_0 rfl (lv_at hl 0 rfl) ?_
  refine va_get (D := (dC, dI)) (ci := 5) (v := .int f_at) (C := RX5) (T := TX5) (N := 13) hx hb hts gu_X5 hown hK hP 0 rfl rfl 4 (by decide) (hts _ gw_261) (fun _ h9 => h9) rfl dX5_takeNumber_1 ?_
  refine lv_aload_n hx hb dX5_takeNumber_4 rfl (lv_at hl 0 rfl) ?_
  refine va_get (D := (dC, dI)) (ci := 5) (v := .int f_size) (C := RX5) (T := TX5) (N := 13) hx hb hts gu_X5 hown hK hP 0 rfl rfl 3 (by decide) (hts _ gw_260) (fun _ h9 => h9) rfl dX5_takeNumber_5 ?_
  refine lv_icmp_ge (tgt := 26) hx hb dX5_takeNumber_8 (by decide) (fun c_1 => ?_) (fun c_1 => ?_)
  · have hw := hw.1 c_1
    refine lv_iconst (v := (-1 : Int32)) hx hb dX5_takeNumber_26 (by decide) ?_
    have hP9 := hP.sub (ws' := (vX5_takeNumber cI cZ h h_tokens h_places h_values h_steps h_ends h_acts h_numbers f_stepped f_lines f_fault f_place f_size f_at r_tokens r_values)) [0, 1, 2] rfl
    have hD9 := hD.sub (ws' := (vX5_takeNumber cI cZ h h_tokens h_places h_values h_steps h_ends h_acts h_numbers f_stepped f_lines f_fault f_place f_size f_at r_tokens r_values)) [0, 1, 2] (by decide) rfl
    exact W.iret (v := (-1 : Int32)) hx hb hr (fun t ht hW => ⟨⟨(-1 : Int32), f_at, rfl, hw, by rw [ht]; exact hP9, va_K.moved hW.alike hK, hD9⟩, hS.F ht⟩) hS.2.2 dX5_takeNumber_27
  · have hw := hw.2 c_1
    refine lv_aload_n hx hb dX5_takeNumber_11 rfl (lv_at hl 0 rfl) ?_
    refine va_get (D := (dC, dI)) (ci := 5) (v := .ref h_tokens) (C := RX5) (T := TX5) (N := 13) hx hb hts gu_X5 hown hK hP 0 rfl rfl 0 (by decide) (hts _ gw_257) (fun _ h9 => h9) rfl dX5_takeNumber_12 ?_
    refine lv_aload_n hx hb dX5_takeNumber_15 rfl (lv_at hl 0 rfl) ?_
    refine va_get (D := (dC, dI)) (ci := 5) (v := .int f_at) (C := RX5) (T := TX5) (N := 13) hx hb hts gu_X5 hown hK hP 0 rfl rfl 4 (by decide) (hts _ gw_261) (fun _ h9 => h9) rfl dX5_takeNumber_16 ?_
    obtain ⟨h_2, hw⟩ := hw
    refine va_iald hx hb hK hP 1 0 rfl rfl h_2 dX5_takeNumber_19 ?_
    refine lv_sipush (v := (256 : Int32)) hx hb dX5_takeNumber_20 (by decide) ?_
    refine lv_icmp_eq (tgt := 28) hx hb dX5_takeNumber_23 (by decide) (fun c_3 => ?_) (fun c_3 => ?_)
    · have hw := hw.1 c_3
      refine lv_aload_n hx hb dX5_takeNumber_28 rfl (lv_at hl 0 rfl) ?_
      refine lv_dup hx hb dX5_takeNumber_29 rfl ?_
      refine va_get (D := (dC, dI)) (ci := 5) (v := .int f_at) (C := RX5) (T := TX5) (N := 13) hx hb hts gu_X5 hown hK hP 0 rfl rfl 4 (by decide) (hts _ gw_261) (fun _ h9 => h9) rfl dX5_takeNumber_30 ?_
      refine lv_iconst (v := (1 : Int32)) hx hb dX5_takeNumber_33 (by decide) ?_
      refine lv_iadd hx hb dX5_takeNumber_34 ?_
      refine va_put (D := (dC, dI)) (ci := 5) (v := .int (f_at + (1 : Int32))) (ty := .int) (C := RX5) (T := TX5) (N := 13) hx hb hts gu_X5 tyX5 tyX5_ok nmX5 hown hK hP hD hS 0 rfl rfl 4 (by decide) (hts _ gw_261) (fun _ h9 => h9) rfl (tyX5_ok 4 (by decide)) rfl rfl (Nat.le_of_ble_eq_true rfl) dX5_takeNumber_35 (fun H locs hP hD hS => ?_)
      have hP : va_P (dC, dI) vwCl [(h, .inr (5, [.ref h_tokens, .ref h_places, .ref h_values, .int f_size, .int (f_at + (1 : Int32)), .ref h_steps, .ref h_ends, .ref h_acts, .ref h_numbers, .int f_stepped, .int f_lines, .int f_fault, .int f_place])), (h_tokens, .inl (cI, 401, .inl r_tokens)), (h_values, .inl (cI, 401, .inl r_values))] _ := hP
      have hD : va_D A [(h, .inr (5, [.ref h_tokens, .ref h_places, .ref h_values, .int f_size, .int (f_at + (1 : Int32)), .ref h_steps, .ref h_ends, .ref h_acts, .ref h_numbers, .int f_stepped, .int f_lines, .int f_fault, .int f_place])), (h_tokens, .inl (cI, 401, .inl r_tokens)), (h_values, .inl (cI, 401, .inl r_values))] := hD
      refine lv_aload_n hx hb dX5_takeNumber_38 rfl (lv_at hl 0 rfl) ?_
      refine va_get (D := (dC, dI)) (ci := 5) (v := .ref h_values) (C := RX5) (T := TX5) (N := 13) hx hb hts gu_X5 hown hK hP 0 rfl rfl 2 (by decide) (hts _ gw_259) (fun _ h9 => h9) rfl dX5_takeNumber_39 ?_
      refine lv_aload_n hx hb dX5_takeNumber_42 rfl (lv_at hl 0 rfl) ?_
      refine va_get (D := (dC, dI)) (ci := 5) (v := .int (f_at + (1 : Int32))) (C := RX5) (T := TX5) (N := 13) hx hb hts gu_X5 hown hK hP 0 rfl rfl 4 (by decide) (hts _ gw_261) (fun _ h9 => h9) rfl dX5_takeNumber_43 ?_
      refine lv_iconst (v := (1 : Int32)) hx hb dX5_takeNumber_46 (by decide) ?_
      refine lv_isub hx hb dX5_takeNumber_47 ?_
      obtain ⟨h_4, hw⟩ := hw
      refine va_iald hx hb hK hP 2 0 rfl rfl h_4 dX5_takeNumber_48 ?_
      have hP9 := hP.sub (ws' := (vX5_takeNumber cI cZ h h_tokens h_places h_values h_steps h_ends h_acts h_numbers f_stepped f_lines f_fault f_place f_size (f_at + (1 : Int32)) r_tokens r_values)) [0, 1, 2] rfl
      have hD9 := hD.sub (ws' := (vX5_takeNumber cI cZ h h_tokens h_places h_values h_steps h_ends h_acts h_numbers f_stepped f_lines f_fault f_place f_size (f_at + (1 : Int32)) r_tokens r_values)) [0, 1, 2] (by decide) rfl
      exact W.iret (v := (r_values ((f_at + (1 : Int32)) - (1 : Int32)).toNatClampNeg)) hx hb hr (fun t ht hW => ⟨⟨(r_values ((f_at + (1 : Int32)) - (1 : Int32)).toNatClampNeg), (f_at + (1 : Int32)), rfl, hw, by rw [ht]; exact hP9, va_K.moved hW.alike hK, hD9⟩, hS.F ht⟩) hS.2.2 dX5_takeNumber_49
    · have hw := hw.2 c_3
      refine lv_iconst (v := (-1 : Int32)) hx hb dX5_takeNumber_26 (by decide) ?_
      have hP9 := hP.sub (ws' := (vX5_takeNumber cI cZ h h_tokens h_places h_values h_steps h_ends h_acts h_numbers f_stepped f_lines f_fault f_place f_size f_at r_tokens r_values)) [0, 1, 2] rfl
      have hD9 := hD.sub (ws' := (vX5_takeNumber cI cZ h h_tokens h_places h_values h_steps h_ends h_acts h_numbers f_stepped f_lines f_fault f_place f_size f_at r_tokens r_values)) [0, 1, 2] (by decide) rfl
      exact W.iret (v := (-1 : Int32)) hx hb hr (fun t ht hW => ⟨⟨(-1 : Int32), f_at, rfl, hw, by rw [ht]; exact hP9, va_K.moved hW.alike hK, hD9⟩, hS.F ht⟩) hS.2.2 dX5_takeNumber_27
set_option maxHeartbeats 4000000 in
set_option maxRecDepth 100000 in
theorem kX5_takeNumber (l : Launch) (dC : Nat → ClassId) (dI : Nat → Nat → Nat) (cI cZ cO cW : ClassId) (h h_tokens h_places h_values h_steps h_ends h_acts h_numbers : Nat)  (sz : Nat) (f_stepped : Int32) (f_lines : Int32) (f_fault : Int32) (f_place : Int32) (f_size : Int32) (f_at : Int32) (r_tokens : Nat → Int32) (r_values : Nat → Int32)  (Q : Int32 → Int32 → Prop) (hw : wX5_takeNumber Q  f_size f_at r_tokens r_values) : Met l yX5_takeNumber zsX5_takeNumber rmX5_takeNumber (va_Pc [.ref h] (fun U => U.heap.size = sz ∧ va_P (dC, dI) vwCl (vX5_takeNumber cI cZ h h_tokens h_places h_values h_steps h_ends h_acts h_numbers f_stepped f_lines f_fault f_place f_size f_at r_tokens r_values) U.heap ∧ va_K (dC, dI) vwCl (tysA cI cZ cO cW) U ∧ va_D (fun _ => True) (vX5_takeNumber cI cZ h h_tokens h_places h_values h_steps h_ends h_acts h_numbers f_stepped f_lines f_fault f_place f_size f_at r_tokens r_values))) (qX5_takeNumber dC dI cI cZ cO cW h h_tokens h_places h_values h_steps h_ends h_acts h_numbers f_stepped f_lines f_fault f_place f_size r_tokens r_values Q (va_A (vX5_takeNumber cI cZ h h_tokens h_places h_values h_steps h_ends h_acts h_numbers f_stepped f_lines f_fault f_place f_size f_at r_tokens r_values) sz)) 0 0 (va_A (vX5_takeNumber cI cZ h h_tokens h_places h_values h_steps h_ends h_acts h_numbers f_stepped f_lines f_fault f_place f_size f_at r_tokens r_values) sz) := by
  refine Met.ofW (cc := cX5_takeNumber) (maxL := 1) (ret := (some .int)) (by decide) rfl ?_
  intro p e s m args below meth c s₁ B hml hv
  obtain ⟨rfl, hsz, hP, hK, hD0⟩ := hv
  subst hsz
  have hC : Cx p s m ([.ref h] : List Value).toArray meth c cX5_takeNumber (some .int) 1 GW RX5 := ⟨B.exec, B.bytes, B.returns, hml, findClass_of_methodNamed B.named, fun w h => atoms_spec (ws := zsX5_takeNumber) B.pre w (List.mem_cons_of_mem _ h), B.notSynchronized⟩
  have hD := hD0.self (sz := s.heap.size)
  generalize hAe : va_A (vX5_takeNumber cI cZ h h_tokens h_places h_values h_steps h_ends h_acts h_numbers f_stepped f_lines f_fault f_place f_size f_at r_tokens r_values) s.heap.size = A at hD ⊢
  have hA : ∀ q : Nat, s.heap.size ≤ q → A q := fun q h => by rw [← hAe]; exact Or.inr h
  have hl := lv_entry ([.ref h]) (n := 1) (Nat.le_of_ble_eq_true rfl)
  rw [lg_entry_eq]
  generalize (lg_sl ([.ref h]) ++ List.replicate (1 - (lg_sl ([.ref h])).length) Slot.unset).toArray = ls at hl ⊢
  exact tX5_takeNumber_e hC hK hA  f_size f_at r_tokens r_values _ _ ls hw hP hD va_S.rf hl

/-! X5_keepLine -/
def wX5_keepLine_42 (Q : Int32 → (Nat → Int32) → (Nat → Int32) → (Nat → Int32) → Prop)   (f_stepped : Int32) (f_lines : Int32) (r_acts : (Nat → Int32)) (r_ends : (Nat → Int32)) (r_numbers : (Nat → Int32)) : Prop :=
  (Q (f_lines + (1 : Int32)) r_acts r_ends r_numbers)
def wX5_keepLine (Q : Int32 → (Nat → Int32) → (Nat → Int32) → (Nat → Int32) → Prop) (x1 : Int32) (x2 : Int32) (f_stepped : Int32) (f_lines : Int32) (r_acts : Nat → Int32) (r_ends : Nat → Int32) (r_numbers : Nat → Int32) : Prop :=
  (((20 : Int32) ≤ f_lines → (wX5_keepLine_42 Q f_stepped f_lines r_acts r_ends r_numbers)) ∧ (¬ (20 : Int32) ≤ f_lines → (vp_in f_lines 20 ∧ (vp_in f_lines 20 ∧ (vp_in f_lines 20 ∧ (wX5_keepLine_42 Q f_stepped f_lines (upd r_acts f_lines.toNatClampNeg x1) (upd r_ends f_lines.toNatClampNeg f_stepped) (upd r_numbers f_lines.toNatClampNeg x2)))))))
abbrev vX5_keepLine (cI cZ : ClassId) (h h_tokens h_places h_values h_steps h_ends h_acts h_numbers : Nat) (f_size : Int32) (f_at : Int32) (f_fault : Int32) (f_place : Int32) (f_stepped : Int32) (f_lines : Int32) (r_acts : Nat → Int32) (r_ends : Nat → Int32) (r_numbers : Nat → Int32) : va_W := [(h, .inr (5, [.ref h_tokens, .ref h_places, .ref h_values, .int f_size, .int f_at, .ref h_steps, .ref h_ends, .ref h_acts, .ref h_numbers, .int f_stepped, .int f_lines, .int f_fault, .int f_place])), (h_acts, .inl (cI, 20, .inl r_acts)), (h_ends, .inl (cI, 20, .inl r_ends)), (h_numbers, .inl (cI, 20, .inl r_numbers))]
abbrev rmX5_keepLine : Room := { frames := 0, cells := 0, slots := 0, locals := 0 }
abbrev qX5_keepLine (dC : Nat → ClassId) (dI : Nat → Nat → Nat) (cI cZ cO cW : ClassId) (h h_tokens h_places h_values h_steps h_ends h_acts h_numbers : Nat) (f_size : Int32) (f_at : Int32) (f_fault : Int32) (f_place : Int32) (f_stepped : Int32) (Q : Int32 → (Nat → Int32) → (Nat → Int32) → (Nat → Int32) → Prop) (A : Nat → Prop) : Array Value → State → Outcome → State → Prop := va_Qv (fun (u : Int32 × (Nat → Int32) × (Nat → Int32) × (Nat → Int32)) => Q u.1 u.2.1 u.2.2.1 u.2.2.2) (fun (u : Int32 × (Nat → Int32) × (Nat → Int32) × (Nat → Int32)) (t : State) => va_P (dC, dI) vwCl (vX5_keepLine cI cZ h h_tokens h_places h_values h_steps h_ends h_acts h_numbers f_size f_at f_fault f_place f_stepped u.1 u.2.1 u.2.2.1 u.2.2.2) t.heap ∧ va_K (dC, dI) vwCl (tysA cI cZ cO cW) t ∧ va_D A (vX5_keepLine cI cZ h h_tokens h_places h_values h_steps h_ends h_acts h_numbers f_size f_at f_fault f_place f_stepped u.1 u.2.1 u.2.2.1 u.2.2.2)) A
def zsX5_keepLine : List Cond := Cond.code yX5_keepLine cX5_keepLine 3 none :: GW
set_option maxHeartbeats 4000000 in
set_option maxRecDepth 100000 in
theorem tX5_keepLine_42 {p : Program} {l : Launch} {e : Env} {s : State} {m : MethodId} {args : Array Value} {below : List Frame} {meth : Method} {c : Code} {dC : Nat → ClassId} {dI : Nat → Nat → Nat} {cI cZ cO cW : ClassId} {A : Nat → Prop} {h h_tokens h_places h_values h_steps h_ends h_acts h_numbers : Nat} {f_size f_at f_fault f_place : Int32} {Q : Int32 → (Nat → Int32) → (Nat → Int32) → (Nat → Int32) → Prop}  (hC : Cx p s m args meth c cX5_keepLine none 3 GW RX5) (hK : va_K (dC, dI) vwCl (tysA cI cZ cO cW) s) (hA : ∀ q : Nat, s.heap.size ≤ q → A q) :
    ∀ (f_stepped : Int32) (f_lines : Int32) (r_acts : (Nat → Int32)) (r_ends : (Nat → Int32)) (r_numbers : (Nat → Int32)) (H : Heap) (locs : List Loc) (ls : Array Slot), wX5_keepLine_42 Q  f_stepped f_lines r_acts r_ends r_numbers → va_P (dC, dI) vwCl (vX5_keepLine cI cZ h h_tokens h_places h_values h_steps h_ends h_acts h_numbers f_size f_at f_fault f_place f_stepped f_lines r_acts r_ends r_numbers) H → va_D A (vX5_keepLine cI cZ h h_tokens h_places h_values h_steps h_ends h_acts h_numbers f_size f_at f_fault f_place f_stepped f_lines r_acts r_ends r_numbers) → va_S A s.heap H locs → lv_has ls 3 [(0, .ref h)] → W p l e rmX5_keepLine s m args below meth c H locs 0 0 (MQ below (qX5_keepLine dC dI cI cZ cO cW h h_tokens h_places h_values h_steps h_ends h_acts h_numbers f_size f_at f_fault f_place f_stepped Q A) args s 0 0 A) (F0 m 42 ls []) := by
  obtain ⟨hx, hb, hr, hml, hown, hts, hlocks⟩ := id hC
  intro f_stepped f_lines r_acts r_ends r_numbers H locs ls hw hP hD hS hl
  refine lv_aload_n hx hb dX5_keepLine_42 rfl (lv_at hl 0 rfl) ?_
  refine lv_dup hx hb dX5_keepLine_43 rfl ?_
  refine va_get (D := (dC, dI)) (ci := 5) (v := .int f_lines) (C := RX5) (T := TX5) (N := 13) hx hb hts gu_X5 hown hK hP 0 rfl rfl 10 (by decide) (hts _ gw_267) (fun _ h9 => h9) rfl dX5_keepLine_44 ?_
  refine lv_iconst (v := (1 : Int32)) hx hb dX5_keepLine_47 (by decide) ?_
  refine lv_iadd hx hb dX5_keepLine_48 ?_
  refine va_put (D := (dC, dI)) (ci := 5) (v := .int (f_lines + (1 : Int32))) (ty := .int) (C := RX5) (T := TX5) (N := 13) hx hb hts gu_X5 tyX5 tyX5_ok nmX5 hown hK hP hD hS 0 rfl rfl 10 (by decide) (hts _ gw_267) (fun _ h9 => h9) rfl (tyX5_ok 10 (by decide)) rfl rfl (Nat.le_of_ble_eq_true rfl) dX5_keepLine_49 (fun H locs hP hD hS => ?_)
  have hP : va_P (dC, dI) vwCl [(h, .inr (5, [.ref h_tokens, .ref h_places, .ref h_values, .int f_size, .int f_at, .ref h_steps, .ref h_ends, .ref h_acts, .ref h_numbers, .int f_stepped, .int (f_lines + (1 : Int32)), .int f_fault, .int f_place])), (h_acts, .inl (cI, 20, .inl r_acts)), (h_ends, .inl (cI, 20, .inl r_ends)), (h_numbers, .inl (cI, 20, .inl r_numbers))] _ := hP
  have hD : va_D A [(h, .inr (5, [.ref h_tokens, .ref h_places, .ref h_values, .int f_size, .int f_at, .ref h_steps, .ref h_ends, .ref h_acts, .ref h_numbers, .int f_stepped, .int (f_lines + (1 : Int32)), .int f_fault, .int f_place])), (h_acts, .inl (cI, 20, .inl r_acts)), (h_ends, .inl (cI, 20, .inl r_ends)), (h_numbers, .inl (cI, 20, .inl r_numbers))] := hD
  have hP9 := hP.sub (ws' := (vX5_keepLine cI cZ h h_tokens h_places h_values h_steps h_ends h_acts h_numbers f_size f_at f_fault f_place f_stepped (f_lines + (1 : Int32)) r_acts r_ends r_numbers)) [0, 1, 2, 3] rfl
  have hD9 := hD.sub (ws' := (vX5_keepLine cI cZ h h_tokens h_places h_values h_steps h_ends h_acts h_numbers f_size f_at f_fault f_place f_stepped (f_lines + (1 : Int32)) r_acts r_ends r_numbers)) [0, 1, 2, 3] (by decide) rfl
  exact W.vret hx hb hr (fun t ht hW => ⟨⟨((f_lines + (1 : Int32)), r_acts, r_ends, r_numbers), rfl, hw, by rw [ht]; exact hP9, va_K.moved hW.alike hK, hD9⟩, hS.F ht⟩) hS.2.2 dX5_keepLine_52
set_option maxHeartbeats 4000000 in
set_option maxRecDepth 100000 in
theorem tX5_keepLine_e {p : Program} {l : Launch} {e : Env} {s : State} {m : MethodId} {args : Array Value} {below : List Frame} {meth : Method} {c : Code} {dC : Nat → ClassId} {dI : Nat → Nat → Nat} {cI cZ cO cW : ClassId} {A : Nat → Prop} {h h_tokens h_places h_values h_steps h_ends h_acts h_numbers : Nat} {f_size f_at f_fault f_place : Int32} {Q : Int32 → (Nat → Int32) → (Nat → Int32) → (Nat → Int32) → Prop} (hC : Cx p s m args meth c cX5_keepLine none 3 GW RX5) (hK : va_K (dC, dI) vwCl (tysA cI cZ cO cW) s) (hA : ∀ q : Nat, s.heap.size ≤ q → A q) :
    ∀ (x1 : Int32) (x2 : Int32) (f_stepped : Int32) (f_lines : Int32) (r_acts : Nat → Int32) (r_ends : Nat → Int32) (r_numbers : Nat → Int32) (H : Heap) (locs : List Loc) (ls : Array Slot), wX5_keepLine Q x1 x2 f_stepped f_lines r_acts r_ends r_numbers → va_P (dC, dI) vwCl (vX5_keepLine cI cZ h h_tokens h_places h_values h_steps h_ends h_acts h_numbers f_size f_at f_fault f_place f_stepped f_lines r_acts r_ends r_numbers) H → va_D A (vX5_keepLine cI cZ h h_tokens h_places h_values h_steps h_ends h_acts h_numbers f_size f_at f_fault f_place f_stepped f_lines r_acts r_ends r_numbers) → va_S A s.heap H locs → lv_has ls 3 [(0, .ref h), (1, .int x1), (2, .int x2)] → W p l e rmX5_keepLine s m args below meth c H locs 0 0 (MQ below (qX5_keepLine dC dI cI cZ cO cW h h_tokens h_places h_values h_steps h_ends h_acts h_numbers f_size f_at f_fault f_place f_stepped Q A) args s 0 0 A) (F0 m 0 ls []) := by
  obtain ⟨hx, hb, hr, hml, hown, hts, hlocks⟩ := id hC
  intro x1 x2 f_stepped f_lines r_acts r_ends r_numbers H locs ls hw hP hD hS hl
  refine lv_aload_n hx hb dX5_keepLine_0 rfl (lv_at hl 0 rfl) ?_
  refine va_get (D := (dC, dI)) (ci := 5) (v := .int f_lines) (C := RX5) (T := TX5) (N := 13) hx hb hts gu_X5 hown hK hP 0 rfl rfl 10 (by decide) (hts _ gw_267) (fun _ h9 => h9) rfl dX5_keepLine_1 ?_
  refine lv_bipush (v := (20 : Int32)) hx hb dX5_keepLine_4 (by decide) ?_
  refine lv_icmp_ge (tgt := 42) hx hb dX5_keepLine_6 (by decide) (fun c_1 => ?_) (fun c_1 => ?_)
  · have hw := hw.1 c_1
    exact tX5_keepLine_42 hC hK hA  f_stepped f_lines r_acts r_ends r_numbers _ _ ls hw (hP.sub [0, 1, 2, 3] rfl) (hD.sub [0, 1, 2, 3] (by decide) rfl) hS (lv_sub hl [0] rfl)
  · have hw := hw.2 c_1
    refine lv_aload_n hx hb dX5_keepLine_9 rfl (lv_at hl 0 rfl) ?_
    refine va_get (D := (dC, dI)) (ci := 5) (v := .ref h_ends) (C := RX5) (T := TX5) (N := 13) hx hb hts gu_X5 hown hK hP 0 rfl rfl 6 (by decide) (hts _ gw_263) (fun _ h9 => h9) rfl dX5_keepLine_10 ?_
    refine lv_aload_n hx hb dX5_keepLine_13 rfl (lv_at hl 0 rfl) ?_
    refine va_get (D := (dC, dI)) (ci := 5) (v := .int f_lines) (C := RX5) (T := TX5) (N := 13) hx hb hts gu_X5 hown hK hP 0 rfl rfl 10 (by decide) (hts _ gw_267) (fun _ h9 => h9) rfl dX5_keepLine_14 ?_
    refine lv_aload_n hx hb dX5_keepLine_17 rfl (lv_at hl 0 rfl) ?_
    refine va_get (D := (dC, dI)) (ci := 5) (v := .int f_stepped) (C := RX5) (T := TX5) (N := 13) hx hb hts gu_X5 hown hK hP 0 rfl rfl 9 (by decide) (hts _ gw_266) (fun _ h9 => h9) rfl dX5_keepLine_18 ?_
    obtain ⟨h_2, hw⟩ := hw
    refine va_iast hx hb hK hP hD hS 2 0 rfl rfl h_2 dX5_keepLine_21 (fun H locs hP hD hS => ?_)
    have hP : va_P (dC, dI) vwCl [(h, .inr (5, [.ref h_tokens, .ref h_places, .ref h_values, .int f_size, .int f_at, .ref h_steps, .ref h_ends, .ref h_acts, .ref h_numbers, .int f_stepped, .int f_lines, .int f_fault, .int f_place])), (h_acts, .inl (cI, 20, .inl r_acts)), (h_ends, .inl (cI, 20, .inl (upd r_ends f_lines.toNatClampNeg f_stepped))), (h_numbers, .inl (cI, 20, .inl r_numbers))] _ := hP
    have hD : va_D A [(h, .inr (5, [.ref h_tokens, .ref h_places, .ref h_values, .int f_size, .int f_at, .ref h_steps, .ref h_ends, .ref h_acts, .ref h_numbers, .int f_stepped, .int f_lines, .int f_fault, .int f_place])), (h_acts, .inl (cI, 20, .inl r_acts)), (h_ends, .inl (cI, 20, .inl (upd r_ends f_lines.toNatClampNeg f_stepped))), (h_numbers, .inl (cI, 20, .inl r_numbers))] := hD
    refine lv_aload_n hx hb dX5_keepLine_22 rfl (lv_at hl 0 rfl) ?_
    refine va_get (D := (dC, dI)) (ci := 5) (v := .ref h_acts) (C := RX5) (T := TX5) (N := 13) hx hb hts gu_X5 hown hK hP 0 rfl rfl 7 (by decide) (hts _ gw_264) (fun _ h9 => h9) rfl dX5_keepLine_23 ?_
    refine lv_aload_n hx hb dX5_keepLine_26 rfl (lv_at hl 0 rfl) ?_
    refine va_get (D := (dC, dI)) (ci := 5) (v := .int f_lines) (C := RX5) (T := TX5) (N := 13) hx hb hts gu_X5 hown hK hP 0 rfl rfl 10 (by decide) (hts _ gw_267) (fun _ h9 => h9) rfl dX5_keepLine_27 ?_
    refine lv_iload_n hx hb dX5_keepLine_30 rfl (lv_at hl 1 rfl) ?_
    obtain ⟨h_3, hw⟩ := hw
    refine va_iast hx hb hK hP hD hS 1 0 rfl rfl h_3 dX5_keepLine_31 (fun H locs hP hD hS => ?_)
    have hP : va_P (dC, dI) vwCl [(h, .inr (5, [.ref h_tokens, .ref h_places, .ref h_values, .int f_size, .int f_at, .ref h_steps, .ref h_ends, .ref h_acts, .ref h_numbers, .int f_stepped, .int f_lines, .int f_fault, .int f_place])), (h_acts, .inl (cI, 20, .inl (upd r_acts f_lines.toNatClampNeg x1))), (h_ends, .inl (cI, 20, .inl (upd r_ends f_lines.toNatClampNeg f_stepped))), (h_numbers, .inl (cI, 20, .inl r_numbers))] _ := hP
    have hD : va_D A [(h, .inr (5, [.ref h_tokens, .ref h_places, .ref h_values, .int f_size, .int f_at, .ref h_steps, .ref h_ends, .ref h_acts, .ref h_numbers, .int f_stepped, .int f_lines, .int f_fault, .int f_place])), (h_acts, .inl (cI, 20, .inl (upd r_acts f_lines.toNatClampNeg x1))), (h_ends, .inl (cI, 20, .inl (upd r_ends f_lines.toNatClampNeg f_stepped))), (h_numbers, .inl (cI, 20, .inl r_numbers))] := hD
    refine lv_aload_n hx hb dX5_keepLine_32 rfl (lv_at hl 0 rfl) ?_
    refine va_get (D := (dC, dI)) (ci := 5) (v := .ref h_numbers) (C := RX5) (T := TX5) (N := 13) hx hb hts gu_X5 hown hK hP 0 rfl rfl 8 (by decide) (hts _ gw_265) (fun _ h9 => h9) rfl dX5_keepLine_33 ?_
    refine lv_aload_n hx hb dX5_keepLine_36 rfl (lv_at hl 0 rfl) ?_
    refine va_get (D := (dC, dI)) (ci := 5) (v := .int f_lines) (C := RX5) (T := TX5) (N := 13) hx hb hts gu_X5 hown hK hP 0 rfl rfl 10 (by decide) (hts _ gw_267) (fun _ h9 => h9) rfl dX5_keepLine_37 ?_
    refine lv_iload_n hx hb dX5_keepLine_40 rfl (lv_at hl 2 rfl) ?_
    obtain ⟨h_4, hw⟩ := hw
    refine va_iast hx hb hK hP hD hS 3 0 rfl rfl h_4 dX5_keepLine_41 (fun H locs hP hD hS => ?_)
    have hP : va_P (dC, dI) vwCl [(h, .inr (5, [.ref h_tokens, .ref h_places, .ref h_values, .int f_size, .int f_at, .ref h_steps, .ref h_ends, .ref h_acts, .ref h_numbers, .int f_stepped, .int f_lines, .int f_fault, .int f_place])), (h_acts, .inl (cI, 20, .inl (upd r_acts f_lines.toNatClampNeg x1))), (h_ends, .inl (cI, 20, .inl (upd r_ends f_lines.toNatClampNeg f_stepped))), (h_numbers, .inl (cI, 20, .inl (upd r_numbers f_lines.toNatClampNeg x2)))] _ := hP
    have hD : va_D A [(h, .inr (5, [.ref h_tokens, .ref h_places, .ref h_values, .int f_size, .int f_at, .ref h_steps, .ref h_ends, .ref h_acts, .ref h_numbers, .int f_stepped, .int f_lines, .int f_fault, .int f_place])), (h_acts, .inl (cI, 20, .inl (upd r_acts f_lines.toNatClampNeg x1))), (h_ends, .inl (cI, 20, .inl (upd r_ends f_lines.toNatClampNeg f_stepped))), (h_numbers, .inl (cI, 20, .inl (upd r_numbers f_lines.toNatClampNeg x2)))] := hD
    exact tX5_keepLine_42 hC hK hA  f_stepped f_lines (upd r_acts f_lines.toNatClampNeg x1) (upd r_ends f_lines.toNatClampNeg f_stepped) (upd r_numbers f_lines.toNatClampNeg x2) _ _ ls hw (hP.sub [0, 1, 2, 3] rfl) (hD.sub [0, 1, 2, 3] (by decide) rfl) hS (lv_sub hl [0] rfl)
set_option maxHeartbeats 4000000 in
set_option maxRecDepth 100000 in
theorem kX5_keepLine (l : Launch) (dC : Nat → ClassId) (dI : Nat → Nat → Nat) (cI cZ cO cW : ClassId) (h h_tokens h_places h_values h_steps h_ends h_acts h_numbers : Nat)  (sz : Nat) (f_size : Int32) (f_at : Int32) (f_fault : Int32) (f_place : Int32) (f_stepped : Int32) (f_lines : Int32) (r_acts : Nat → Int32) (r_ends : Nat → Int32) (r_numbers : Nat → Int32) (x1 : Int32) (x2 : Int32) (Q : Int32 → (Nat → Int32) → (Nat → Int32) → (Nat → Int32) → Prop) (hw : wX5_keepLine Q x1 x2 f_stepped f_lines r_acts r_ends r_numbers) : Met l yX5_keepLine zsX5_keepLine rmX5_keepLine (va_Pc [.ref h, .int x1, .int x2] (fun U => U.heap.size = sz ∧ va_P (dC, dI) vwCl (vX5_keepLine cI cZ h h_tokens h_places h_values h_steps h_ends h_acts h_numbers f_size f_at f_fault f_place f_stepped f_lines r_acts r_ends r_numbers) U.heap ∧ va_K (dC, dI) vwCl (tysA cI cZ cO cW) U ∧ va_D (fun _ => True) (vX5_keepLine cI cZ h h_tokens h_places h_values h_steps h_ends h_acts h_numbers f_size f_at f_fault f_place f_stepped f_lines r_acts r_ends r_numbers))) (qX5_keepLine dC dI cI cZ cO cW h h_tokens h_places h_values h_steps h_ends h_acts h_numbers f_size f_at f_fault f_place f_stepped Q (va_A (vX5_keepLine cI cZ h h_tokens h_places h_values h_steps h_ends h_acts h_numbers f_size f_at f_fault f_place f_stepped f_lines r_acts r_ends r_numbers) sz)) 0 0 (va_A (vX5_keepLine cI cZ h h_tokens h_places h_values h_steps h_ends h_acts h_numbers f_size f_at f_fault f_place f_stepped f_lines r_acts r_ends r_numbers) sz) := by
  refine Met.ofW (cc := cX5_keepLine) (maxL := 3) (ret := none) (by decide) rfl ?_
  intro p e s m args below meth c s₁ B hml hv
  obtain ⟨rfl, hsz, hP, hK, hD0⟩ := hv
  subst hsz
  have hC : Cx p s m ([.ref h, .int x1, .int x2] : List Value).toArray meth c cX5_keepLine none 3 GW RX5 := ⟨B.exec, B.bytes, B.returns, hml, findClass_of_methodNamed B.named, fun w h => atoms_spec (ws := zsX5_keepLine) B.pre w (List.mem_cons_of_mem _ h), B.notSynchronized⟩
  have hD := hD0.self (sz := s.heap.size)
  generalize hAe : va_A (vX5_keepLine cI cZ h h_tokens h_places h_values h_steps h_ends h_acts h_numbers f_size f_at f_fault f_place f_stepped f_lines r_acts r_ends r_numbers) s.heap.size = A at hD ⊢
  have hA : ∀ q : Nat, s.heap.size ≤ q → A q := fun q h => by rw [← hAe]; exact Or.inr h
  have hl := lv_entry ([.ref h, .int x1, .int x2]) (n := 3) (Nat.le_of_ble_eq_true rfl)
  rw [lg_entry_eq]
  generalize (lg_sl ([.ref h, .int x1, .int x2]) ++ List.replicate (3 - (lg_sl ([.ref h, .int x1, .int x2])).length) Slot.unset).toArray = ls at hl ⊢
  exact tX5_keepLine_e hC hK hA x1 x2 f_stepped f_lines r_acts r_ends r_numbers _ _ ls hw hP hD va_S.rf hl

/-! X5_addStep -/
def wX5_addStep (Q : Int32 → (Nat → Int32) → Prop) (x1 : Int32) (f_stepped : Int32) (r_steps : Nat → Int32) : Prop :=
  (((400 : Int32) ≤ f_stepped → (Q f_stepped r_steps)) ∧ (¬ (400 : Int32) ≤ f_stepped → (vp_in f_stepped 400 ∧ (Q (f_stepped + (1 : Int32)) (upd r_steps f_stepped.toNatClampNeg x1)))))
abbrev vX5_addStep (cI cZ : ClassId) (h h_tokens h_places h_values h_steps h_ends h_acts h_numbers : Nat) (f_size : Int32) (f_at : Int32) (f_lines : Int32) (f_fault : Int32) (f_place : Int32) (f_stepped : Int32) (r_steps : Nat → Int32) : va_W := [(h, .inr (5, [.ref h_tokens, .ref h_places, .ref h_values, .int f_size, .int f_at, .ref h_steps, .ref h_ends, .ref h_acts, .ref h_numbers, .int f_stepped, .int f_lines, .int f_fault, .int f_place])), (h_steps, .inl (cI, 400, .inl r_steps))]
abbrev rmX5_addStep : Room := { frames := 0, cells := 0, slots := 0, locals := 0 }
abbrev qX5_addStep (dC : Nat → ClassId) (dI : Nat → Nat → Nat) (cI cZ cO cW : ClassId) (h h_tokens h_places h_values h_steps h_ends h_acts h_numbers : Nat) (f_size : Int32) (f_at : Int32) (f_lines : Int32) (f_fault : Int32) (f_place : Int32) (Q : Int32 → (Nat → Int32) → Prop) (A : Nat → Prop) : Array Value → State → Outcome → State → Prop := va_Qv (fun (u : Int32 × (Nat → Int32)) => Q u.1 u.2) (fun (u : Int32 × (Nat → Int32)) (t : State) => va_P (dC, dI) vwCl (vX5_addStep cI cZ h h_tokens h_places h_values h_steps h_ends h_acts h_numbers f_size f_at f_lines f_fault f_place u.1 u.2) t.heap ∧ va_K (dC, dI) vwCl (tysA cI cZ cO cW) t ∧ va_D A (vX5_addStep cI cZ h h_tokens h_places h_values h_steps h_ends h_acts h_numbers f_size f_at f_lines f_fault f_place u.1 u.2)) A
def zsX5_addStep : List Cond := Cond.code yX5_addStep cX5_addStep 2 none :: GW
set_option maxHeartbeats 4000000 in
set_option maxRecDepth 100000 in
theorem tX5_addStep_e {p : Program} {l : Launch} {e : Env} {s : State} {m : MethodId} {args : Array Value} {below : List Frame} {meth : Method} {c : Code} {dC : Nat → ClassId} {dI : Nat → Nat → Nat} {cI cZ cO cW : ClassId} {A : Nat → Prop} {h h_tokens h_places h_values h_steps h_ends h_acts h_numbers : Nat} {f_size f_at f_lines f_fault f_place : Int32} {Q : Int32 → (Nat → Int32) → Prop} (hC : Cx p s m args meth c cX5_addStep none 2 GW RX5) (hK : va_K (dC, dI) vwCl (tysA cI cZ cO cW) s) (hA : ∀ q : Nat, s.heap.size ≤ q → A q) :
    ∀ (x1 : Int32) (f_stepped : Int32) (r_steps : Nat → Int32) (H : Heap) (locs : List Loc) (ls : Array Slot), wX5_addStep Q x1 f_stepped r_steps → va_P (dC, dI) vwCl (vX5_addStep cI cZ h h_tokens h_places h_values h_steps h_ends h_acts h_numbers f_size f_at f_lines f_fault f_place f_stepped r_steps) H → va_D A (vX5_addStep cI cZ h h_tokens h_places h_values h_steps h_ends h_acts h_numbers f_size f_at f_lines f_fault f_place f_stepped r_steps) → va_S A s.heap H locs → lv_has ls 2 [(0, .ref h), (1, .int x1)] → W p l e rmX5_addStep s m args below meth c H locs 0 0 (MQ below (qX5_addStep dC dI cI cZ cO cW h h_tokens h_places h_values h_steps h_ends h_acts h_numbers f_size f_at f_lines f_fault f_place Q A) args s 0 0 A) (F0 m 0 ls []) := by
  obtain ⟨hx, hb, hr, hml, hown, hts, hlocks⟩ := id hC
  intro x1 f_stepped r_steps H locs ls hw hP hD hS hl
  refine lv_aload_n hx hb dX5_addStep_0 rfl (lv_at hl 0 rfl) ?_
  refine va_get (D := (dC, dI)) (ci := 5) (v := .int f_stepped) (C := RX5) (T := TX5) (N := 13) hx hb hts gu_X5 hown hK hP 0 rfl rfl 9 (by decide) (hts _ gw_266) (fun _ h9 => h9) rfl dX5_addStep_1 ?_
  refine lv_sipush (v := (400 : Int32)) hx hb dX5_addStep_4 (by decide) ?_
  refine lv_icmp_ge (tgt := 30) hx hb dX5_addStep_7 (by decide) (fun c_1 => ?_) (fun c_1 => ?_)
  · have hw := hw.1 c_1
    have hP9 := hP.sub (ws' := (vX5_addStep cI cZ h h_tokens h_places h_values h_steps h_ends h_acts h_numbers f_size f_at f_lines f_fault f_place f_stepped r_steps)) [0, 1] rfl
    have hD9 := hD.sub (ws' := (vX5_addStep cI cZ h h_tokens h_places h_values h_steps h_ends h_acts h_numbers f_size f_at f_lines f_fault f_place f_stepped r_steps)) [0, 1] (by decide) rfl
    exact W.vret hx hb hr (fun t ht hW => ⟨⟨(f_stepped, r_steps), rfl, hw, by rw [ht]; exact hP9, va_K.moved hW.alike hK, hD9⟩, hS.F ht⟩) hS.2.2 dX5_addStep_30
  · have hw := hw.2 c_1
    refine lv_aload_n hx hb dX5_addStep_10 rfl (lv_at hl 0 rfl) ?_
    refine va_get (D := (dC, dI)) (ci := 5) (v := .ref h_steps) (C := RX5) (T := TX5) (N := 13) hx hb hts gu_X5 hown hK hP 0 rfl rfl 5 (by decide) (hts _ gw_262) (fun _ h9 => h9) rfl dX5_addStep_11 ?_
    refine lv_aload_n hx hb dX5_addStep_14 rfl (lv_at hl 0 rfl) ?_
    refine va_get (D := (dC, dI)) (ci := 5) (v := .int f_stepped) (C := RX5) (T := TX5) (N := 13) hx hb hts gu_X5 hown hK hP 0 rfl rfl 9 (by decide) (hts _ gw_266) (fun _ h9 => h9) rfl dX5_addStep_15 ?_
    refine lv_iload_n hx hb dX5_addStep_18 rfl (lv_at hl 1 rfl) ?_
    obtain ⟨h_2, hw⟩ := hw
    refine va_iast hx hb hK hP hD hS 1 0 rfl rfl h_2 dX5_addStep_19 (fun H locs hP hD hS => ?_)
    have hP : va_P (dC, dI) vwCl [(h, .inr (5, [.ref h_tokens, .ref h_places, .ref h_values, .int f_size, .int f_at, .ref h_steps, .ref h_ends, .ref h_acts, .ref h_numbers, .int f_stepped, .int f_lines, .int f_fault, .int f_place])), (h_steps, .inl (cI, 400, .inl (upd r_steps f_stepped.toNatClampNeg x1)))] _ := hP
    have hD : va_D A [(h, .inr (5, [.ref h_tokens, .ref h_places, .ref h_values, .int f_size, .int f_at, .ref h_steps, .ref h_ends, .ref h_acts, .ref h_numbers, .int f_stepped, .int f_lines, .int f_fault, .int f_place])), (h_steps, .inl (cI, 400, .inl (upd r_steps f_stepped.toNatClampNeg x1)))] := hD
    refine lv_aload_n hx hb dX5_addStep_20 rfl (lv_at hl 0 rfl) ?_
    refine lv_dup hx hb dX5_addStep_21 rfl ?_
    refine va_get (D := (dC, dI)) (ci := 5) (v := .int f_stepped) (C := RX5) (T := TX5) (N := 13) hx hb hts gu_X5 hown hK hP 0 rfl rfl 9 (by decide) (hts _ gw_266) (fun _ h9 => h9) rfl dX5_addStep_22 ?_
    refine lv_iconst (v := (1 : Int32)) hx hb dX5_addStep_25 (by decide) ?_
    refine lv_iadd hx hb dX5_addStep_26 ?_
    refine va_put (D := (dC, dI)) (ci := 5) (v := .int (f_stepped + (1 : Int32))) (ty := .int) (C := RX5) (T := TX5) (N := 13) hx hb hts gu_X5 tyX5 tyX5_ok nmX5 hown hK hP hD hS 0 rfl rfl 9 (by decide) (hts _ gw_266) (fun _ h9 => h9) rfl (tyX5_ok 9 (by decide)) rfl rfl (Nat.le_of_ble_eq_true rfl) dX5_addStep_27 (fun H locs hP hD hS => ?_)
    have hP : va_P (dC, dI) vwCl [(h, .inr (5, [.ref h_tokens, .ref h_places, .ref h_values, .int f_size, .int f_at, .ref h_steps, .ref h_ends, .ref h_acts, .ref h_numbers, .int (f_stepped + (1 : Int32)), .int f_lines, .int f_fault, .int f_place])), (h_steps, .inl (cI, 400, .inl (upd r_steps f_stepped.toNatClampNeg x1)))] _ := hP
    have hD : va_D A [(h, .inr (5, [.ref h_tokens, .ref h_places, .ref h_values, .int f_size, .int f_at, .ref h_steps, .ref h_ends, .ref h_acts, .ref h_numbers, .int (f_stepped + (1 : Int32)), .int f_lines, .int f_fault, .int f_place])), (h_steps, .inl (cI, 400, .inl (upd r_steps f_stepped.toNatClampNeg x1)))] := hD
    have hP9 := hP.sub (ws' := (vX5_addStep cI cZ h h_tokens h_places h_values h_steps h_ends h_acts h_numbers f_size f_at f_lines f_fault f_place (f_stepped + (1 : Int32)) (upd r_steps f_stepped.toNatClampNeg x1))) [0, 1] rfl
    have hD9 := hD.sub (ws' := (vX5_addStep cI cZ h h_tokens h_places h_values h_steps h_ends h_acts h_numbers f_size f_at f_lines f_fault f_place (f_stepped + (1 : Int32)) (upd r_steps f_stepped.toNatClampNeg x1))) [0, 1] (by decide) rfl
    exact W.vret hx hb hr (fun t ht hW => ⟨⟨((f_stepped + (1 : Int32)), (upd r_steps f_stepped.toNatClampNeg x1)), rfl, hw, by rw [ht]; exact hP9, va_K.moved hW.alike hK, hD9⟩, hS.F ht⟩) hS.2.2 dX5_addStep_30
set_option maxHeartbeats 4000000 in
set_option maxRecDepth 100000 in
theorem kX5_addStep (l : Launch) (dC : Nat → ClassId) (dI : Nat → Nat → Nat) (cI cZ cO cW : ClassId) (h h_tokens h_places h_values h_steps h_ends h_acts h_numbers : Nat)  (sz : Nat) (f_size : Int32) (f_at : Int32) (f_lines : Int32) (f_fault : Int32) (f_place : Int32) (f_stepped : Int32) (r_steps : Nat → Int32) (x1 : Int32) (Q : Int32 → (Nat → Int32) → Prop) (hw : wX5_addStep Q x1 f_stepped r_steps) : Met l yX5_addStep zsX5_addStep rmX5_addStep (va_Pc [.ref h, .int x1] (fun U => U.heap.size = sz ∧ va_P (dC, dI) vwCl (vX5_addStep cI cZ h h_tokens h_places h_values h_steps h_ends h_acts h_numbers f_size f_at f_lines f_fault f_place f_stepped r_steps) U.heap ∧ va_K (dC, dI) vwCl (tysA cI cZ cO cW) U ∧ va_D (fun _ => True) (vX5_addStep cI cZ h h_tokens h_places h_values h_steps h_ends h_acts h_numbers f_size f_at f_lines f_fault f_place f_stepped r_steps))) (qX5_addStep dC dI cI cZ cO cW h h_tokens h_places h_values h_steps h_ends h_acts h_numbers f_size f_at f_lines f_fault f_place Q (va_A (vX5_addStep cI cZ h h_tokens h_places h_values h_steps h_ends h_acts h_numbers f_size f_at f_lines f_fault f_place f_stepped r_steps) sz)) 0 0 (va_A (vX5_addStep cI cZ h h_tokens h_places h_values h_steps h_ends h_acts h_numbers f_size f_at f_lines f_fault f_place f_stepped r_steps) sz) := by
  refine Met.ofW (cc := cX5_addStep) (maxL := 2) (ret := none) (by decide) rfl ?_
  intro p e s m args below meth c s₁ B hml hv
  obtain ⟨rfl, hsz, hP, hK, hD0⟩ := hv
  subst hsz
  have hC : Cx p s m ([.ref h, .int x1] : List Value).toArray meth c cX5_addStep none 2 GW RX5 := ⟨B.exec, B.bytes, B.returns, hml, findClass_of_methodNamed B.named, fun w h => atoms_spec (ws := zsX5_addStep) B.pre w (List.mem_cons_of_mem _ h), B.notSynchronized⟩
  have hD := hD0.self (sz := s.heap.size)
  generalize hAe : va_A (vX5_addStep cI cZ h h_tokens h_places h_values h_steps h_ends h_acts h_numbers f_size f_at f_lines f_fault f_place f_stepped r_steps) s.heap.size = A at hD ⊢
  have hA : ∀ q : Nat, s.heap.size ≤ q → A q := fun q h => by rw [← hAe]; exact Or.inr h
  have hl := lv_entry ([.ref h, .int x1]) (n := 2) (Nat.le_of_ble_eq_true rfl)
  rw [lg_entry_eq]
  generalize (lg_sl ([.ref h, .int x1]) ++ List.replicate (2 - (lg_sl ([.ref h, .int x1])).length) Slot.unset).toArray = ls at hl ⊢
  exact tX5_addStep_e hC hK hA x1 f_stepped r_steps _ _ ls hw hP hD va_S.rf hl

/-! X5_readComparison -/
def wX5_readComparison (Q : Int32 → Int32 → Int32 → (Nat → Int32) → Prop)  (f_size : Int32) (f_at : Int32) (f_stepped : Int32) (r_steps : Nat → Int32) (r_tokens : Nat → Int32) (r_values : Nat → Int32) : Prop :=
  (wX5_token (fun r_1 => (wX9_isWhat (fun r_2 => ((¬ r_2 = 0 → (wX5_token (fun r_4 => (wX5_isComparison (fun r_5 => ((¬ r_5 = 0 → (wX5_takeNumber (fun r_8 f_at_7 => ((¬ r_8 = (-1 : Int32) → (wX4_comparison (fun r_10 => (wX5_addStep (fun f_stepped_11 r_steps_12 => (Q (1 : Int32) f_at_7 f_stepped_11 r_steps_12)) r_10 f_stepped r_steps)) r_1 r_4 r_8)) ∧ (r_8 = (-1 : Int32) → (Q (0 : Int32) f_at_7 f_stepped r_steps)))) f_size ((f_at + (1 : Int32)) + (1 : Int32)) r_tokens r_values)) ∧ (r_5 = 0 → (Q (0 : Int32) (f_at + (1 : Int32)) f_stepped r_steps)))) r_4)) f_size (f_at + (1 : Int32)) r_tokens)) ∧ (r_2 = 0 → (Q (0 : Int32) f_at f_stepped r_steps)))) r_1)) f_size f_at r_tokens)
abbrev vX5_readComparison (cI cZ : ClassId) (h h_tokens h_places h_values h_steps h_ends h_acts h_numbers : Nat) (f_lines : Int32) (f_fault : Int32) (f_place : Int32) (f_size : Int32) (f_at : Int32) (f_stepped : Int32) (r_steps : Nat → Int32) (r_tokens : Nat → Int32) (r_values : Nat → Int32) : va_W := [(h, .inr (5, [.ref h_tokens, .ref h_places, .ref h_values, .int f_size, .int f_at, .ref h_steps, .ref h_ends, .ref h_acts, .ref h_numbers, .int f_stepped, .int f_lines, .int f_fault, .int f_place])), (h_steps, .inl (cI, 400, .inl r_steps)), (h_tokens, .inl (cI, 401, .inl r_tokens)), (h_values, .inl (cI, 401, .inl r_values))]
abbrev rmX5_readComparison : Room := { frames := 1, cells := 0, slots := 0, locals := 22 }
abbrev qX5_readComparison (dC : Nat → ClassId) (dI : Nat → Nat → Nat) (cI cZ cO cW : ClassId) (h h_tokens h_places h_values h_steps h_ends h_acts h_numbers : Nat) (f_lines : Int32) (f_fault : Int32) (f_place : Int32) (f_size : Int32) (r_tokens : Nat → Int32) (r_values : Nat → Int32) (Q : Int32 → Int32 → Int32 → (Nat → Int32) → Prop) (A : Nat → Prop) : Array Value → State → Outcome → State → Prop := va_Qi (fun (r : Int32) (u : Int32 × Int32 × (Nat → Int32)) => Q r u.1 u.2.1 u.2.2) (fun (u : Int32 × Int32 × (Nat → Int32)) (t : State) => va_P (dC, dI) vwCl (vX5_readComparison cI cZ h h_tokens h_places h_values h_steps h_ends h_acts h_numbers f_lines f_fault f_place f_size u.1 u.2.1 u.2.2 r_tokens r_values) t.heap ∧ va_K (dC, dI) vwCl (tysA cI cZ cO cW) t ∧ va_D A (vX5_readComparison cI cZ h h_tokens h_places h_values h_steps h_ends h_acts h_numbers f_lines f_fault f_place f_size u.1 u.2.1 u.2.2 r_tokens r_values)) A
def zsX5_readComparison : List Cond := Cond.code yX5_readComparison cX5_readComparison 4 (some .boolean) :: GW
set_option maxHeartbeats 4000000 in
set_option maxRecDepth 100000 in
theorem tX5_readComparison_e {p : Program} {l : Launch} {e : Env} {s : State} {m : MethodId} {args : Array Value} {below : List Frame} {meth : Method} {c : Code} {dC : Nat → ClassId} {dI : Nat → Nat → Nat} {cI cZ cO cW : ClassId} {A : Nat → Prop} {h h_tokens h_places h_values h_steps h_ends h_acts h_numbers : Nat} {f_lines f_fault f_place : Int32} {Q : Int32 → Int32 → Int32 → (Nat → Int32) → Prop} (hC : Cx p s m args meth c cX5_readComparison (some .boolean) 4 GW RX5) (hK : va_K (dC, dI) vwCl (tysA cI cZ cO cW) s) (hA : ∀ q : Nat, s.heap.size ≤ q → A q) :
    ∀ (f_size : Int32) (f_at : Int32) (f_stepped : Int32) (r_steps : Nat → Int32) (r_tokens : Nat → Int32) (r_values : Nat → Int32) (H : Heap) (locs : List Loc) (ls : Array Slot), wX5_readComparison Q  f_size f_at f_stepped r_steps r_tokens r_values → va_P (dC, dI) vwCl (vX5_readComparison cI cZ h h_tokens h_places h_values h_steps h_ends h_acts h_numbers f_lines f_fault f_place f_size f_at f_stepped r_steps r_tokens r_values) H → va_D A (vX5_readComparison cI cZ h h_tokens h_places h_values h_steps h_ends h_acts h_numbers f_lines f_fault f_place f_size f_at f_stepped r_steps r_tokens r_values) → va_S A s.heap H locs → lv_has ls 4 [(0, .ref h)] → W p l e rmX5_readComparison s m args below meth c H locs 0 0 (MQ below (qX5_readComparison dC dI cI cZ cO cW h h_tokens h_places h_values h_steps h_ends h_acts h_numbers f_lines f_fault f_place f_size r_tokens r_values Q A) args s 0 0 A) (F0 m 0 ls []) := by
  obtain ⟨hx, hb, hr, hml, hown, hts, hlocks⟩ := id hC
  intro  f_size f_at f_stepped r_steps r_tokens r_values H locs ls hw hP hD hS hl
  refine lv_aload_n hx hb dX5_readComparison_0 rfl (lv_at hl 0 rfl) ?_
  have hPc := hP.sub (ws' := [(h, .inr (5, [.ref h_tokens, .ref h_places, .ref h_values, .int f_size, .int f_at, .ref h_steps, .ref h_ends, .ref h_acts, .ref h_numbers, .int f_stepped, .int f_lines, .int f_fault, .int f_place])), (h_tokens, .inl (cI, 401, .inl r_tokens))]) [0, 2] rfl
  have hDc := hD.sub (ws' := [(h, .inr (5, [.ref h_tokens, .ref h_places, .ref h_values, .int f_size, .int f_at, .ref h_steps, .ref h_ends, .ref h_acts, .ref h_numbers, .int f_stepped, .int f_lines, .int f_fault, .int f_place])), (h_tokens, .inl (cI, 401, .inl r_tokens))]) [0, 2] (by decide) rfl
  have hFc := va_free (wc := [(h, .inr (5, [.ref h_tokens, .ref h_places, .ref h_values, .int f_size, .int f_at, .ref h_steps, .ref h_ends, .ref h_acts, .ref h_numbers, .int f_stepped, .int f_lines, .int f_fault, .int f_place])), (h_tokens, .inl (cI, 401, .inl r_tokens))]) hD hS hA [0, 2] rfl
  refine va_calli (va_runV (As := []) (rest := []) ⟨hx, hb, hml, hown, hts⟩ (kX5_token l dC dI cI cZ cO cW h h_tokens h_places h_values h_steps h_ends h_acts h_numbers H.size f_stepped f_lines f_fault f_place f_size f_at r_tokens _ hw) (cwV 0 hts (gV gw_359 gw_360 gw_361 gw_329 (gM gw_353)) rfl rfl rfl (by decide +kernel) ⟨Nat.le_of_ble_eq_true rfl, Nat.le_of_ble_eq_true rfl⟩) (pv_of hPc hK hDc (va_recv hK hPc (ci := 5) (q0 := 0) rfl rfl)) rfl rfl hl.1 rfl (lv_room (Nat.le_of_ble_eq_true rfl)) dX5_readComparison_1 ⟨Nat.zero_le _, Nat.zero_le _⟩) hS (fun q _ h => hFc q h) hFc (fun r_1 u t H locs ht hvm hw hB hz1 hk1 hS => ?_)
  obtain ⟨hP, hD⟩ := af_join (wr := [(h_steps, .inl (cI, 400, .inl r_steps)), (h_values, .inl (cI, 401, .inl r_values))]) (w1 := [(h, .inr (5, [.ref h_tokens, .ref h_places, .ref h_values, .int f_size, .int f_at, .ref h_steps, .ref h_ends, .ref h_acts, .ref h_numbers, .int f_stepped, .int f_lines, .int f_fault, .int f_place])), (h_tokens, .inl (cI, 401, .inl r_tokens))]) hB ht hP hD [0, 2] [1, 3] rfl rfl (by decide) (by decide) hk1 hFc
  have hP : va_P (dC, dI) vwCl [(h_steps, .inl (cI, 400, .inl r_steps)), (h_values, .inl (cI, 401, .inl r_values)), (h, .inr (5, [.ref h_tokens, .ref h_places, .ref h_values, .int f_size, .int f_at, .ref h_steps, .ref h_ends, .ref h_acts, .ref h_numbers, .int f_stepped, .int f_lines, .int f_fault, .int f_place])), (h_tokens, .inl (cI, 401, .inl r_tokens))] _ := hP
  have hD : va_D A [(h_steps, .inl (cI, 400, .inl r_steps)), (h_values, .inl (cI, 401, .inl r_values)), (h, .inr (5, [.ref h_tokens, .ref h_places, .ref h_values, .int f_size, .int f_at, .ref h_steps, .ref h_ends, .ref h_acts, .ref h_numbers, .int f_stepped, .int f_lines, .int f_fault, .int f_place])), (h_tokens, .inl (cI, 401, .inl r_tokens))] := hD
  refine lv_istore_n (lv' := [(1, .int r_1), (0, .ref h)]) hx hb dX5_readComparison_4 rfl hl (by decide) rfl (fun ls hl => ?_)
  refine lv_iload_n hx hb dX5_readComparison_5 rfl (lv_at hl 0 rfl) ?_
  have hPc := hP.sub (ws' := []) [] rfl
  have hDc := hD.sub (ws' := []) [] (by decide) rfl
  have hFc := va_free (wc := []) hD hS hA [] rfl
  refine va_calli (va_runS (As := [.int r_1]) (rest := []) ⟨hx, hb, hml, hown, hts⟩ (kX9_isWhat l dC dI cI cZ cO cW H.size r_1 _ hw) (va_cwS 1 hts (gS gw_362 gw_363 gw_322 (gM gw_357)) rfl rfl rfl (by decide +kernel) ⟨Nat.le_of_ble_eq_true rfl, Nat.le_of_ble_eq_true rfl⟩) (ps_of hPc hK hDc) rfl rfl hl.1 rfl (lv_room (Nat.le_of_ble_eq_true rfl)) dX5_readComparison_6 ⟨Nat.zero_le _, Nat.zero_le _⟩) hS (fun q _ h => hFc q h) hFc (fun r_2 u t H locs ht hvm hw hB hz1 hk1 hS => ?_)
  obtain ⟨hP, hD⟩ := af_join (wr := [(h_steps, .inl (cI, 400, .inl r_steps)), (h_values, .inl (cI, 401, .inl r_values)), (h, .inr (5, [.ref h_tokens, .ref h_places, .ref h_values, .int f_size, .int f_at, .ref h_steps, .ref h_ends, .ref h_acts, .ref h_numbers, .int f_stepped, .int f_lines, .int f_fault, .int f_place])), (h_tokens, .inl (cI, 401, .inl r_tokens))]) (w1 := []) hB ht hP hD [] [0, 1, 2, 3] rfl rfl (by decide) (by decide) hk1 hFc
  have hP : va_P (dC, dI) vwCl [(h_steps, .inl (cI, 400, .inl r_steps)), (h_values, .inl (cI, 401, .inl r_values)), (h, .inr (5, [.ref h_tokens, .ref h_places, .ref h_values, .int f_size, .int f_at, .ref h_steps, .ref h_ends, .ref h_acts, .ref h_numbers, .int f_stepped, .int f_lines, .int f_fault, .int f_place])), (h_tokens, .inl (cI, 401, .inl r_tokens))] _ := hP
  have hD : va_D A [(h_steps, .inl (cI, 400, .inl r_steps)), (h_values, .inl (cI, 401, .inl r_values)), (h, .inr (5, [.ref h_tokens, .ref h_places, .ref h_values, .int f_size, .int f_at, .ref h_steps, .ref h_ends, .ref h_acts, .ref h_numbers, .int f_stepped, .int f_lines, .int f_fault, .int f_place])), (h_tokens, .inl (cI, 401, .inl r_tokens))] := hD
  refine lv_if_ne (tgt := 14) hx hb dX5_readComparison_9 (by decide) (fun c_3 => ?_) (fun c_3 => ?_)
  · have hw := hw.1 c_3
    refine lv_aload_n hx hb dX5_readComparison_14 rfl (lv_at hl 1 rfl) ?_
    refine lv_dup hx hb dX5_readComparison_15 rfl ?_
    refine va_get (D := (dC, dI)) (ci := 5) (v := .int f_at) (C := RX5) (T := TX5) (N := 13) hx hb hts gu_X5 hown hK hP 2 rfl rfl 4 (by decide) (hts _ gw_261) (fun _ h9 => h9) rfl dX5_readComparison_16 ?_
    refine lv_iconst (v := (1 : Int32)) hx hb dX5_readComparison_19 (by decide) ?_
    refine lv_iadd hx hb dX5_readComparison_20 ?_
    refine va_put (D := (dC, dI)) (ci := 5) (v := .int (f_at + (1 : Int32))) (ty := .int) (C := RX5) (T := TX5) (N := 13) hx hb hts gu_X5 tyX5 tyX5_ok nmX5 hown hK hP hD hS 2 rfl rfl 4 (by decide) (hts _ gw_261) (fun _ h9 => h9) rfl (tyX5_ok 4 (by decide)) rfl rfl (Nat.le_of_ble_eq_true rfl) dX5_readComparison_21 (fun H locs hP hD hS => ?_)
    have hP : va_P (dC, dI) vwCl [(h_steps, .inl (cI, 400, .inl r_steps)), (h_values, .inl (cI, 401, .inl r_values)), (h, .inr (5, [.ref h_tokens, .ref h_places, .ref h_values, .int f_size, .int (f_at + (1 : Int32)), .ref h_steps, .ref h_ends, .ref h_acts, .ref h_numbers, .int f_stepped, .int f_lines, .int f_fault, .int f_place])), (h_tokens, .inl (cI, 401, .inl r_tokens))] _ := hP
    have hD : va_D A [(h_steps, .inl (cI, 400, .inl r_steps)), (h_values, .inl (cI, 401, .inl r_values)), (h, .inr (5, [.ref h_tokens, .ref h_places, .ref h_values, .int f_size, .int (f_at + (1 : Int32)), .ref h_steps, .ref h_ends, .ref h_acts, .ref h_numbers, .int f_stepped, .int f_lines, .int f_fault, .int f_place])), (h_tokens, .inl (cI, 401, .inl r_tokens))] := hD
    refine lv_aload_n hx hb dX5_readComparison_24 rfl (lv_at hl 1 rfl) ?_
    have hPc := hP.sub (ws' := [(h, .inr (5, [.ref h_tokens, .ref h_places, .ref h_values, .int f_size, .int (f_at + (1 : Int32)), .ref h_steps, .ref h_ends, .ref h_acts, .ref h_numbers, .int f_stepped, .int f_lines, .int f_fault, .int f_place])), (h_tokens, .inl (cI, 401, .inl r_tokens))]) [2, 3] rfl
    have hDc := hD.sub (ws' := [(h, .inr (5, [.ref h_tokens, .ref h_places, .ref h_values, .int f_size, .int (f_at + (1 : Int32)), .ref h_steps, .ref h_ends, .ref h_acts, .ref h_numbers, .int f_stepped, .int f_lines, .int f_fault, .int f_place])), (h_tokens, .inl (cI, 401, .inl r_tokens))]) [2, 3] (by decide) rfl
    have hFc := va_free (wc := [(h, .inr (5, [.ref h_tokens, .ref h_places, .ref h_values, .int f_size, .int (f_at + (1 : Int32)), .ref h_steps, .ref h_ends, .ref h_acts, .ref h_numbers, .int f_stepped, .int f_lines, .int f_fault, .int f_place])), (h_tokens, .inl (cI, 401, .inl r_tokens))]) hD hS hA [2, 3] rfl
    refine va_calli (va_runV (As := []) (rest := []) ⟨hx, hb, hml, hown, hts⟩ (kX5_token l dC dI cI cZ cO cW h h_tokens h_places h_values h_steps h_ends h_acts h_numbers H.size f_stepped f_lines f_fault f_place f_size (f_at + (1 : Int32)) r_tokens _ hw) (cwV 0 hts (gV gw_359 gw_360 gw_361 gw_329 (gM gw_353)) rfl rfl rfl (by decide +kernel) ⟨Nat.le_of_ble_eq_true rfl, Nat.le_of_ble_eq_true rfl⟩) (pv_of hPc hK hDc (va_recv hK hPc (ci := 5) (q0 := 0) rfl rfl)) rfl rfl hl.1 rfl (lv_room (Nat.le_of_ble_eq_true rfl)) dX5_readComparison_25 ⟨Nat.zero_le _, Nat.zero_le _⟩) hS (fun q _ h => hFc q h) hFc (fun r_4 u t H locs ht hvm hw hB hz1 hk1 hS => ?_)
    obtain ⟨hP, hD⟩ := af_join (wr := [(h_steps, .inl (cI, 400, .inl r_steps)), (h_values, .inl (cI, 401, .inl r_values))]) (w1 := [(h, .inr (5, [.ref h_tokens, .ref h_places, .ref h_values, .int f_size, .int (f_at + (1 : Int32)), .ref h_steps, .ref h_ends, .ref h_acts, .ref h_numbers, .int f_stepped, .int f_lines, .int f_fault, .int f_place])), (h_tokens, .inl (cI, 401, .inl r_tokens))]) hB ht hP hD [2, 3] [0, 1] rfl rfl (by decide) (by decide) hk1 hFc
    have hP : va_P (dC, dI) vwCl [(h_steps, .inl (cI, 400, .inl r_steps)), (h_values, .inl (cI, 401, .inl r_values)), (h, .inr (5, [.ref h_tokens, .ref h_places, .ref h_values, .int f_size, .int (f_at + (1 : Int32)), .ref h_steps, .ref h_ends, .ref h_acts, .ref h_numbers, .int f_stepped, .int f_lines, .int f_fault, .int f_place])), (h_tokens, .inl (cI, 401, .inl r_tokens))] _ := hP
    have hD : va_D A [(h_steps, .inl (cI, 400, .inl r_steps)), (h_values, .inl (cI, 401, .inl r_values)), (h, .inr (5, [.ref h_tokens, .ref h_places, .ref h_values, .int f_size, .int (f_at + (1 : Int32)), .ref h_steps, .ref h_ends, .ref h_acts, .ref h_numbers, .int f_stepped, .int f_lines, .int f_fault, .int f_place])), (h_tokens, .inl (cI, 401, .inl r_tokens))] := hD
    refine lv_istore_n (lv' := [(2, .int r_4), (1, .int r_1), (0, .ref h)]) hx hb dX5_readComparison_28 rfl hl (by decide) rfl (fun ls hl => ?_)
    refine lv_iload_n hx hb dX5_readComparison_29 rfl (lv_at hl 0 rfl) ?_
    have hPc := hP.sub (ws' := []) [] rfl
    have hDc := hD.sub (ws' := []) [] (by decide) rfl
    have hFc := va_free (wc := []) hD hS hA [] rfl
    refine va_calli (va_runS (As := [.int r_4]) (rest := []) ⟨hx, hb, hml, hown, hts⟩ (kX5_isComparison l dC dI cI cZ cO cW H.size r_4 _ hw) (va_cwS 1 hts (gS gw_342 gw_343 gw_329 (gM gw_340)) rfl rfl rfl (by decide +kernel) ⟨Nat.le_of_ble_eq_true rfl, Nat.le_of_ble_eq_true rfl⟩) (ps_of hPc hK hDc) rfl rfl hl.1 rfl (lv_room (Nat.le_of_ble_eq_true rfl)) dX5_readComparison_30 ⟨Nat.zero_le _, Nat.zero_le _⟩) hS (fun q _ h => hFc q h) hFc (fun r_5 u t H locs ht hvm hw hB hz1 hk1 hS => ?_)
    obtain ⟨hP, hD⟩ := af_join (wr := [(h_steps, .inl (cI, 400, .inl r_steps)), (h_values, .inl (cI, 401, .inl r_values)), (h, .inr (5, [.ref h_tokens, .ref h_places, .ref h_values, .int f_size, .int (f_at + (1 : Int32)), .ref h_steps, .ref h_ends, .ref h_acts, .ref h_numbers, .int f_stepped, .int f_lines, .int f_fault, .int f_place])), (h_tokens, .inl (cI, 401, .inl r_tokens))]) (w1 := []) hB ht hP hD [] [0, 1, 2, 3] rfl rfl (by decide) (by decide) hk1 hFc
    have hP : va_P (dC, dI) vwCl [(h_steps, .inl (cI, 400, .inl r_steps)), (h_values, .inl (cI, 401, .inl r_values)), (h, .inr (5, [.ref h_tokens, .ref h_places, .ref h_values, .int f_size, .int (f_at + (1 : Int32)), .ref h_steps, .ref h_ends, .ref h_acts, .ref h_numbers, .int f_stepped, .int f_lines, .int f_fault, .int f_place])), (h_tokens, .inl (cI, 401, .inl r_tokens))] _ := hP
    have hD : va_D A [(h_steps, .inl (cI, 400, .inl r_steps)), (h_values, .inl (cI, 401, .inl r_values)), (h, .inr (5, [.ref h_tokens, .ref h_places, .ref h_values, .int f_size, .int (f_at + (1 : Int32)), .ref h_steps, .ref h_ends, .ref h_acts, .ref h_numbers, .int f_stepped, .int f_lines, .int f_fault, .int f_place])), (h_tokens, .inl (cI, 401, .inl r_tokens))] := hD
    refine lv_if_ne (tgt := 38) hx hb dX5_readComparison_33 (by decide) (fun c_6 => ?_) (fun c_6 => ?_)
    · have hw := hw.1 c_6
      refine lv_aload_n hx hb dX5_readComparison_38 rfl (lv_at hl 2 rfl) ?_
      refine lv_dup hx hb dX5_readComparison_39 rfl ?_
      refine va_get (D := (dC, dI)) (ci := 5) (v := .int (f_at + (1 : Int32))) (C := RX5) (T := TX5) (N := 13) hx hb hts gu_X5 hown hK hP 2 rfl rfl 4 (by decide) (hts _ gw_261) (fun _ h9 => h9) rfl dX5_readComparison_40 ?_
      refine lv_iconst (v := (1 : Int32)) hx hb dX5_readComparison_43 (by decide) ?_
      refine lv_iadd hx hb dX5_readComparison_44 ?_
      refine va_put (D := (dC, dI)) (ci := 5) (v := .int ((f_at + (1 : Int32)) + (1 : Int32))) (ty := .int) (C := RX5) (T := TX5) (N := 13) hx hb hts gu_X5 tyX5 tyX5_ok nmX5 hown hK hP hD hS 2 rfl rfl 4 (by decide) (hts _ gw_261) (fun _ h9 => h9) rfl (tyX5_ok 4 (by decide)) rfl rfl (Nat.le_of_ble_eq_true rfl) dX5_readComparison_45 (fun H locs hP hD hS => ?_)
      have hP : va_P (dC, dI) vwCl [(h_steps, .inl (cI, 400, .inl r_steps)), (h_values, .inl (cI, 401, .inl r_values)), (h, .inr (5, [.ref h_tokens, .ref h_places, .ref h_values, .int f_size, .int ((f_at + (1 : Int32)) + (1 : Int32)), .ref h_steps, .ref h_ends, .ref h_acts, .ref h_numbers, .int f_stepped, .int f_lines, .int f_fault, .int f_place])), (h_tokens, .inl (cI, 401, .inl r_tokens))] _ := hP
      have hD : va_D A [(h_steps, .inl (cI, 400, .inl r_steps)), (h_values, .inl (cI, 401, .inl r_values)), (h, .inr (5, [.ref h_tokens, .ref h_places, .ref h_values, .int f_size, .int ((f_at + (1 : Int32)) + (1 : Int32)), .ref h_steps, .ref h_ends, .ref h_acts, .ref h_numbers, .int f_stepped, .int f_lines, .int f_fault, .int f_place])), (h_tokens, .inl (cI, 401, .inl r_tokens))] := hD
      refine lv_aload_n hx hb dX5_readComparison_48 rfl (lv_at hl 2 rfl) ?_
      have hPc := hP.sub (ws' := [(h, .inr (5, [.ref h_tokens, .ref h_places, .ref h_values, .int f_size, .int ((f_at + (1 : Int32)) + (1 : Int32)), .ref h_steps, .ref h_ends, .ref h_acts, .ref h_numbers, .int f_stepped, .int f_lines, .int f_fault, .int f_place])), (h_tokens, .inl (cI, 401, .inl r_tokens)), (h_values, .inl (cI, 401, .inl r_values))]) [2, 3, 1] rfl
      have hDc := hD.sub (ws' := [(h, .inr (5, [.ref h_tokens, .ref h_places, .ref h_values, .int f_size, .int ((f_at + (1 : Int32)) + (1 : Int32)), .ref h_steps, .ref h_ends, .ref h_acts, .ref h_numbers, .int f_stepped, .int f_lines, .int f_fault, .int f_place])), (h_tokens, .inl (cI, 401, .inl r_tokens)), (h_values, .inl (cI, 401, .inl r_values))]) [2, 3, 1] (by decide) rfl
      have hFc := va_free (wc := [(h, .inr (5, [.ref h_tokens, .ref h_places, .ref h_values, .int f_size, .int ((f_at + (1 : Int32)) + (1 : Int32)), .ref h_steps, .ref h_ends, .ref h_acts, .ref h_numbers, .int f_stepped, .int f_lines, .int f_fault, .int f_place])), (h_tokens, .inl (cI, 401, .inl r_tokens)), (h_values, .inl (cI, 401, .inl r_values))]) hD hS hA [2, 3, 1] rfl
      refine va_calli (va_runV (As := []) (rest := []) ⟨hx, hb, hml, hown, hts⟩ (kX5_takeNumber l dC dI cI cZ cO cW h h_tokens h_places h_values h_steps h_ends h_acts h_numbers H.size f_stepped f_lines f_fault f_place f_size ((f_at + (1 : Int32)) + (1 : Int32)) r_tokens r_values _ hw) (cwV 0 hts (gV gw_364 gw_365 gw_366 gw_329 (gM gw_358)) rfl rfl rfl (by decide +kernel) ⟨Nat.le_of_ble_eq_true rfl, Nat.le_of_ble_eq_true rfl⟩) (pv_of hPc hK hDc (va_recv hK hPc (ci := 5) (q0 := 0) rfl rfl)) rfl rfl hl.1 rfl (lv_room (Nat.le_of_ble_eq_true rfl)) dX5_readComparison_49 ⟨Nat.zero_le _, Nat.zero_le _⟩) hS (fun q _ h => hFc q h) hFc (fun r_8 u t H locs ht hvm hw hB hz1 hk1 hS => ?_)
      obtain ⟨f_at_7, rfl⟩ : ∃ z, z = u := ⟨_, rfl⟩
      obtain ⟨hP, hD⟩ := af_join (wr := [(h_steps, .inl (cI, 400, .inl r_steps))]) (w1 := [(h, .inr (5, [.ref h_tokens, .ref h_places, .ref h_values, .int f_size, .int f_at_7, .ref h_steps, .ref h_ends, .ref h_acts, .ref h_numbers, .int f_stepped, .int f_lines, .int f_fault, .int f_place])), (h_tokens, .inl (cI, 401, .inl r_tokens)), (h_values, .inl (cI, 401, .inl r_values))]) hB ht hP hD [2, 3, 1] [0] rfl rfl (by decide) (by decide) hk1 hFc
      have hP : va_P (dC, dI) vwCl [(h_steps, .inl (cI, 400, .inl r_steps)), (h, .inr (5, [.ref h_tokens, .ref h_places, .ref h_values, .int f_size, .int f_at_7, .ref h_steps, .ref h_ends, .ref h_acts, .ref h_numbers, .int f_stepped, .int f_lines, .int f_fault, .int f_place])), (h_tokens, .inl (cI, 401, .inl r_tokens)), (h_values, .inl (cI, 401, .inl r_values))] _ := hP
      have hD : va_D A [(h_steps, .inl (cI, 400, .inl r_steps)), (h, .inr (5, [.ref h_tokens, .ref h_places, .ref h_values, .int f_size, .int f_at_7, .ref h_steps, .ref h_ends, .ref h_acts, .ref h_numbers, .int f_stepped, .int f_lines, .int f_fault, .int f_place])), (h_tokens, .inl (cI, 401, .inl r_tokens)), (h_values, .inl (cI, 401, .inl r_values))] := hD
      refine lv_istore_n (lv' := [(3, .int r_8), (2, .int r_4), (1, .int r_1), (0, .ref h)]) hx hb dX5_readComparison_52 rfl hl (by decide) rfl (fun ls hl => ?_)
      refine lv_iload_n hx hb dX5_readComparison_53 rfl (lv_at hl 0 rfl) ?_
      refine lv_iconst (v := (-1 : Int32)) hx hb dX5_readComparison_54 (by decide) ?_
      refine lv_icmp_ne (tgt := 60) hx hb dX5_readComparison_55 (by decide) (fun c_9 => ?_) (fun c_9 => ?_)
      · have hw := hw.1 c_9
        refine lv_aload_n hx hb dX5_readComparison_60 rfl (lv_at hl 3 rfl) ?_
        refine lv_iload_n hx hb dX5_readComparison_61 rfl (lv_at hl 2 rfl) ?_
        refine lv_iload_n hx hb dX5_readComparison_62 rfl (lv_at hl 1 rfl) ?_
        refine lv_iload_n hx hb dX5_readComparison_63 rfl (lv_at hl 0 rfl) ?_
        have hPc := hP.sub (ws' := []) [] rfl
        have hDc := hD.sub (ws' := []) [] (by decide) rfl
        have hFc := va_free (wc := []) hD hS hA [] rfl
        refine va_calli (va_runS (As := [.int r_1, .int r_4, .int r_8]) (rest := [.ref h]) ⟨hx, hb, hml, hown, hts⟩ (kX4_comparison l dC dI cI cZ cO cW H.size r_1 r_4 r_8 _ hw) (va_cwS 3 hts (gS gw_367 gw_368 gw_171 (gM gw_254)) rfl rfl rfl (by decide +kernel) ⟨Nat.le_of_ble_eq_true rfl, Nat.le_of_ble_eq_true rfl⟩) (ps_of hPc hK hDc) rfl rfl hl.1 rfl (lv_room (Nat.le_of_ble_eq_true rfl)) dX5_readComparison_64 ⟨Nat.zero_le _, Nat.zero_le _⟩) hS (fun q _ h => hFc q h) hFc (fun r_10 u t H locs ht hvm hw hB hz1 hk1 hS => ?_)
        obtain ⟨hP, hD⟩ := af_join (wr := [(h_steps, .inl (cI, 400, .inl r_steps)), (h, .inr (5, [.ref h_tokens, .ref h_places, .ref h_values, .int f_size, .int f_at_7, .ref h_steps, .ref h_ends, .ref h_acts, .ref h_numbers, .int f_stepped, .int f_lines, .int f_fault, .int f_place])), (h_tokens, .inl (cI, 401, .inl r_tokens)), (h_values, .inl (cI, 401, .inl r_values))]) (w1 := []) hB ht hP hD [] [0, 1, 2, 3] rfl rfl (by decide) (by decide) hk1 hFc
        have hP : va_P (dC, dI) vwCl [(h_steps, .inl (cI, 400, .inl r_steps)), (h, .inr (5, [.ref h_tokens, .ref h_places, .ref h_values, .int f_size, .int f_at_7, .ref h_steps, .ref h_ends, .ref h_acts, .ref h_numbers, .int f_stepped, .int f_lines, .int f_fault, .int f_place])), (h_tokens, .inl (cI, 401, .inl r_tokens)), (h_values, .inl (cI, 401, .inl r_values))] _ := hP
        have hD : va_D A [(h_steps, .inl (cI, 400, .inl r_steps)), (h, .inr (5, [.ref h_tokens, .ref h_places, .ref h_values, .int f_size, .int f_at_7, .ref h_steps, .ref h_ends, .ref h_acts, .ref h_numbers, .int f_stepped, .int f_lines, .int f_fault, .int f_place])), (h_tokens, .inl (cI, 401, .inl r_tokens)), (h_values, .inl (cI, 401, .inl r_values))] := hD
        have hPc := hP.sub (ws' := [(h, .inr (5, [.ref h_tokens, .ref h_places, .ref h_values, .int f_size, .int f_at_7, .ref h_steps, .ref h_ends, .ref h_acts, .ref h_numbers, .int f_stepped, .int f_lines, .int f_fault, .int f_place])), (h_steps, .inl (cI, 400, .inl r_steps))]) [1, 0] rfl
        have hDc := hD.sub (ws' := [(h, .inr (5, [.ref h_tokens, .ref h_places, .ref h_values, .int f_size, .int f_at_7, .ref h_steps, .ref h_ends, .ref h_acts, .ref h_numbers, .int f_stepped, .int f_lines, .int f_fault, .int f_place])), (h_steps, .inl (cI, 400, .inl r_steps))]) [1, 0] (by decide) rfl
        have hFc := va_free (wc := [(h, .inr (5, [.ref h_tokens, .ref h_places, .ref h_values, .int f_size, .int f_at_7, .ref h_steps, .ref h_ends, .ref h_acts, .ref h_numbers, .int f_stepped, .int f_lines, .int f_fault, .int f_place])), (h_steps, .inl (cI, 400, .inl r_steps))]) hD hS hA [1, 0] rfl
        refine va_callv (va_runV (As := [.int r_10]) (rest := []) ⟨hx, hb, hml, hown, hts⟩ (kX5_addStep l dC dI cI cZ cO cW h h_tokens h_places h_values h_steps h_ends h_acts h_numbers H.size f_size f_at_7 f_lines f_fault f_place f_stepped r_steps r_10 _ hw) (cwV 1 hts (gV gw_369 gw_370 gw_371 gw_329 (gM gw_356)) rfl rfl rfl (by decide +kernel) ⟨Nat.le_of_ble_eq_true rfl, Nat.le_of_ble_eq_true rfl⟩) (pv_of hPc hK hDc (va_recv hK hPc (ci := 5) (q0 := 0) rfl rfl)) rfl rfl hl.1 rfl (lv_room (Nat.le_of_ble_eq_true rfl)) dX5_readComparison_67 ⟨Nat.zero_le _, Nat.zero_le _⟩) hS (fun q _ h => hFc q h) hFc (fun u t H locs ht hvm hw hB hz1 hk1 hS => ?_)
        obtain ⟨f_stepped_11, r_steps_12⟩ := u
        obtain ⟨hP, hD⟩ := af_join (wr := [(h_tokens, .inl (cI, 401, .inl r_tokens)), (h_values, .inl (cI, 401, .inl r_values))]) (w1 := [(h, .inr (5, [.ref h_tokens, .ref h_places, .ref h_values, .int f_size, .int f_at_7, .ref h_steps, .ref h_ends, .ref h_acts, .ref h_numbers, .int f_stepped_11, .int f_lines, .int f_fault, .int f_place])), (h_steps, .inl (cI, 400, .inl r_steps_12))]) hB ht hP hD [1, 0] [2, 3] rfl rfl (by decide) (by decide) hk1 hFc
        have hP : va_P (dC, dI) vwCl [(h_tokens, .inl (cI, 401, .inl r_tokens)), (h_values, .inl (cI, 401, .inl r_values)), (h, .inr (5, [.ref h_tokens, .ref h_places, .ref h_values, .int f_size, .int f_at_7, .ref h_steps, .ref h_ends, .ref h_acts, .ref h_numbers, .int f_stepped_11, .int f_lines, .int f_fault, .int f_place])), (h_steps, .inl (cI, 400, .inl r_steps_12))] _ := hP
        have hD : va_D A [(h_tokens, .inl (cI, 401, .inl r_tokens)), (h_values, .inl (cI, 401, .inl r_values)), (h, .inr (5, [.ref h_tokens, .ref h_places, .ref h_values, .int f_size, .int f_at_7, .ref h_steps, .ref h_ends, .ref h_acts, .ref h_numbers, .int f_stepped_11, .int f_lines, .int f_fault, .int f_place])), (h_steps, .inl (cI, 400, .inl r_steps_12))] := hD
        refine lv_iconst (v := (1 : Int32)) hx hb dX5_readComparison_70 (by decide) ?_
        have hP9 := hP.sub (ws' := (vX5_readComparison cI cZ h h_tokens h_places h_values h_steps h_ends h_acts h_numbers f_lines f_fault f_place f_size f_at_7 f_stepped_11 r_steps_12 r_tokens r_values)) [2, 3, 0, 1] rfl
        have hD9 := hD.sub (ws' := (vX5_readComparison cI cZ h h_tokens h_places h_values h_steps h_ends h_acts h_numbers f_lines f_fault f_place f_size f_at_7 f_stepped_11 r_steps_12 r_tokens r_values)) [2, 3, 0, 1] (by decide) rfl
        exact W.zret (v := (1 : Int32)) (ty := .boolean) hx hb hr rfl (fun t ht hW => ⟨⟨(1 : Int32), (f_at_7, f_stepped_11, r_steps_12), rfl, hw, by rw [ht]; exact hP9, va_K.moved hW.alike hK, hD9⟩, hS.F ht⟩) hS.2.2 dX5_readComparison_71
      · have hw := hw.2 c_9
        refine lv_iconst (v := (0 : Int32)) hx hb dX5_readComparison_58 (by decide) ?_
        have hP9 := hP.sub (ws' := (vX5_readComparison cI cZ h h_tokens h_places h_values h_steps h_ends h_acts h_numbers f_lines f_fault f_place f_size f_at_7 f_stepped r_steps r_tokens r_values)) [1, 0, 2, 3] rfl
        have hD9 := hD.sub (ws' := (vX5_readComparison cI cZ h h_tokens h_places h_values h_steps h_ends h_acts h_numbers f_lines f_fault f_place f_size f_at_7 f_stepped r_steps r_tokens r_values)) [1, 0, 2, 3] (by decide) rfl
        exact W.zret (v := (0 : Int32)) (ty := .boolean) hx hb hr rfl (fun t ht hW => ⟨⟨(0 : Int32), (f_at_7, f_stepped, r_steps), rfl, hw, by rw [ht]; exact hP9, va_K.moved hW.alike hK, hD9⟩, hS.F ht⟩) hS.2.2 dX5_readComparison_59
    · have hw := hw.2 c_6
      refine lv_iconst (v := (0 : Int32)) hx hb dX5_readComparison_36 (by decide) ?_
      have hP9 := hP.sub (ws' := (vX5_readComparison cI cZ h h_tokens h_places h_values h_steps h_ends h_acts h_numbers f_lines f_fault f_place f_size (f_at + (1 : Int32)) f_stepped r_steps r_tokens r_values)) [2, 0, 3, 1] rfl
      have hD9 := hD.sub (ws' := (vX5_readComparison cI cZ h h_tokens h_places h_values h_steps h_ends h_acts h_numbers f_lines f_fault f_place f_size (f_at + (1 : Int32)) f_stepped r_steps r_tokens r_values)) [2, 0, 3, 1] (by decide) rfl
      exact W.zret (v := (0 : Int32)) (ty := .boolean) hx hb hr rfl (fun t ht hW => ⟨⟨(0 : Int32), ((f_at + (1 : Int32)), f_stepped, r_steps), rfl, hw, by rw [ht]; exact hP9, va_K.moved hW.alike hK, hD9⟩, hS.F ht⟩) hS.2.2 dX5_readComparison_37
  · have hw := hw.2 c_3
    refine lv_iconst (v := (0 : Int32)) hx hb dX5_readComparison_12 (by decide) ?_
    have hP9 := hP.sub (ws' := (vX5_readComparison cI cZ h h_tokens h_places h_values h_steps h_ends h_acts h_numbers f_lines f_fault f_place f_size f_at f_stepped r_steps r_tokens r_values)) [2, 0, 3, 1] rfl
    have hD9 := hD.sub (ws' := (vX5_readComparison cI cZ h h_tokens h_places h_values h_steps h_ends h_acts h_numbers f_lines f_fault f_place f_size f_at f_stepped r_steps r_tokens r_values)) [2, 0, 3, 1] (by decide) rfl
    exact W.zret (v := (0 : Int32)) (ty := .boolean) hx hb hr rfl (fun t ht hW => ⟨⟨(0 : Int32), (f_at, f_stepped, r_steps), rfl, hw, by rw [ht]; exact hP9, va_K.moved hW.alike hK, hD9⟩, hS.F ht⟩) hS.2.2 dX5_readComparison_13
set_option maxHeartbeats 4000000 in
set_option maxRecDepth 100000 in
theorem kX5_readComparison (l : Launch) (dC : Nat → ClassId) (dI : Nat → Nat → Nat) (cI cZ cO cW : ClassId) (h h_tokens h_places h_values h_steps h_ends h_acts h_numbers : Nat)  (sz : Nat) (f_lines : Int32) (f_fault : Int32) (f_place : Int32) (f_size : Int32) (f_at : Int32) (f_stepped : Int32) (r_steps : Nat → Int32) (r_tokens : Nat → Int32) (r_values : Nat → Int32)  (Q : Int32 → Int32 → Int32 → (Nat → Int32) → Prop) (hw : wX5_readComparison Q  f_size f_at f_stepped r_steps r_tokens r_values) : Met l yX5_readComparison zsX5_readComparison rmX5_readComparison (va_Pc [.ref h] (fun U => U.heap.size = sz ∧ va_P (dC, dI) vwCl (vX5_readComparison cI cZ h h_tokens h_places h_values h_steps h_ends h_acts h_numbers f_lines f_fault f_place f_size f_at f_stepped r_steps r_tokens r_values) U.heap ∧ va_K (dC, dI) vwCl (tysA cI cZ cO cW) U ∧ va_D (fun _ => True) (vX5_readComparison cI cZ h h_tokens h_places h_values h_steps h_ends h_acts h_numbers f_lines f_fault f_place f_size f_at f_stepped r_steps r_tokens r_values))) (qX5_readComparison dC dI cI cZ cO cW h h_tokens h_places h_values h_steps h_ends h_acts h_numbers f_lines f_fault f_place f_size r_tokens r_values Q (va_A (vX5_readComparison cI cZ h h_tokens h_places h_values h_steps h_ends h_acts h_numbers f_lines f_fault f_place f_size f_at f_stepped r_steps r_tokens r_values) sz)) 0 0 (va_A (vX5_readComparison cI cZ h h_tokens h_places h_values h_steps h_ends h_acts h_numbers f_lines f_fault f_place f_size f_at f_stepped r_steps r_tokens r_values) sz) := by
  refine Met.ofW (cc := cX5_readComparison) (maxL := 4) (ret := (some .boolean)) (by decide) rfl ?_
  intro p e s m args below meth c s₁ B hml hv
  obtain ⟨rfl, hsz, hP, hK, hD0⟩ := hv
  subst hsz
  have hC : Cx p s m ([.ref h] : List Value).toArray meth c cX5_readComparison (some .boolean) 4 GW RX5 := ⟨B.exec, B.bytes, B.returns, hml, findClass_of_methodNamed B.named, fun w h => atoms_spec (ws := zsX5_readComparison) B.pre w (List.mem_cons_of_mem _ h), B.notSynchronized⟩
  have hD := hD0.self (sz := s.heap.size)
  generalize hAe : va_A (vX5_readComparison cI cZ h h_tokens h_places h_values h_steps h_ends h_acts h_numbers f_lines f_fault f_place f_size f_at f_stepped r_steps r_tokens r_values) s.heap.size = A at hD ⊢
  have hA : ∀ q : Nat, s.heap.size ≤ q → A q := fun q h => by rw [← hAe]; exact Or.inr h
  have hl := lv_entry ([.ref h]) (n := 4) (Nat.le_of_ble_eq_true rfl)
  rw [lg_entry_eq]
  generalize (lg_sl ([.ref h]) ++ List.replicate (4 - (lg_sl ([.ref h])).length) Slot.unset).toArray = ls at hl ⊢
  exact tX5_readComparison_e hC hK hA  f_size f_at f_stepped r_steps r_tokens r_values _ _ ls hw hP hD va_S.rf hl

/-! X5_readOne -/
def wX5_readOne_47 (RA : (Int32 → Int32 → Int32 → (Nat → Int32) → Prop) → Int32 → Int32 → Int32 → Int32 → (Nat → Int32) → (Nat → Int32) → (Nat → Int32) → Prop) (Q : Int32 → Int32 → Int32 → (Nat → Int32) → Prop)   (x2 : Int32) (s0 : Int32) (f_size : Int32) (f_at : Int32) (f_stepped : Int32) (r_steps : (Nat → Int32)) (r_tokens : (Nat → Int32)) (r_values : (Nat → Int32)) : Prop :=
  ((s0 = 0 → (narrow .boolean (.int s0) = .int s0 ∧ (Q s0 f_at f_stepped r_steps))) ∧ (¬ s0 = 0 → ((x2 = 0 → (narrow .boolean (.int s0) = .int s0 ∧ (Q s0 f_at f_stepped r_steps))) ∧ (¬ x2 = 0 → (wX5_addStep (fun f_stepped_5 r_steps_6 => (narrow .boolean (.int s0) = .int s0 ∧ (Q s0 f_at f_stepped_5 r_steps_6))) (-1 : Int32) f_stepped r_steps)))))
def wX5_readOne_39 (RA : (Int32 → Int32 → Int32 → (Nat → Int32) → Prop) → Int32 → Int32 → Int32 → Int32 → (Nat → Int32) → (Nat → Int32) → (Nat → Int32) → Prop) (Q : Int32 → Int32 → Int32 → (Nat → Int32) → Prop)   (x2 : Int32) (f_size : Int32) (f_at : Int32) (f_stepped : Int32) (r_steps : (Nat → Int32)) (r_tokens : (Nat → Int32)) (r_values : (Nat → Int32)) : Prop :=
  (wX5_readOne_47 RA Q x2 (0 : Int32) f_size f_at f_stepped r_steps r_tokens r_values)
def wX5_readOne (RA : (Int32 → Int32 → Int32 → (Nat → Int32) → Prop) → Int32 → Int32 → Int32 → Int32 → (Nat → Int32) → (Nat → Int32) → (Nat → Int32) → Prop) (Q : Int32 → Int32 → Int32 → (Nat → Int32) → Prop) (x1 : Int32) (f_size : Int32) (f_at : Int32) (f_stepped : Int32) (r_steps : Nat → Int32) (r_tokens : Nat → Int32) (r_values : Nat → Int32) : Prop :=
  (wX5_take (fun r_9 f_at_8 => (wX5_take (fun r_11 f_at_10 => ((r_11 = 0 → (wX5_readComparison (fun r_16 f_at_13 f_stepped_14 r_steps_15 => (wX5_readOne_47 RA Q r_9 r_16 f_size f_at_13 f_stepped_14 r_steps_15 r_tokens r_values)) f_size f_at_10 f_stepped r_steps r_tokens r_values)) ∧ (¬ r_11 = 0 → (RA (fun r_20 f_at_17 f_stepped_18 r_steps_19 => ((r_20 = 0 → (wX5_readOne_39 RA Q r_9 f_size f_at_17 f_stepped_18 r_steps_19 r_tokens r_values)) ∧ (¬ r_20 = 0 → (wX5_take (fun r_23 f_at_22 => ((r_23 = 0 → (wX5_readOne_39 RA Q r_9 f_size f_at_22 f_stepped_18 r_steps_19 r_tokens r_values)) ∧ (¬ r_23 = 0 → (wX5_readOne_47 RA Q r_9 (1 : Int32) f_size f_at_22 f_stepped_18 r_steps_19 r_tokens r_values)))) (41 : Int32) f_size f_at_17 r_tokens)))) (x1 + (1 : Int32)) f_size f_at_10 f_stepped r_steps r_tokens r_values)))) (40 : Int32) f_size f_at_8 r_tokens)) (19 : Int32) f_size f_at r_tokens)
abbrev vX5_readOne (cI cZ : ClassId) (h h_tokens h_places h_values h_steps h_ends h_acts h_numbers : Nat) (f_lines : Int32) (f_fault : Int32) (f_place : Int32) (f_size : Int32) (f_at : Int32) (f_stepped : Int32) (r_steps : Nat → Int32) (r_tokens : Nat → Int32) (r_values : Nat → Int32) : va_W := [(h, .inr (5, [.ref h_tokens, .ref h_places, .ref h_values, .int f_size, .int f_at, .ref h_steps, .ref h_ends, .ref h_acts, .ref h_numbers, .int f_stepped, .int f_lines, .int f_fault, .int f_place])), (h_steps, .inl (cI, 400, .inl r_steps)), (h_tokens, .inl (cI, 401, .inl r_tokens)), (h_values, .inl (cI, 401, .inl r_values))]
abbrev rmX5_readOne (d : Nat) : Room := { frames := 3 * d + 3, cells := 0, slots := 0, locals := 67 * d + 67 }
abbrev qX5_readOne (dC : Nat → ClassId) (dI : Nat → Nat → Nat) (cI cZ cO cW : ClassId) (h h_tokens h_places h_values h_steps h_ends h_acts h_numbers : Nat) (f_lines : Int32) (f_fault : Int32) (f_place : Int32) (f_size : Int32) (r_tokens : Nat → Int32) (r_values : Nat → Int32) (Q : Int32 → Int32 → Int32 → (Nat → Int32) → Prop) (A : Nat → Prop) : Array Value → State → Outcome → State → Prop := va_Qi (fun (r : Int32) (u : Int32 × Int32 × (Nat → Int32)) => Q r u.1 u.2.1 u.2.2) (fun (u : Int32 × Int32 × (Nat → Int32)) (t : State) => va_P (dC, dI) vwCl (vX5_readOne cI cZ h h_tokens h_places h_values h_steps h_ends h_acts h_numbers f_lines f_fault f_place f_size u.1 u.2.1 u.2.2 r_tokens r_values) t.heap ∧ va_K (dC, dI) vwCl (tysA cI cZ cO cW) t ∧ va_D A (vX5_readOne cI cZ h h_tokens h_places h_values h_steps h_ends h_acts h_numbers f_lines f_fault f_place f_size u.1 u.2.1 u.2.2 r_tokens r_values)) A
def zsX5_readOne : List Cond := Cond.code yX5_readOne cX5_readOne 4 (some .boolean) :: GW
set_option maxHeartbeats 4000000 in
set_option maxRecDepth 100000 in
theorem tX5_readOne_47 {p : Program} {l : Launch} {e : Env} {s : State} {m : MethodId} {args : Array Value} {below : List Frame} {meth : Method} {c : Code} {dC : Nat → ClassId} {dI : Nat → Nat → Nat} {cI cZ cO cW : ClassId} {A : Nat → Prop} {h h_tokens h_places h_values h_steps h_ends h_acts h_numbers : Nat} {f_lines f_fault f_place : Int32} {Q : Int32 → Int32 → Int32 → (Nat → Int32) → Prop} {d : Nat} {RA : (Int32 → Int32 → Int32 → (Nat → Int32) → Prop) → Int32 → Int32 → Int32 → Int32 → (Nat → Int32) → (Nat → Int32) → (Nat → Int32) → Prop}  (hC : Cx p s m args meth c cX5_readOne (some .boolean) 4 GW RX5) (hK : va_K (dC, dI) vwCl (tysA cI cZ cO cW) s) (hA : ∀ q : Nat, s.heap.size ≤ q → A q) (hRec : ∀ (h h_tokens h_places h_values h_steps h_ends h_acts h_numbers : Nat) (sz : Nat) (f_lines : Int32) (f_fault : Int32) (f_place : Int32) (f_size : Int32) (f_at : Int32) (f_stepped : Int32) (r_steps : Nat → Int32) (r_tokens : Nat → Int32) (r_values : Nat → Int32) (x1 : Int32) (Q : Int32 → Int32 → Int32 → (Nat → Int32) → Prop), RA Q x1 f_size f_at f_stepped r_steps r_tokens r_values → Met l yX5_readTerm zsX5_readTerm (rmX5_readTerm_d d) (va_Pc [.ref h, .int x1] (fun U => U.heap.size = sz ∧ va_P (dC, dI) vwCl (vX5_readTerm cI cZ h h_tokens h_places h_values h_steps h_ends h_acts h_numbers f_lines f_fault f_place f_size f_at f_stepped r_steps r_tokens r_values) U.heap ∧ va_K (dC, dI) vwCl (tysA cI cZ cO cW) U ∧ va_D (fun _ => True) (vX5_readTerm cI cZ h h_tokens h_places h_values h_steps h_ends h_acts h_numbers f_lines f_fault f_place f_size f_at f_stepped r_steps r_tokens r_values))) (qX5_readTerm dC dI cI cZ cO cW h h_tokens h_places h_values h_steps h_ends h_acts h_numbers f_lines f_fault f_place f_size r_tokens r_values Q (va_A (vX5_readTerm cI cZ h h_tokens h_places h_values h_steps h_ends h_acts h_numbers f_lines f_fault f_place f_size f_at f_stepped r_steps r_tokens r_values) sz)) 0 0 (va_A (vX5_readTerm cI cZ h h_tokens h_places h_values h_steps h_ends h_acts h_numbers f_lines f_fault f_place f_size f_at f_stepped r_steps r_tokens r_values) sz)) :
    ∀ (x2 : Int32) (s0 : Int32) (f_size : Int32) (f_at : Int32) (f_stepped : Int32) (r_steps : (Nat → Int32)) (r_tokens : (Nat → Int32)) (r_values : (Nat → Int32)) (H : Heap) (locs : List Loc) (ls : Array Slot), wX5_readOne_47 RA Q  x2 s0 f_size f_at f_stepped r_steps r_tokens r_values → va_P (dC, dI) vwCl (vX5_readOne cI cZ h h_tokens h_places h_values h_steps h_ends h_acts h_numbers f_lines f_fault f_place f_size f_at f_stepped r_steps r_tokens r_values) H → va_D A (vX5_readOne cI cZ h h_tokens h_places h_values h_steps h_ends h_acts h_numbers f_lines f_fault f_place f_size f_at f_stepped r_steps r_tokens r_values) → va_S A s.heap H locs → lv_has ls 4 [(0, .ref h), (2, .int x2)] → W p l e (rmX5_readOne d) s m args below meth c H locs 0 0 (MQ below (qX5_readOne dC dI cI cZ cO cW h h_tokens h_places h_values h_steps h_ends h_acts h_numbers f_lines f_fault f_place f_size r_tokens r_values Q A) args s 0 0 A) (F0 m 47 ls [.int s0]) := by
  obtain ⟨hx, hb, hr, hml, hown, hts, hlocks⟩ := id hC
  intro x2 s0 f_size f_at f_stepped r_steps r_tokens r_values H locs ls hw hP hD hS hl
  refine lv_istore_n (lv' := [(3, .int s0), (0, .ref h), (2, .int x2)]) hx hb dX5_readOne_47 rfl hl (by decide) rfl (fun ls hl => ?_)
  refine lv_iload_n hx hb dX5_readOne_48 rfl (lv_at hl 0 rfl) ?_
  refine lv_if_eq (tgt := 61) hx hb dX5_readOne_49 (by decide) (fun c_1 => ?_) (fun c_1 => ?_)
  · have hw := hw.1 c_1
    refine lv_iload_n hx hb dX5_readOne_61 rfl (lv_at hl 0 rfl) ?_
    obtain ⟨h_2, hw⟩ := hw
    have hP9 := hP.sub (ws' := (vX5_readOne cI cZ h h_tokens h_places h_values h_steps h_ends h_acts h_numbers f_lines f_fault f_place f_size f_at f_stepped r_steps r_tokens r_values)) [0, 1, 2, 3] rfl
    have hD9 := hD.sub (ws' := (vX5_readOne cI cZ h h_tokens h_places h_values h_steps h_ends h_acts h_numbers f_lines f_fault f_place f_size f_at f_stepped r_steps r_tokens r_values)) [0, 1, 2, 3] (by decide) rfl
    exact W.zret (v := s0) (ty := .boolean) hx hb hr h_2 (fun t ht hW => ⟨⟨s0, (f_at, f_stepped, r_steps), rfl, hw, by rw [ht]; exact hP9, va_K.moved hW.alike hK, hD9⟩, hS.F ht⟩) hS.2.2 dX5_readOne_62
  · have hw := hw.2 c_1
    refine lv_iload_n hx hb dX5_readOne_52 rfl (lv_at hl 2 rfl) ?_
    refine lv_if_eq (tgt := 61) hx hb dX5_readOne_53 (by decide) (fun c_3 => ?_) (fun c_3 => ?_)
    · have hw := hw.1 c_3
      refine lv_iload_n hx hb dX5_readOne_61 rfl (lv_at hl 0 rfl) ?_
      obtain ⟨h_4, hw⟩ := hw
      have hP9 := hP.sub (ws' := (vX5_readOne cI cZ h h_tokens h_places h_values h_steps h_ends h_acts h_numbers f_lines f_fault f_place f_size f_at f_stepped r_steps r_tokens r_values)) [0, 1, 2, 3] rfl
      have hD9 := hD.sub (ws' := (vX5_readOne cI cZ h h_tokens h_places h_values h_steps h_ends h_acts h_numbers f_lines f_fault f_place f_size f_at f_stepped r_steps r_tokens r_values)) [0, 1, 2, 3] (by decide) rfl
      exact W.zret (v := s0) (ty := .boolean) hx hb hr h_4 (fun t ht hW => ⟨⟨s0, (f_at, f_stepped, r_steps), rfl, hw, by rw [ht]; exact hP9, va_K.moved hW.alike hK, hD9⟩, hS.F ht⟩) hS.2.2 dX5_readOne_62
    · have hw := hw.2 c_3
      refine lv_aload_n hx hb dX5_readOne_56 rfl (lv_at hl 1 rfl) ?_
      refine lv_iconst (v := (-1 : Int32)) hx hb dX5_readOne_57 (by decide) ?_
      have hPc := hP.sub (ws' := [(h, .inr (5, [.ref h_tokens, .ref h_places, .ref h_values, .int f_size, .int f_at, .ref h_steps, .ref h_ends, .ref h_acts, .ref h_numbers, .int f_stepped, .int f_lines, .int f_fault, .int f_place])), (h_steps, .inl (cI, 400, .inl r_steps))]) [0, 1] rfl
      have hDc := hD.sub (ws' := [(h, .inr (5, [.ref h_tokens, .ref h_places, .ref h_values, .int f_size, .int f_at, .ref h_steps, .ref h_ends, .ref h_acts, .ref h_numbers, .int f_stepped, .int f_lines, .int f_fault, .int f_place])), (h_steps, .inl (cI, 400, .inl r_steps))]) [0, 1] (by decide) rfl
      have hFc := va_free (wc := [(h, .inr (5, [.ref h_tokens, .ref h_places, .ref h_values, .int f_size, .int f_at, .ref h_steps, .ref h_ends, .ref h_acts, .ref h_numbers, .int f_stepped, .int f_lines, .int f_fault, .int f_place])), (h_steps, .inl (cI, 400, .inl r_steps))]) hD hS hA [0, 1] rfl
      refine va_callv (va_runV (As := [.int (-1 : Int32)]) (rest := []) ⟨hx, hb, hml, hown, hts⟩ (kX5_addStep l dC dI cI cZ cO cW h h_tokens h_places h_values h_steps h_ends h_acts h_numbers H.size f_size f_at f_lines f_fault f_place f_stepped r_steps (-1 : Int32) _ hw) (cwV 1 hts (gV gw_369 gw_370 gw_371 gw_329 (gM gw_356)) rfl rfl rfl (by decide +kernel) ⟨(show (0) + 1 ≤ 3 * d + 3 by omega), (show 8 + (2 + 11) + (0) ≤ 67 * d + 67 by omega)⟩) (pv_of hPc hK hDc (va_recv hK hPc (ci := 5) (q0 := 0) rfl rfl)) rfl rfl hl.1 rfl (lv_room (Nat.le_of_ble_eq_true rfl)) dX5_readOne_58 ⟨Nat.zero_le _, Nat.zero_le _⟩) hS (fun q _ h => hFc q h) hFc (fun u t H locs ht hvm hw hB hz1 hk1 hS => ?_)
      obtain ⟨f_stepped_5, r_steps_6⟩ := u
      obtain ⟨hP, hD⟩ := af_join (wr := [(h_tokens, .inl (cI, 401, .inl r_tokens)), (h_values, .inl (cI, 401, .inl r_values))]) (w1 := [(h, .inr (5, [.ref h_tokens, .ref h_places, .ref h_values, .int f_size, .int f_at, .ref h_steps, .ref h_ends, .ref h_acts, .ref h_numbers, .int f_stepped_5, .int f_lines, .int f_fault, .int f_place])), (h_steps, .inl (cI, 400, .inl r_steps_6))]) hB ht hP hD [0, 1] [2, 3] rfl rfl (by decide) (by decide) hk1 hFc
      have hP : va_P (dC, dI) vwCl [(h_tokens, .inl (cI, 401, .inl r_tokens)), (h_values, .inl (cI, 401, .inl r_values)), (h, .inr (5, [.ref h_tokens, .ref h_places, .ref h_values, .int f_size, .int f_at, .ref h_steps, .ref h_ends, .ref h_acts, .ref h_numbers, .int f_stepped_5, .int f_lines, .int f_fault, .int f_place])), (h_steps, .inl (cI, 400, .inl r_steps_6))] _ := hP
      have hD : va_D A [(h_tokens, .inl (cI, 401, .inl r_tokens)), (h_values, .inl (cI, 401, .inl r_values)), (h, .inr (5, [.ref h_tokens, .ref h_places, .ref h_values, .int f_size, .int f_at, .ref h_steps, .ref h_ends, .ref h_acts, .ref h_numbers, .int f_stepped_5, .int f_lines, .int f_fault, .int f_place])), (h_steps, .inl (cI, 400, .inl r_steps_6))] := hD
      refine lv_iload_n hx hb dX5_readOne_61 rfl (lv_at hl 0 rfl) ?_
      obtain ⟨h_7, hw⟩ := hw
      have hP9 := hP.sub (ws' := (vX5_readOne cI cZ h h_tokens h_places h_values h_steps h_ends h_acts h_numbers f_lines f_fault f_place f_size f_at f_stepped_5 r_steps_6 r_tokens r_values)) [2, 3, 0, 1] rfl
      have hD9 := hD.sub (ws' := (vX5_readOne cI cZ h h_tokens h_places h_values h_steps h_ends h_acts h_numbers f_lines f_fault f_place f_size f_at f_stepped_5 r_steps_6 r_tokens r_values)) [2, 3, 0, 1] (by decide) rfl
      exact W.zret (v := s0) (ty := .boolean) hx hb hr h_7 (fun t ht hW => ⟨⟨s0, (f_at, f_stepped_5, r_steps_6), rfl, hw, by rw [ht]; exact hP9, va_K.moved hW.alike hK, hD9⟩, hS.F ht⟩) hS.2.2 dX5_readOne_62
set_option maxHeartbeats 4000000 in
set_option maxRecDepth 100000 in
theorem tX5_readOne_39 {p : Program} {l : Launch} {e : Env} {s : State} {m : MethodId} {args : Array Value} {below : List Frame} {meth : Method} {c : Code} {dC : Nat → ClassId} {dI : Nat → Nat → Nat} {cI cZ cO cW : ClassId} {A : Nat → Prop} {h h_tokens h_places h_values h_steps h_ends h_acts h_numbers : Nat} {f_lines f_fault f_place : Int32} {Q : Int32 → Int32 → Int32 → (Nat → Int32) → Prop} {d : Nat} {RA : (Int32 → Int32 → Int32 → (Nat → Int32) → Prop) → Int32 → Int32 → Int32 → Int32 → (Nat → Int32) → (Nat → Int32) → (Nat → Int32) → Prop}  (hC : Cx p s m args meth c cX5_readOne (some .boolean) 4 GW RX5) (hK : va_K (dC, dI) vwCl (tysA cI cZ cO cW) s) (hA : ∀ q : Nat, s.heap.size ≤ q → A q) (hRec : ∀ (h h_tokens h_places h_values h_steps h_ends h_acts h_numbers : Nat) (sz : Nat) (f_lines : Int32) (f_fault : Int32) (f_place : Int32) (f_size : Int32) (f_at : Int32) (f_stepped : Int32) (r_steps : Nat → Int32) (r_tokens : Nat → Int32) (r_values : Nat → Int32) (x1 : Int32) (Q : Int32 → Int32 → Int32 → (Nat → Int32) → Prop), RA Q x1 f_size f_at f_stepped r_steps r_tokens r_values → Met l yX5_readTerm zsX5_readTerm (rmX5_readTerm_d d) (va_Pc [.ref h, .int x1] (fun U => U.heap.size = sz ∧ va_P (dC, dI) vwCl (vX5_readTerm cI cZ h h_tokens h_places h_values h_steps h_ends h_acts h_numbers f_lines f_fault f_place f_size f_at f_stepped r_steps r_tokens r_values) U.heap ∧ va_K (dC, dI) vwCl (tysA cI cZ cO cW) U ∧ va_D (fun _ => True) (vX5_readTerm cI cZ h h_tokens h_places h_values h_steps h_ends h_acts h_numbers f_lines f_fault f_place f_size f_at f_stepped r_steps r_tokens r_values))) (qX5_readTerm dC dI cI cZ cO cW h h_tokens h_places h_values h_steps h_ends h_acts h_numbers f_lines f_fault f_place f_size r_tokens r_values Q (va_A (vX5_readTerm cI cZ h h_tokens h_places h_values h_steps h_ends h_acts h_numbers f_lines f_fault f_place f_size f_at f_stepped r_steps r_tokens r_values) sz)) 0 0 (va_A (vX5_readTerm cI cZ h h_tokens h_places h_values h_steps h_ends h_acts h_numbers f_lines f_fault f_place f_size f_at f_stepped r_steps r_tokens r_values) sz)) :
    ∀ (x2 : Int32) (f_size : Int32) (f_at : Int32) (f_stepped : Int32) (r_steps : (Nat → Int32)) (r_tokens : (Nat → Int32)) (r_values : (Nat → Int32)) (H : Heap) (locs : List Loc) (ls : Array Slot), wX5_readOne_39 RA Q  x2 f_size f_at f_stepped r_steps r_tokens r_values → va_P (dC, dI) vwCl (vX5_readOne cI cZ h h_tokens h_places h_values h_steps h_ends h_acts h_numbers f_lines f_fault f_place f_size f_at f_stepped r_steps r_tokens r_values) H → va_D A (vX5_readOne cI cZ h h_tokens h_places h_values h_steps h_ends h_acts h_numbers f_lines f_fault f_place f_size f_at f_stepped r_steps r_tokens r_values) → va_S A s.heap H locs → lv_has ls 4 [(0, .ref h), (2, .int x2)] → W p l e (rmX5_readOne d) s m args below meth c H locs 0 0 (MQ below (qX5_readOne dC dI cI cZ cO cW h h_tokens h_places h_values h_steps h_ends h_acts h_numbers f_lines f_fault f_place f_size r_tokens r_values Q A) args s 0 0 A) (F0 m 39 ls []) := by
  obtain ⟨hx, hb, hr, hml, hown, hts, hlocks⟩ := id hC
  intro x2 f_size f_at f_stepped r_steps r_tokens r_values H locs ls hw hP hD hS hl
  refine lv_iconst (v := (0 : Int32)) hx hb dX5_readOne_39 (by decide) ?_
  refine lv_goto (tgt := 47) hx hb dX5_readOne_40 (by decide) ?_
  exact tX5_readOne_47 hC hK hA hRec  x2 (0 : Int32) f_size f_at f_stepped r_steps r_tokens r_values _ _ ls hw (hP.sub [0, 1, 2, 3] rfl) (hD.sub [0, 1, 2, 3] (by decide) rfl) hS (lv_sub hl [0, 1] rfl)
set_option maxHeartbeats 4000000 in
set_option maxRecDepth 100000 in
theorem tX5_readOne_e {p : Program} {l : Launch} {e : Env} {s : State} {m : MethodId} {args : Array Value} {below : List Frame} {meth : Method} {c : Code} {dC : Nat → ClassId} {dI : Nat → Nat → Nat} {cI cZ cO cW : ClassId} {A : Nat → Prop} {h h_tokens h_places h_values h_steps h_ends h_acts h_numbers : Nat} {f_lines f_fault f_place : Int32} {Q : Int32 → Int32 → Int32 → (Nat → Int32) → Prop} {d : Nat} {RA : (Int32 → Int32 → Int32 → (Nat → Int32) → Prop) → Int32 → Int32 → Int32 → Int32 → (Nat → Int32) → (Nat → Int32) → (Nat → Int32) → Prop} (hC : Cx p s m args meth c cX5_readOne (some .boolean) 4 GW RX5) (hK : va_K (dC, dI) vwCl (tysA cI cZ cO cW) s) (hA : ∀ q : Nat, s.heap.size ≤ q → A q) (hRec : ∀ (h h_tokens h_places h_values h_steps h_ends h_acts h_numbers : Nat) (sz : Nat) (f_lines : Int32) (f_fault : Int32) (f_place : Int32) (f_size : Int32) (f_at : Int32) (f_stepped : Int32) (r_steps : Nat → Int32) (r_tokens : Nat → Int32) (r_values : Nat → Int32) (x1 : Int32) (Q : Int32 → Int32 → Int32 → (Nat → Int32) → Prop), RA Q x1 f_size f_at f_stepped r_steps r_tokens r_values → Met l yX5_readTerm zsX5_readTerm (rmX5_readTerm_d d) (va_Pc [.ref h, .int x1] (fun U => U.heap.size = sz ∧ va_P (dC, dI) vwCl (vX5_readTerm cI cZ h h_tokens h_places h_values h_steps h_ends h_acts h_numbers f_lines f_fault f_place f_size f_at f_stepped r_steps r_tokens r_values) U.heap ∧ va_K (dC, dI) vwCl (tysA cI cZ cO cW) U ∧ va_D (fun _ => True) (vX5_readTerm cI cZ h h_tokens h_places h_values h_steps h_ends h_acts h_numbers f_lines f_fault f_place f_size f_at f_stepped r_steps r_tokens r_values))) (qX5_readTerm dC dI cI cZ cO cW h h_tokens h_places h_values h_steps h_ends h_acts h_numbers f_lines f_fault f_place f_size r_tokens r_values Q (va_A (vX5_readTerm cI cZ h h_tokens h_places h_values h_steps h_ends h_acts h_numbers f_lines f_fault f_place f_size f_at f_stepped r_steps r_tokens r_values) sz)) 0 0 (va_A (vX5_readTerm cI cZ h h_tokens h_places h_values h_steps h_ends h_acts h_numbers f_lines f_fault f_place f_size f_at f_stepped r_steps r_tokens r_values) sz)) :
    ∀ (x1 : Int32) (f_size : Int32) (f_at : Int32) (f_stepped : Int32) (r_steps : Nat → Int32) (r_tokens : Nat → Int32) (r_values : Nat → Int32) (H : Heap) (locs : List Loc) (ls : Array Slot), wX5_readOne RA Q x1 f_size f_at f_stepped r_steps r_tokens r_values → va_P (dC, dI) vwCl (vX5_readOne cI cZ h h_tokens h_places h_values h_steps h_ends h_acts h_numbers f_lines f_fault f_place f_size f_at f_stepped r_steps r_tokens r_values) H → va_D A (vX5_readOne cI cZ h h_tokens h_places h_values h_steps h_ends h_acts h_numbers f_lines f_fault f_place f_size f_at f_stepped r_steps r_tokens r_values) → va_S A s.heap H locs → lv_has ls 4 [(0, .ref h), (1, .int x1)] → W p l e (rmX5_readOne d) s m args below meth c H locs 0 0 (MQ below (qX5_readOne dC dI cI cZ cO cW h h_tokens h_places h_values h_steps h_ends h_acts h_numbers f_lines f_fault f_place f_size r_tokens r_values Q A) args s 0 0 A) (F0 m 0 ls []) := by
  obtain ⟨hx, hb, hr, hml, hown, hts, hlocks⟩ := id hC
  intro x1 f_size f_at f_stepped r_steps r_tokens r_values H locs ls hw hP hD hS hl
  refine lv_aload_n hx hb dX5_readOne_0 rfl (lv_at hl 0 rfl) ?_
  refine lv_bipush (v := (19 : Int32)) hx hb dX5_readOne_1 (by decide) ?_
  have hPc := hP.sub (ws' := [(h, .inr (5, [.ref h_tokens, .ref h_places, .ref h_values, .int f_size, .int f_at, .ref h_steps, .ref h_ends, .ref h_acts, .ref h_numbers, .int f_stepped, .int f_lines, .int f_fault, .int f_place])), (h_tokens, .inl (cI, 401, .inl r_tokens))]) [0, 2] rfl
  have hDc := hD.sub (ws' := [(h, .inr (5, [.ref h_tokens, .ref h_places, .ref h_values, .int f_size, .int f_at, .ref h_steps, .ref h_ends, .ref h_acts, .ref h_numbers, .int f_stepped, .int f_lines, .int f_fault, .int f_place])), (h_tokens, .inl (cI, 401, .inl r_tokens))]) [0, 2] (by decide) rfl
  have hFc := va_free (wc := [(h, .inr (5, [.ref h_tokens, .ref h_places, .ref h_values, .int f_size, .int f_at, .ref h_steps, .ref h_ends, .ref h_acts, .ref h_numbers, .int f_stepped, .int f_lines, .int f_fault, .int f_place])), (h_tokens, .inl (cI, 401, .inl r_tokens))]) hD hS hA [0, 2] rfl
  refine va_calli (va_runV (As := [.int (19 : Int32)]) (rest := []) ⟨hx, hb, hml, hown, hts⟩ (kX5_take l dC dI cI cZ cO cW h h_tokens h_places h_values h_steps h_ends h_acts h_numbers H.size f_stepped f_lines f_fault f_place f_size f_at r_tokens (19 : Int32) _ hw) (cwV 1 hts (gV gw_376 gw_377 gw_378 gw_329 (gM gw_355)) rfl rfl rfl (by decide +kernel) ⟨(show (0) + 1 ≤ 3 * d + 3 by omega), (show 8 + (2 + 11) + (0) ≤ 67 * d + 67 by omega)⟩) (pv_of hPc hK hDc (va_recv hK hPc (ci := 5) (q0 := 0) rfl rfl)) rfl rfl hl.1 rfl (lv_room (Nat.le_of_ble_eq_true rfl)) dX5_readOne_3 ⟨Nat.zero_le _, Nat.zero_le _⟩) hS (fun q _ h => hFc q h) hFc (fun r_9 u t H locs ht hvm hw hB hz1 hk1 hS => ?_)
  obtain ⟨f_at_8, rfl⟩ : ∃ z, z = u := ⟨_, rfl⟩
  obtain ⟨hP, hD⟩ := af_join (wr := [(h_steps, .inl (cI, 400, .inl r_steps)), (h_values, .inl (cI, 401, .inl r_values))]) (w1 := [(h, .inr (5, [.ref h_tokens, .ref h_places, .ref h_values, .int f_size, .int f_at_8, .ref h_steps, .ref h_ends, .ref h_acts, .ref h_numbers, .int f_stepped, .int f_lines, .int f_fault, .int f_place])), (h_tokens, .inl (cI, 401, .inl r_tokens))]) hB ht hP hD [0, 2] [1, 3] rfl rfl (by decide) (by decide) hk1 hFc
  have hP : va_P (dC, dI) vwCl [(h_steps, .inl (cI, 400, .inl r_steps)), (h_values, .inl (cI, 401, .inl r_values)), (h, .inr (5, [.ref h_tokens, .ref h_places, .ref h_values, .int f_size, .int f_at_8, .ref h_steps, .ref h_ends, .ref h_acts, .ref h_numbers, .int f_stepped, .int f_lines, .int f_fault, .int f_place])), (h_tokens, .inl (cI, 401, .inl r_tokens))] _ := hP
  have hD : va_D A [(h_steps, .inl (cI, 400, .inl r_steps)), (h_values, .inl (cI, 401, .inl r_values)), (h, .inr (5, [.ref h_tokens, .ref h_places, .ref h_values, .int f_size, .int f_at_8, .ref h_steps, .ref h_ends, .ref h_acts, .ref h_numbers, .int f_stepped, .int f_lines, .int f_fault, .int f_place])), (h_tokens, .inl (cI, 401, .inl r_tokens))] := hD
  refine lv_istore_n (lv' := [(2, .int r_9), (0, .ref h), (1, .int x1)]) hx hb dX5_readOne_6 rfl hl (by decide) rfl (fun ls hl => ?_)
  refine lv_aload_n hx hb dX5_readOne_7 rfl (lv_at hl 1 rfl) ?_
  refine lv_bipush (v := (40 : Int32)) hx hb dX5_readOne_8 (by decide) ?_
  have hPc := hP.sub (ws' := [(h, .inr (5, [.ref h_tokens, .ref h_places, .ref h_values, .int f_size, .int f_at_8, .ref h_steps, .ref h_ends, .ref h_acts, .ref h_numbers, .int f_stepped, .int f_lines, .int f_fault, .int f_place])), (h_tokens, .inl (cI, 401, .inl r_tokens))]) [2, 3] rfl
  have hDc := hD.sub (ws' := [(h, .inr (5, [.ref h_tokens, .ref h_places, .ref h_values, .int f_size, .int f_at_8, .ref h_steps, .ref h_ends, .ref h_acts, .ref h_numbers, .int f_stepped, .int f_lines, .int f_fault, .int f_place])), (h_tokens, .inl (cI, 401, .inl r_tokens))]) [2, 3] (by decide) rfl
  have hFc := va_free (wc := [(h, .inr (5, [.ref h_tokens, .ref h_places, .ref h_values, .int f_size, .int f_at_8, .ref h_steps, .ref h_ends, .ref h_acts, .ref h_numbers, .int f_stepped, .int f_lines, .int f_fault, .int f_place])), (h_tokens, .inl (cI, 401, .inl r_tokens))]) hD hS hA [2, 3] rfl
  refine va_calli (va_runV (As := [.int (40 : Int32)]) (rest := []) ⟨hx, hb, hml, hown, hts⟩ (kX5_take l dC dI cI cZ cO cW h h_tokens h_places h_values h_steps h_ends h_acts h_numbers H.size f_stepped f_lines f_fault f_place f_size f_at_8 r_tokens (40 : Int32) _ hw) (cwV 1 hts (gV gw_376 gw_377 gw_378 gw_329 (gM gw_355)) rfl rfl rfl (by decide +kernel) ⟨(show (0) + 1 ≤ 3 * d + 3 by omega), (show 8 + (2 + 11) + (0) ≤ 67 * d + 67 by omega)⟩) (pv_of hPc hK hDc (va_recv hK hPc (ci := 5) (q0 := 0) rfl rfl)) rfl rfl hl.1 rfl (lv_room (Nat.le_of_ble_eq_true rfl)) dX5_readOne_10 ⟨Nat.zero_le _, Nat.zero_le _⟩) hS (fun q _ h => hFc q h) hFc (fun r_11 u t H locs ht hvm hw hB hz1 hk1 hS => ?_)
  obtain ⟨f_at_10, rfl⟩ : ∃ z, z = u := ⟨_, rfl⟩
  obtain ⟨hP, hD⟩ := af_join (wr := [(h_steps, .inl (cI, 400, .inl r_steps)), (h_values, .inl (cI, 401, .inl r_values))]) (w1 := [(h, .inr (5, [.ref h_tokens, .ref h_places, .ref h_values, .int f_size, .int f_at_10, .ref h_steps, .ref h_ends, .ref h_acts, .ref h_numbers, .int f_stepped, .int f_lines, .int f_fault, .int f_place])), (h_tokens, .inl (cI, 401, .inl r_tokens))]) hB ht hP hD [2, 3] [0, 1] rfl rfl (by decide) (by decide) hk1 hFc
  have hP : va_P (dC, dI) vwCl [(h_steps, .inl (cI, 400, .inl r_steps)), (h_values, .inl (cI, 401, .inl r_values)), (h, .inr (5, [.ref h_tokens, .ref h_places, .ref h_values, .int f_size, .int f_at_10, .ref h_steps, .ref h_ends, .ref h_acts, .ref h_numbers, .int f_stepped, .int f_lines, .int f_fault, .int f_place])), (h_tokens, .inl (cI, 401, .inl r_tokens))] _ := hP
  have hD : va_D A [(h_steps, .inl (cI, 400, .inl r_steps)), (h_values, .inl (cI, 401, .inl r_values)), (h, .inr (5, [.ref h_tokens, .ref h_places, .ref h_values, .int f_size, .int f_at_10, .ref h_steps, .ref h_ends, .ref h_acts, .ref h_numbers, .int f_stepped, .int f_lines, .int f_fault, .int f_place])), (h_tokens, .inl (cI, 401, .inl r_tokens))] := hD
  refine lv_if_eq (tgt := 43) hx hb dX5_readOne_13 (by decide) (fun c_12 => ?_) (fun c_12 => ?_)
  · have hw := hw.1 c_12
    refine lv_aload_n hx hb dX5_readOne_43 rfl (lv_at hl 1 rfl) ?_
    have hPc := hP.sub (ws' := [(h, .inr (5, [.ref h_tokens, .ref h_places, .ref h_values, .int f_size, .int f_at_10, .ref h_steps, .ref h_ends, .ref h_acts, .ref h_numbers, .int f_stepped, .int f_lines, .int f_fault, .int f_place])), (h_steps, .inl (cI, 400, .inl r_steps)), (h_tokens, .inl (cI, 401, .inl r_tokens)), (h_values, .inl (cI, 401, .inl r_values))]) [2, 0, 3, 1] rfl
    have hDc := hD.sub (ws' := [(h, .inr (5, [.ref h_tokens, .ref h_places, .ref h_values, .int f_size, .int f_at_10, .ref h_steps, .ref h_ends, .ref h_acts, .ref h_numbers, .int f_stepped, .int f_lines, .int f_fault, .int f_place])), (h_steps, .inl (cI, 400, .inl r_steps)), (h_tokens, .inl (cI, 401, .inl r_tokens)), (h_values, .inl (cI, 401, .inl r_values))]) [2, 0, 3, 1] (by decide) rfl
    have hFc := va_free (wc := [(h, .inr (5, [.ref h_tokens, .ref h_places, .ref h_values, .int f_size, .int f_at_10, .ref h_steps, .ref h_ends, .ref h_acts, .ref h_numbers, .int f_stepped, .int f_lines, .int f_fault, .int f_place])), (h_steps, .inl (cI, 400, .inl r_steps)), (h_tokens, .inl (cI, 401, .inl r_tokens)), (h_values, .inl (cI, 401, .inl r_values))]) hD hS hA [2, 0, 3, 1] rfl
    refine va_calli (va_runV (As := []) (rest := []) ⟨hx, hb, hml, hown, hts⟩ (kX5_readComparison l dC dI cI cZ cO cW h h_tokens h_places h_values h_steps h_ends h_acts h_numbers H.size f_lines f_fault f_place f_size f_at_10 f_stepped r_steps r_tokens r_values _ hw) (cwV 0 hts (gV gw_383 gw_384 gw_385 gw_329 (gM gw_372)) rfl rfl rfl (by decide +kernel) ⟨(show (1) + 1 ≤ 3 * d + 3 by omega), (show 8 + (4 + 11) + (22) ≤ 67 * d + 67 by omega)⟩) (pv_of hPc hK hDc (va_recv hK hPc (ci := 5) (q0 := 0) rfl rfl)) rfl rfl hl.1 rfl (lv_room (Nat.le_of_ble_eq_true rfl)) dX5_readOne_44 ⟨Nat.zero_le _, Nat.zero_le _⟩) hS (fun q _ h => hFc q h) hFc (fun r_16 u t H locs ht hvm hw hB hz1 hk1 hS => ?_)
    obtain ⟨f_at_13, f_stepped_14, r_steps_15⟩ := u
    obtain ⟨hP, hD⟩ := af_join (wr := []) (w1 := [(h, .inr (5, [.ref h_tokens, .ref h_places, .ref h_values, .int f_size, .int f_at_13, .ref h_steps, .ref h_ends, .ref h_acts, .ref h_numbers, .int f_stepped_14, .int f_lines, .int f_fault, .int f_place])), (h_steps, .inl (cI, 400, .inl r_steps_15)), (h_tokens, .inl (cI, 401, .inl r_tokens)), (h_values, .inl (cI, 401, .inl r_values))]) hB ht hP hD [2, 0, 3, 1] [] rfl rfl (by decide) (by decide) hk1 hFc
    have hP : va_P (dC, dI) vwCl [(h, .inr (5, [.ref h_tokens, .ref h_places, .ref h_values, .int f_size, .int f_at_13, .ref h_steps, .ref h_ends, .ref h_acts, .ref h_numbers, .int f_stepped_14, .int f_lines, .int f_fault, .int f_place])), (h_steps, .inl (cI, 400, .inl r_steps_15)), (h_tokens, .inl (cI, 401, .inl r_tokens)), (h_values, .inl (cI, 401, .inl r_values))] _ := hP
    have hD : va_D A [(h, .inr (5, [.ref h_tokens, .ref h_places, .ref h_values, .int f_size, .int f_at_13, .ref h_steps, .ref h_ends, .ref h_acts, .ref h_numbers, .int f_stepped_14, .int f_lines, .int f_fault, .int f_place])), (h_steps, .inl (cI, 400, .inl r_steps_15)), (h_tokens, .inl (cI, 401, .inl r_tokens)), (h_values, .inl (cI, 401, .inl r_values))] := hD
    exact tX5_readOne_47 hC hK hA hRec  r_9 r_16 f_size f_at_13 f_stepped_14 r_steps_15 r_tokens r_values _ _ ls hw (hP.sub [0, 1, 2, 3] rfl) (hD.sub [0, 1, 2, 3] (by decide) rfl) hS (lv_sub hl [1, 0] rfl)
  · have hw := hw.2 c_12
    refine lv_aload_n hx hb dX5_readOne_16 rfl (lv_at hl 1 rfl) ?_
    refine lv_iload_n hx hb dX5_readOne_17 rfl (lv_at hl 2 rfl) ?_
    refine lv_iconst (v := (1 : Int32)) hx hb dX5_readOne_18 (by decide) ?_
    refine lv_iadd hx hb dX5_readOne_19 ?_
    have hPc := hP.sub (ws' := [(h, .inr (5, [.ref h_tokens, .ref h_places, .ref h_values, .int f_size, .int f_at_10, .ref h_steps, .ref h_ends, .ref h_acts, .ref h_numbers, .int f_stepped, .int f_lines, .int f_fault, .int f_place])), (h_steps, .inl (cI, 400, .inl r_steps)), (h_tokens, .inl (cI, 401, .inl r_tokens)), (h_values, .inl (cI, 401, .inl r_values))]) [2, 0, 3, 1] rfl
    have hDc := hD.sub (ws' := [(h, .inr (5, [.ref h_tokens, .ref h_places, .ref h_values, .int f_size, .int f_at_10, .ref h_steps, .ref h_ends, .ref h_acts, .ref h_numbers, .int f_stepped, .int f_lines, .int f_fault, .int f_place])), (h_steps, .inl (cI, 400, .inl r_steps)), (h_tokens, .inl (cI, 401, .inl r_tokens)), (h_values, .inl (cI, 401, .inl r_values))]) [2, 0, 3, 1] (by decide) rfl
    have hFc := va_free (wc := [(h, .inr (5, [.ref h_tokens, .ref h_places, .ref h_values, .int f_size, .int f_at_10, .ref h_steps, .ref h_ends, .ref h_acts, .ref h_numbers, .int f_stepped, .int f_lines, .int f_fault, .int f_place])), (h_steps, .inl (cI, 400, .inl r_steps)), (h_tokens, .inl (cI, 401, .inl r_tokens)), (h_values, .inl (cI, 401, .inl r_values))]) hD hS hA [2, 0, 3, 1] rfl
    refine va_calli (va_runV (As := [.int (x1 + (1 : Int32))]) (rest := []) ⟨hx, hb, hml, hown, hts⟩ (hRec h h_tokens h_places h_values h_steps h_ends h_acts h_numbers H.size f_lines f_fault f_place f_size f_at_10 f_stepped r_steps r_tokens r_values (x1 + (1 : Int32)) _ hw) (cwV 1 hts (gV gw_380 gw_381 gw_382 gw_329 (gM gw_386)) rfl rfl rfl (by decide +kernel) ⟨(show (3 * d + 2) + 1 ≤ 3 * d + 3 by omega), (show 8 + (3 + 11) + (67 * d + 45) ≤ 67 * d + 67 by omega)⟩) (pv_of hPc hK hDc (va_recv hK hPc (ci := 5) (q0 := 0) rfl rfl)) rfl rfl hl.1 rfl (lv_room (Nat.le_of_ble_eq_true rfl)) dX5_readOne_20 ⟨Nat.zero_le _, Nat.zero_le _⟩) hS (fun q _ h => hFc q h) hFc (fun r_20 u t H locs ht hvm hw hB hz1 hk1 hS => ?_)
    obtain ⟨f_at_17, f_stepped_18, r_steps_19⟩ := u
    obtain ⟨hP, hD⟩ := af_join (wr := []) (w1 := [(h, .inr (5, [.ref h_tokens, .ref h_places, .ref h_values, .int f_size, .int f_at_17, .ref h_steps, .ref h_ends, .ref h_acts, .ref h_numbers, .int f_stepped_18, .int f_lines, .int f_fault, .int f_place])), (h_steps, .inl (cI, 400, .inl r_steps_19)), (h_tokens, .inl (cI, 401, .inl r_tokens)), (h_values, .inl (cI, 401, .inl r_values))]) hB ht hP hD [2, 0, 3, 1] [] rfl rfl (by decide) (by decide) hk1 hFc
    have hP : va_P (dC, dI) vwCl [(h, .inr (5, [.ref h_tokens, .ref h_places, .ref h_values, .int f_size, .int f_at_17, .ref h_steps, .ref h_ends, .ref h_acts, .ref h_numbers, .int f_stepped_18, .int f_lines, .int f_fault, .int f_place])), (h_steps, .inl (cI, 400, .inl r_steps_19)), (h_tokens, .inl (cI, 401, .inl r_tokens)), (h_values, .inl (cI, 401, .inl r_values))] _ := hP
    have hD : va_D A [(h, .inr (5, [.ref h_tokens, .ref h_places, .ref h_values, .int f_size, .int f_at_17, .ref h_steps, .ref h_ends, .ref h_acts, .ref h_numbers, .int f_stepped_18, .int f_lines, .int f_fault, .int f_place])), (h_steps, .inl (cI, 400, .inl r_steps_19)), (h_tokens, .inl (cI, 401, .inl r_tokens)), (h_values, .inl (cI, 401, .inl r_values))] := hD
    refine lv_if_eq (tgt := 39) hx hb dX5_readOne_23 (by decide) (fun c_21 => ?_) (fun c_21 => ?_)
    · have hw := hw.1 c_21
      exact tX5_readOne_39 hC hK hA hRec  r_9 f_size f_at_17 f_stepped_18 r_steps_19 r_tokens r_values _ _ ls hw (hP.sub [0, 1, 2, 3] rfl) (hD.sub [0, 1, 2, 3] (by decide) rfl) hS (lv_sub hl [1, 0] rfl)
    · have hw := hw.2 c_21
      refine lv_aload_n hx hb dX5_readOne_26 rfl (lv_at hl 1 rfl) ?_
      refine lv_bipush (v := (41 : Int32)) hx hb dX5_readOne_27 (by decide) ?_
      have hPc := hP.sub (ws' := [(h, .inr (5, [.ref h_tokens, .ref h_places, .ref h_values, .int f_size, .int f_at_17, .ref h_steps, .ref h_ends, .ref h_acts, .ref h_numbers, .int f_stepped_18, .int f_lines, .int f_fault, .int f_place])), (h_tokens, .inl (cI, 401, .inl r_tokens))]) [0, 2] rfl
      have hDc := hD.sub (ws' := [(h, .inr (5, [.ref h_tokens, .ref h_places, .ref h_values, .int f_size, .int f_at_17, .ref h_steps, .ref h_ends, .ref h_acts, .ref h_numbers, .int f_stepped_18, .int f_lines, .int f_fault, .int f_place])), (h_tokens, .inl (cI, 401, .inl r_tokens))]) [0, 2] (by decide) rfl
      have hFc := va_free (wc := [(h, .inr (5, [.ref h_tokens, .ref h_places, .ref h_values, .int f_size, .int f_at_17, .ref h_steps, .ref h_ends, .ref h_acts, .ref h_numbers, .int f_stepped_18, .int f_lines, .int f_fault, .int f_place])), (h_tokens, .inl (cI, 401, .inl r_tokens))]) hD hS hA [0, 2] rfl
      refine va_calli (va_runV (As := [.int (41 : Int32)]) (rest := []) ⟨hx, hb, hml, hown, hts⟩ (kX5_take l dC dI cI cZ cO cW h h_tokens h_places h_values h_steps h_ends h_acts h_numbers H.size f_stepped_18 f_lines f_fault f_place f_size f_at_17 r_tokens (41 : Int32) _ hw) (cwV 1 hts (gV gw_376 gw_377 gw_378 gw_329 (gM gw_355)) rfl rfl rfl (by decide +kernel) ⟨(show (0) + 1 ≤ 3 * d + 3 by omega), (show 8 + (2 + 11) + (0) ≤ 67 * d + 67 by omega)⟩) (pv_of hPc hK hDc (va_recv hK hPc (ci := 5) (q0 := 0) rfl rfl)) rfl rfl hl.1 rfl (lv_room (Nat.le_of_ble_eq_true rfl)) dX5_readOne_29 ⟨Nat.zero_le _, Nat.zero_le _⟩) hS (fun q _ h => hFc q h) hFc (fun r_23 u t H locs ht hvm hw hB hz1 hk1 hS => ?_)
      obtain ⟨f_at_22, rfl⟩ : ∃ z, z = u := ⟨_, rfl⟩
      obtain ⟨hP, hD⟩ := af_join (wr := [(h_steps, .inl (cI, 400, .inl r_steps_19)), (h_values, .inl (cI, 401, .inl r_values))]) (w1 := [(h, .inr (5, [.ref h_tokens, .ref h_places, .ref h_values, .int f_size, .int f_at_22, .ref h_steps, .ref h_ends, .ref h_acts, .ref h_numbers, .int f_stepped_18, .int f_lines, .int f_fault, .int f_place])), (h_tokens, .inl (cI, 401, .inl r_tokens))]) hB ht hP hD [0, 2] [1, 3] rfl rfl (by decide) (by decide) hk1 hFc
      have hP : va_P (dC, dI) vwCl [(h_steps, .inl (cI, 400, .inl r_steps_19)), (h_values, .inl (cI, 401, .inl r_values)), (h, .inr (5, [.ref h_tokens, .ref h_places, .ref h_values, .int f_size, .int f_at_22, .ref h_steps, .ref h_ends, .ref h_acts, .ref h_numbers, .int f_stepped_18, .int f_lines, .int f_fault, .int f_place])), (h_tokens, .inl (cI, 401, .inl r_tokens))] _ := hP
      have hD : va_D A [(h_steps, .inl (cI, 400, .inl r_steps_19)), (h_values, .inl (cI, 401, .inl r_values)), (h, .inr (5, [.ref h_tokens, .ref h_places, .ref h_values, .int f_size, .int f_at_22, .ref h_steps, .ref h_ends, .ref h_acts, .ref h_numbers, .int f_stepped_18, .int f_lines, .int f_fault, .int f_place])), (h_tokens, .inl (cI, 401, .inl r_tokens))] := hD
      refine lv_if_eq (tgt := 39) hx hb dX5_readOne_32 (by decide) (fun c_24 => ?_) (fun c_24 => ?_)
      · have hw := hw.1 c_24
        exact tX5_readOne_39 hC hK hA hRec  r_9 f_size f_at_22 f_stepped_18 r_steps_19 r_tokens r_values _ _ ls hw (hP.sub [2, 0, 3, 1] rfl) (hD.sub [2, 0, 3, 1] (by decide) rfl) hS (lv_sub hl [1, 0] rfl)
      · have hw := hw.2 c_24
        refine lv_iconst (v := (1 : Int32)) hx hb dX5_readOne_35 (by decide) ?_
        refine lv_goto (tgt := 47) hx hb dX5_readOne_36 (by decide) ?_
        exact tX5_readOne_47 hC hK hA hRec  r_9 (1 : Int32) f_size f_at_22 f_stepped_18 r_steps_19 r_tokens r_values _ _ ls hw (hP.sub [2, 0, 3, 1] rfl) (hD.sub [2, 0, 3, 1] (by decide) rfl) hS (lv_sub hl [1, 0] rfl)
set_option maxHeartbeats 4000000 in
set_option maxRecDepth 100000 in
theorem kX5_readOne (l : Launch) (dC : Nat → ClassId) (dI : Nat → Nat → Nat) (cI cZ cO cW : ClassId) (h h_tokens h_places h_values h_steps h_ends h_acts h_numbers : Nat)  (sz : Nat) (f_lines : Int32) (f_fault : Int32) (f_place : Int32) (f_size : Int32) (f_at : Int32) (f_stepped : Int32) (r_steps : Nat → Int32) (r_tokens : Nat → Int32) (r_values : Nat → Int32) (x1 : Int32) (Q : Int32 → Int32 → Int32 → (Nat → Int32) → Prop) (d : Nat) (RA : (Int32 → Int32 → Int32 → (Nat → Int32) → Prop) → Int32 → Int32 → Int32 → Int32 → (Nat → Int32) → (Nat → Int32) → (Nat → Int32) → Prop) (hRec : ∀ (h h_tokens h_places h_values h_steps h_ends h_acts h_numbers : Nat) (sz : Nat) (f_lines : Int32) (f_fault : Int32) (f_place : Int32) (f_size : Int32) (f_at : Int32) (f_stepped : Int32) (r_steps : Nat → Int32) (r_tokens : Nat → Int32) (r_values : Nat → Int32) (x1 : Int32) (Q : Int32 → Int32 → Int32 → (Nat → Int32) → Prop), RA Q x1 f_size f_at f_stepped r_steps r_tokens r_values → Met l yX5_readTerm zsX5_readTerm (rmX5_readTerm_d d) (va_Pc [.ref h, .int x1] (fun U => U.heap.size = sz ∧ va_P (dC, dI) vwCl (vX5_readTerm cI cZ h h_tokens h_places h_values h_steps h_ends h_acts h_numbers f_lines f_fault f_place f_size f_at f_stepped r_steps r_tokens r_values) U.heap ∧ va_K (dC, dI) vwCl (tysA cI cZ cO cW) U ∧ va_D (fun _ => True) (vX5_readTerm cI cZ h h_tokens h_places h_values h_steps h_ends h_acts h_numbers f_lines f_fault f_place f_size f_at f_stepped r_steps r_tokens r_values))) (qX5_readTerm dC dI cI cZ cO cW h h_tokens h_places h_values h_steps h_ends h_acts h_numbers f_lines f_fault f_place f_size r_tokens r_values Q (va_A (vX5_readTerm cI cZ h h_tokens h_places h_values h_steps h_ends h_acts h_numbers f_lines f_fault f_place f_size f_at f_stepped r_steps r_tokens r_values) sz)) 0 0 (va_A (vX5_readTerm cI cZ h h_tokens h_places h_values h_steps h_ends h_acts h_numbers f_lines f_fault f_place f_size f_at f_stepped r_steps r_tokens r_values) sz)) (hw : wX5_readOne RA Q x1 f_size f_at f_stepped r_steps r_tokens r_values) : Met l yX5_readOne zsX5_readOne (rmX5_readOne d) (va_Pc [.ref h, .int x1] (fun U => U.heap.size = sz ∧ va_P (dC, dI) vwCl (vX5_readOne cI cZ h h_tokens h_places h_values h_steps h_ends h_acts h_numbers f_lines f_fault f_place f_size f_at f_stepped r_steps r_tokens r_values) U.heap ∧ va_K (dC, dI) vwCl (tysA cI cZ cO cW) U ∧ va_D (fun _ => True) (vX5_readOne cI cZ h h_tokens h_places h_values h_steps h_ends h_acts h_numbers f_lines f_fault f_place f_size f_at f_stepped r_steps r_tokens r_values))) (qX5_readOne dC dI cI cZ cO cW h h_tokens h_places h_values h_steps h_ends h_acts h_numbers f_lines f_fault f_place f_size r_tokens r_values Q (va_A (vX5_readOne cI cZ h h_tokens h_places h_values h_steps h_ends h_acts h_numbers f_lines f_fault f_place f_size f_at f_stepped r_steps r_tokens r_values) sz)) 0 0 (va_A (vX5_readOne cI cZ h h_tokens h_places h_values h_steps h_ends h_acts h_numbers f_lines f_fault f_place f_size f_at f_stepped r_steps r_tokens r_values) sz) := by
  refine Met.ofW (cc := cX5_readOne) (maxL := 4) (ret := (some .boolean)) (by decide) rfl ?_
  intro p e s m args below meth c s₁ B hml hv
  obtain ⟨rfl, hsz, hP, hK, hD0⟩ := hv
  subst hsz
  have hC : Cx p s m ([.ref h, .int x1] : List Value).toArray meth c cX5_readOne (some .boolean) 4 GW RX5 := ⟨B.exec, B.bytes, B.returns, hml, findClass_of_methodNamed B.named, fun w h => atoms_spec (ws := zsX5_readOne) B.pre w (List.mem_cons_of_mem _ h), B.notSynchronized⟩
  have hD := hD0.self (sz := s.heap.size)
  generalize hAe : va_A (vX5_readOne cI cZ h h_tokens h_places h_values h_steps h_ends h_acts h_numbers f_lines f_fault f_place f_size f_at f_stepped r_steps r_tokens r_values) s.heap.size = A at hD ⊢
  have hA : ∀ q : Nat, s.heap.size ≤ q → A q := fun q h => by rw [← hAe]; exact Or.inr h
  have hl := lv_entry ([.ref h, .int x1]) (n := 4) (Nat.le_of_ble_eq_true rfl)
  rw [lg_entry_eq]
  generalize (lg_sl ([.ref h, .int x1]) ++ List.replicate (4 - (lg_sl ([.ref h, .int x1])).length) Slot.unset).toArray = ls at hl ⊢
  exact tX5_readOne_e hC hK hA hRec x1 f_size f_at f_stepped r_steps r_tokens r_values _ _ ls hw hP hD va_S.rf hl

/-! X5_readBoth -/
def wX5_readBoth_12 (RA : (Int32 → Int32 → Int32 → (Nat → Int32) → Prop) → Int32 → Int32 → Int32 → Int32 → (Nat → Int32) → (Nat → Int32) → (Nat → Int32) → Prop) (Q : Int32 → Int32 → Int32 → (Nat → Int32) → Prop)   : Nat → Int32 → Int32 → Int32 → Int32 → Int32 → (Nat → Int32) → (Nat → Int32) → (Nat → Int32) → Prop
  | 0, _, _, _, _, _, _, _, _ => False
  | n + 1, x1, x2, f_size, f_at, f_stepped, r_steps, r_tokens, r_values => (((400 : Int32) ≤ x2 → (Q (1 : Int32) f_at f_stepped r_steps)) ∧ (¬ (400 : Int32) ≤ x2 → (wX5_take (fun r_3 f_at_2 => ((r_3 = 0 → (Q (1 : Int32) f_at_2 f_stepped r_steps)) ∧ (¬ r_3 = 0 → (wX5_readOne RA (fun r_8 f_at_5 f_stepped_6 r_steps_7 => ((¬ r_8 = 0 → (wX5_addStep (fun f_stepped_10 r_steps_11 => (wX5_readBoth_12 RA Q n x1 (x2 + (1 : Int32)) f_size f_at_5 f_stepped_10 r_steps_11 r_tokens r_values)) (-2 : Int32) f_stepped_6 r_steps_7)) ∧ (r_8 = 0 → (Q (0 : Int32) f_at_5 f_stepped_6 r_steps_7)))) x1 f_size f_at_2 f_stepped r_steps r_tokens r_values)))) (18 : Int32) f_size f_at r_tokens)))
def wX5_readBoth (RA : (Int32 → Int32 → Int32 → (Nat → Int32) → Prop) → Int32 → Int32 → Int32 → Int32 → (Nat → Int32) → (Nat → Int32) → (Nat → Int32) → Prop) (Q : Int32 → Int32 → Int32 → (Nat → Int32) → Prop) (x1 : Int32) (f_size : Int32) (f_at : Int32) (f_stepped : Int32) (r_steps : Nat → Int32) (r_tokens : Nat → Int32) (r_values : Nat → Int32) : Prop :=
  (wX5_readOne RA (fun r_15 f_at_12 f_stepped_13 r_steps_14 => ((¬ r_15 = 0 → (∃ j_, wX5_readBoth_12 RA Q j_ x1 (0 : Int32) f_size f_at_12 f_stepped_13 r_steps_14 r_tokens r_values)) ∧ (r_15 = 0 → (Q (0 : Int32) f_at_12 f_stepped_13 r_steps_14)))) x1 f_size f_at f_stepped r_steps r_tokens r_values)
abbrev vX5_readBoth (cI cZ : ClassId) (h h_tokens h_places h_values h_steps h_ends h_acts h_numbers : Nat) (f_lines : Int32) (f_fault : Int32) (f_place : Int32) (f_size : Int32) (f_at : Int32) (f_stepped : Int32) (r_steps : Nat → Int32) (r_tokens : Nat → Int32) (r_values : Nat → Int32) : va_W := [(h, .inr (5, [.ref h_tokens, .ref h_places, .ref h_values, .int f_size, .int f_at, .ref h_steps, .ref h_ends, .ref h_acts, .ref h_numbers, .int f_stepped, .int f_lines, .int f_fault, .int f_place])), (h_steps, .inl (cI, 400, .inl r_steps)), (h_tokens, .inl (cI, 401, .inl r_tokens)), (h_values, .inl (cI, 401, .inl r_values))]
abbrev rmX5_readBoth (d : Nat) : Room := { frames := 3 * d + 4, cells := 0, slots := 0, locals := 67 * d + 90 }
abbrev qX5_readBoth (dC : Nat → ClassId) (dI : Nat → Nat → Nat) (cI cZ cO cW : ClassId) (h h_tokens h_places h_values h_steps h_ends h_acts h_numbers : Nat) (f_lines : Int32) (f_fault : Int32) (f_place : Int32) (f_size : Int32) (r_tokens : Nat → Int32) (r_values : Nat → Int32) (Q : Int32 → Int32 → Int32 → (Nat → Int32) → Prop) (A : Nat → Prop) : Array Value → State → Outcome → State → Prop := va_Qi (fun (r : Int32) (u : Int32 × Int32 × (Nat → Int32)) => Q r u.1 u.2.1 u.2.2) (fun (u : Int32 × Int32 × (Nat → Int32)) (t : State) => va_P (dC, dI) vwCl (vX5_readBoth cI cZ h h_tokens h_places h_values h_steps h_ends h_acts h_numbers f_lines f_fault f_place f_size u.1 u.2.1 u.2.2 r_tokens r_values) t.heap ∧ va_K (dC, dI) vwCl (tysA cI cZ cO cW) t ∧ va_D A (vX5_readBoth cI cZ h h_tokens h_places h_values h_steps h_ends h_acts h_numbers f_lines f_fault f_place f_size u.1 u.2.1 u.2.2 r_tokens r_values)) A
def zsX5_readBoth : List Cond := Cond.code yX5_readBoth cX5_readBoth 3 (some .boolean) :: GW
set_option maxHeartbeats 4000000 in
set_option maxRecDepth 100000 in
theorem tX5_readBoth_12 {p : Program} {l : Launch} {e : Env} {s : State} {m : MethodId} {args : Array Value} {below : List Frame} {meth : Method} {c : Code} {dC : Nat → ClassId} {dI : Nat → Nat → Nat} {cI cZ cO cW : ClassId} {A : Nat → Prop} {h h_tokens h_places h_values h_steps h_ends h_acts h_numbers : Nat} {f_lines f_fault f_place : Int32} {Q : Int32 → Int32 → Int32 → (Nat → Int32) → Prop} {d : Nat} {RA : (Int32 → Int32 → Int32 → (Nat → Int32) → Prop) → Int32 → Int32 → Int32 → Int32 → (Nat → Int32) → (Nat → Int32) → (Nat → Int32) → Prop}  (hC : Cx p s m args meth c cX5_readBoth (some .boolean) 3 GW RX5) (hK : va_K (dC, dI) vwCl (tysA cI cZ cO cW) s) (hA : ∀ q : Nat, s.heap.size ≤ q → A q) (hRec : ∀ (h h_tokens h_places h_values h_steps h_ends h_acts h_numbers : Nat) (sz : Nat) (f_lines : Int32) (f_fault : Int32) (f_place : Int32) (f_size : Int32) (f_at : Int32) (f_stepped : Int32) (r_steps : Nat → Int32) (r_tokens : Nat → Int32) (r_values : Nat → Int32) (x1 : Int32) (Q : Int32 → Int32 → Int32 → (Nat → Int32) → Prop), RA Q x1 f_size f_at f_stepped r_steps r_tokens r_values → Met l yX5_readTerm zsX5_readTerm (rmX5_readTerm_d d) (va_Pc [.ref h, .int x1] (fun U => U.heap.size = sz ∧ va_P (dC, dI) vwCl (vX5_readTerm cI cZ h h_tokens h_places h_values h_steps h_ends h_acts h_numbers f_lines f_fault f_place f_size f_at f_stepped r_steps r_tokens r_values) U.heap ∧ va_K (dC, dI) vwCl (tysA cI cZ cO cW) U ∧ va_D (fun _ => True) (vX5_readTerm cI cZ h h_tokens h_places h_values h_steps h_ends h_acts h_numbers f_lines f_fault f_place f_size f_at f_stepped r_steps r_tokens r_values))) (qX5_readTerm dC dI cI cZ cO cW h h_tokens h_places h_values h_steps h_ends h_acts h_numbers f_lines f_fault f_place f_size r_tokens r_values Q (va_A (vX5_readTerm cI cZ h h_tokens h_places h_values h_steps h_ends h_acts h_numbers f_lines f_fault f_place f_size f_at f_stepped r_steps r_tokens r_values) sz)) 0 0 (va_A (vX5_readTerm cI cZ h h_tokens h_places h_values h_steps h_ends h_acts h_numbers f_lines f_fault f_place f_size f_at f_stepped r_steps r_tokens r_values) sz)) :
    ∀ (n : Nat) (x1 : Int32) (x2 : Int32) (f_size : Int32) (f_at : Int32) (f_stepped : Int32) (r_steps : (Nat → Int32)) (r_tokens : (Nat → Int32)) (r_values : (Nat → Int32)) (H : Heap) (locs : List Loc) (ls : Array Slot), wX5_readBoth_12 RA Q  n x1 x2 f_size f_at f_stepped r_steps r_tokens r_values → va_P (dC, dI) vwCl (vX5_readBoth cI cZ h h_tokens h_places h_values h_steps h_ends h_acts h_numbers f_lines f_fault f_place f_size f_at f_stepped r_steps r_tokens r_values) H → va_D A (vX5_readBoth cI cZ h h_tokens h_places h_values h_steps h_ends h_acts h_numbers f_lines f_fault f_place f_size f_at f_stepped r_steps r_tokens r_values) → va_S A s.heap H locs → lv_has ls 3 [(0, .ref h), (1, .int x1), (2, .int x2)] → W p l e (rmX5_readBoth d) s m args below meth c H locs 0 0 (MQ below (qX5_readBoth dC dI cI cZ cO cW h h_tokens h_places h_values h_steps h_ends h_acts h_numbers f_lines f_fault f_place f_size r_tokens r_values Q A) args s 0 0 A) (F0 m 12 ls []) := by
  obtain ⟨hx, hb, hr, hml, hown, hts, hlocks⟩ := id hC
  intro n
  induction n with
  | zero =>
    intro  x1 x2 f_size f_at f_stepped r_steps r_tokens r_values H locs ls hw
    exact hw.elim
  | succ n ih =>
    intro  x1 x2 f_size f_at f_stepped r_steps r_tokens r_values H locs ls hw hP hD hS hl
    refine lv_iload_n hx hb dX5_readBoth_12 rfl (lv_at hl 2 rfl) ?_
    refine lv_sipush (v := (400 : Int32)) hx hb dX5_readBoth_13 (by decide) ?_
    refine lv_icmp_ge (tgt := 50) hx hb dX5_readBoth_16 (by decide) (fun c_1 => ?_) (fun c_1 => ?_)
    · have hw := hw.1 c_1
      refine lv_iconst (v := (1 : Int32)) hx hb dX5_readBoth_50 (by decide) ?_
      have hP9 := hP.sub (ws' := (vX5_readBoth cI cZ h h_tokens h_places h_values h_steps h_ends h_acts h_numbers f_lines f_fault f_place f_size f_at f_stepped r_steps r_tokens r_values)) [0, 1, 2, 3] rfl
      have hD9 := hD.sub (ws' := (vX5_readBoth cI cZ h h_tokens h_places h_values h_steps h_ends h_acts h_numbers f_lines f_fault f_place f_size f_at f_stepped r_steps r_tokens r_values)) [0, 1, 2, 3] (by decide) rfl
      exact W.zret (v := (1 : Int32)) (ty := .boolean) hx hb hr rfl (fun t ht hW => ⟨⟨(1 : Int32), (f_at, f_stepped, r_steps), rfl, hw, by rw [ht]; exact hP9, va_K.moved hW.alike hK, hD9⟩, hS.F ht⟩) hS.2.2 dX5_readBoth_51
    · have hw := hw.2 c_1
      refine lv_aload_n hx hb dX5_readBoth_19 rfl (lv_at hl 0 rfl) ?_
      refine lv_bipush (v := (18 : Int32)) hx hb dX5_readBoth_20 (by decide) ?_
      have hPc := hP.sub (ws' := [(h, .inr (5, [.ref h_tokens, .ref h_places, .ref h_values, .int f_size, .int f_at, .ref h_steps, .ref h_ends, .ref h_acts, .ref h_numbers, .int f_stepped, .int f_lines, .int f_fault, .int f_place])), (h_tokens, .inl (cI, 401, .inl r_tokens))]) [0, 2] rfl
      have hDc := hD.sub (ws' := [(h, .inr (5, [.ref h_tokens, .ref h_places, .ref h_values, .int f_size, .int f_at, .ref h_steps, .ref h_ends, .ref h_acts, .ref h_numbers, .int f_stepped, .int f_lines, .int f_fault, .int f_place])), (h_tokens, .inl (cI, 401, .inl r_tokens))]) [0, 2] (by decide) rfl
      have hFc := va_free (wc := [(h, .inr (5, [.ref h_tokens, .ref h_places, .ref h_values, .int f_size, .int f_at, .ref h_steps, .ref h_ends, .ref h_acts, .ref h_numbers, .int f_stepped, .int f_lines, .int f_fault, .int f_place])), (h_tokens, .inl (cI, 401, .inl r_tokens))]) hD hS hA [0, 2] rfl
      refine va_calli (va_runV (As := [.int (18 : Int32)]) (rest := []) ⟨hx, hb, hml, hown, hts⟩ (kX5_take l dC dI cI cZ cO cW h h_tokens h_places h_values h_steps h_ends h_acts h_numbers H.size f_stepped f_lines f_fault f_place f_size f_at r_tokens (18 : Int32) _ hw) (cwV 1 hts (gV gw_376 gw_377 gw_378 gw_329 (gM gw_355)) rfl rfl rfl (by decide +kernel) ⟨(show (0) + 1 ≤ 3 * d + 4 by omega), (show 8 + (2 + 11) + (0) ≤ 67 * d + 90 by omega)⟩) (pv_of hPc hK hDc (va_recv hK hPc (ci := 5) (q0 := 0) rfl rfl)) rfl rfl hl.1 rfl (lv_room (Nat.le_of_ble_eq_true rfl)) dX5_readBoth_22 ⟨Nat.zero_le _, Nat.zero_le _⟩) hS (fun q _ h => hFc q h) hFc (fun r_3 u t H locs ht hvm hw hB hz1 hk1 hS => ?_)
      obtain ⟨f_at_2, rfl⟩ : ∃ z, z = u := ⟨_, rfl⟩
      obtain ⟨hP, hD⟩ := af_join (wr := [(h_steps, .inl (cI, 400, .inl r_steps)), (h_values, .inl (cI, 401, .inl r_values))]) (w1 := [(h, .inr (5, [.ref h_tokens, .ref h_places, .ref h_values, .int f_size, .int f_at_2, .ref h_steps, .ref h_ends, .ref h_acts, .ref h_numbers, .int f_stepped, .int f_lines, .int f_fault, .int f_place])), (h_tokens, .inl (cI, 401, .inl r_tokens))]) hB ht hP hD [0, 2] [1, 3] rfl rfl (by decide) (by decide) hk1 hFc
      have hP : va_P (dC, dI) vwCl [(h_steps, .inl (cI, 400, .inl r_steps)), (h_values, .inl (cI, 401, .inl r_values)), (h, .inr (5, [.ref h_tokens, .ref h_places, .ref h_values, .int f_size, .int f_at_2, .ref h_steps, .ref h_ends, .ref h_acts, .ref h_numbers, .int f_stepped, .int f_lines, .int f_fault, .int f_place])), (h_tokens, .inl (cI, 401, .inl r_tokens))] _ := hP
      have hD : va_D A [(h_steps, .inl (cI, 400, .inl r_steps)), (h_values, .inl (cI, 401, .inl r_values)), (h, .inr (5, [.ref h_tokens, .ref h_places, .ref h_values, .int f_size, .int f_at_2, .ref h_steps, .ref h_ends, .ref h_acts, .ref h_numbers, .int f_stepped, .int f_lines, .int f_fault, .int f_place])), (h_tokens, .inl (cI, 401, .inl r_tokens))] := hD
      refine lv_if_eq (tgt := 50) hx hb dX5_readBoth_25 (by decide) (fun c_4 => ?_) (fun c_4 => ?_)
      · have hw := hw.1 c_4
        refine lv_iconst (v := (1 : Int32)) hx hb dX5_readBoth_50 (by decide) ?_
        have hP9 := hP.sub (ws' := (vX5_readBoth cI cZ h h_tokens h_places h_values h_steps h_ends h_acts h_numbers f_lines f_fault f_place f_size f_at_2 f_stepped r_steps r_tokens r_values)) [2, 0, 3, 1] rfl
        have hD9 := hD.sub (ws' := (vX5_readBoth cI cZ h h_tokens h_places h_values h_steps h_ends h_acts h_numbers f_lines f_fault f_place f_size f_at_2 f_stepped r_steps r_tokens r_values)) [2, 0, 3, 1] (by decide) rfl
        exact W.zret (v := (1 : Int32)) (ty := .boolean) hx hb hr rfl (fun t ht hW => ⟨⟨(1 : Int32), (f_at_2, f_stepped, r_steps), rfl, hw, by rw [ht]; exact hP9, va_K.moved hW.alike hK, hD9⟩, hS.F ht⟩) hS.2.2 dX5_readBoth_51
      · have hw := hw.2 c_4
        refine lv_aload_n hx hb dX5_readBoth_28 rfl (lv_at hl 0 rfl) ?_
        refine lv_iload_n hx hb dX5_readBoth_29 rfl (lv_at hl 1 rfl) ?_
        have hPc := hP.sub (ws' := [(h, .inr (5, [.ref h_tokens, .ref h_places, .ref h_values, .int f_size, .int f_at_2, .ref h_steps, .ref h_ends, .ref h_acts, .ref h_numbers, .int f_stepped, .int f_lines, .int f_fault, .int f_place])), (h_steps, .inl (cI, 400, .inl r_steps)), (h_tokens, .inl (cI, 401, .inl r_tokens)), (h_values, .inl (cI, 401, .inl r_values))]) [2, 0, 3, 1] rfl
        have hDc := hD.sub (ws' := [(h, .inr (5, [.ref h_tokens, .ref h_places, .ref h_values, .int f_size, .int f_at_2, .ref h_steps, .ref h_ends, .ref h_acts, .ref h_numbers, .int f_stepped, .int f_lines, .int f_fault, .int f_place])), (h_steps, .inl (cI, 400, .inl r_steps)), (h_tokens, .inl (cI, 401, .inl r_tokens)), (h_values, .inl (cI, 401, .inl r_values))]) [2, 0, 3, 1] (by decide) rfl
        have hFc := va_free (wc := [(h, .inr (5, [.ref h_tokens, .ref h_places, .ref h_values, .int f_size, .int f_at_2, .ref h_steps, .ref h_ends, .ref h_acts, .ref h_numbers, .int f_stepped, .int f_lines, .int f_fault, .int f_place])), (h_steps, .inl (cI, 400, .inl r_steps)), (h_tokens, .inl (cI, 401, .inl r_tokens)), (h_values, .inl (cI, 401, .inl r_values))]) hD hS hA [2, 0, 3, 1] rfl
        refine va_calli (va_runV (As := [.int x1]) (rest := []) ⟨hx, hb, hml, hown, hts⟩ (kX5_readOne l dC dI cI cZ cO cW h h_tokens h_places h_values h_steps h_ends h_acts h_numbers H.size f_lines f_fault f_place f_size f_at_2 f_stepped r_steps r_tokens r_values x1 _ d RA hRec hw) (cwV 1 hts (gV gw_373 gw_374 gw_375 gw_329 (gM gw_379)) rfl rfl rfl (by decide +kernel) ⟨(show (3 * d + 3) + 1 ≤ 3 * d + 4 by omega), (show 8 + (4 + 11) + (67 * d + 67) ≤ 67 * d + 90 by omega)⟩) (pv_of hPc hK hDc (va_recv hK hPc (ci := 5) (q0 := 0) rfl rfl)) rfl rfl hl.1 rfl (lv_room (Nat.le_of_ble_eq_true rfl)) dX5_readBoth_30 ⟨Nat.zero_le _, Nat.zero_le _⟩) hS (fun q _ h => hFc q h) hFc (fun r_8 u t H locs ht hvm hw hB hz1 hk1 hS => ?_)
        obtain ⟨f_at_5, f_stepped_6, r_steps_7⟩ := u
        obtain ⟨hP, hD⟩ := af_join (wr := []) (w1 := [(h, .inr (5, [.ref h_tokens, .ref h_places, .ref h_values, .int f_size, .int f_at_5, .ref h_steps, .ref h_ends, .ref h_acts, .ref h_numbers, .int f_stepped_6, .int f_lines, .int f_fault, .int f_place])), (h_steps, .inl (cI, 400, .inl r_steps_7)), (h_tokens, .inl (cI, 401, .inl r_tokens)), (h_values, .inl (cI, 401, .inl r_values))]) hB ht hP hD [2, 0, 3, 1] [] rfl rfl (by decide) (by decide) hk1 hFc
        have hP : va_P (dC, dI) vwCl [(h, .inr (5, [.ref h_tokens, .ref h_places, .ref h_values, .int f_size, .int f_at_5, .ref h_steps, .ref h_ends, .ref h_acts, .ref h_numbers, .int f_stepped_6, .int f_lines, .int f_fault, .int f_place])), (h_steps, .inl (cI, 400, .inl r_steps_7)), (h_tokens, .inl (cI, 401, .inl r_tokens)), (h_values, .inl (cI, 401, .inl r_values))] _ := hP
        have hD : va_D A [(h, .inr (5, [.ref h_tokens, .ref h_places, .ref h_values, .int f_size, .int f_at_5, .ref h_steps, .ref h_ends, .ref h_acts, .ref h_numbers, .int f_stepped_6, .int f_lines, .int f_fault, .int f_place])), (h_steps, .inl (cI, 400, .inl r_steps_7)), (h_tokens, .inl (cI, 401, .inl r_tokens)), (h_values, .inl (cI, 401, .inl r_values))] := hD
        refine lv_if_ne (tgt := 38) hx hb dX5_readBoth_33 (by decide) (fun c_9 => ?_) (fun c_9 => ?_)
        · have hw := hw.1 c_9
          refine lv_aload_n hx hb dX5_readBoth_38 rfl (lv_at hl 0 rfl) ?_
          refine lv_bipush (v := (-2 : Int32)) hx hb dX5_readBoth_39 (by decide) ?_
          have hPc := hP.sub (ws' := [(h, .inr (5, [.ref h_tokens, .ref h_places, .ref h_values, .int f_size, .int f_at_5, .ref h_steps, .ref h_ends, .ref h_acts, .ref h_numbers, .int f_stepped_6, .int f_lines, .int f_fault, .int f_place])), (h_steps, .inl (cI, 400, .inl r_steps_7))]) [0, 1] rfl
          have hDc := hD.sub (ws' := [(h, .inr (5, [.ref h_tokens, .ref h_places, .ref h_values, .int f_size, .int f_at_5, .ref h_steps, .ref h_ends, .ref h_acts, .ref h_numbers, .int f_stepped_6, .int f_lines, .int f_fault, .int f_place])), (h_steps, .inl (cI, 400, .inl r_steps_7))]) [0, 1] (by decide) rfl
          have hFc := va_free (wc := [(h, .inr (5, [.ref h_tokens, .ref h_places, .ref h_values, .int f_size, .int f_at_5, .ref h_steps, .ref h_ends, .ref h_acts, .ref h_numbers, .int f_stepped_6, .int f_lines, .int f_fault, .int f_place])), (h_steps, .inl (cI, 400, .inl r_steps_7))]) hD hS hA [0, 1] rfl
          refine va_callv (va_runV (As := [.int (-2 : Int32)]) (rest := []) ⟨hx, hb, hml, hown, hts⟩ (kX5_addStep l dC dI cI cZ cO cW h h_tokens h_places h_values h_steps h_ends h_acts h_numbers H.size f_size f_at_5 f_lines f_fault f_place f_stepped_6 r_steps_7 (-2 : Int32) _ hw) (cwV 1 hts (gV gw_369 gw_370 gw_371 gw_329 (gM gw_356)) rfl rfl rfl (by decide +kernel) ⟨(show (0) + 1 ≤ 3 * d + 4 by omega), (show 8 + (2 + 11) + (0) ≤ 67 * d + 90 by omega)⟩) (pv_of hPc hK hDc (va_recv hK hPc (ci := 5) (q0 := 0) rfl rfl)) rfl rfl hl.1 rfl (lv_room (Nat.le_of_ble_eq_true rfl)) dX5_readBoth_41 ⟨Nat.zero_le _, Nat.zero_le _⟩) hS (fun q _ h => hFc q h) hFc (fun u t H locs ht hvm hw hB hz1 hk1 hS => ?_)
          obtain ⟨f_stepped_10, r_steps_11⟩ := u
          obtain ⟨hP, hD⟩ := af_join (wr := [(h_tokens, .inl (cI, 401, .inl r_tokens)), (h_values, .inl (cI, 401, .inl r_values))]) (w1 := [(h, .inr (5, [.ref h_tokens, .ref h_places, .ref h_values, .int f_size, .int f_at_5, .ref h_steps, .ref h_ends, .ref h_acts, .ref h_numbers, .int f_stepped_10, .int f_lines, .int f_fault, .int f_place])), (h_steps, .inl (cI, 400, .inl r_steps_11))]) hB ht hP hD [0, 1] [2, 3] rfl rfl (by decide) (by decide) hk1 hFc
          have hP : va_P (dC, dI) vwCl [(h_tokens, .inl (cI, 401, .inl r_tokens)), (h_values, .inl (cI, 401, .inl r_values)), (h, .inr (5, [.ref h_tokens, .ref h_places, .ref h_values, .int f_size, .int f_at_5, .ref h_steps, .ref h_ends, .ref h_acts, .ref h_numbers, .int f_stepped_10, .int f_lines, .int f_fault, .int f_place])), (h_steps, .inl (cI, 400, .inl r_steps_11))] _ := hP
          have hD : va_D A [(h_tokens, .inl (cI, 401, .inl r_tokens)), (h_values, .inl (cI, 401, .inl r_values)), (h, .inr (5, [.ref h_tokens, .ref h_places, .ref h_values, .int f_size, .int f_at_5, .ref h_steps, .ref h_ends, .ref h_acts, .ref h_numbers, .int f_stepped_10, .int f_lines, .int f_fault, .int f_place])), (h_steps, .inl (cI, 400, .inl r_steps_11))] := hD
          refine lv_iinc (v := (x2 + (1 : Int32))) (lv' := [(2, .int (x2 + (1 : Int32))), (0, .ref h), (1, .int x1)]) hx hb dX5_readBoth_44 hl (k := 2) rfl rfl (by decide) rfl (fun ls hl => ?_)
          refine lv_goto (tgt := 12) hx hb dX5_readBoth_47 (by decide) ?_
          exact ih x1 (x2 + (1 : Int32)) f_size f_at_5 f_stepped_10 r_steps_11 r_tokens r_values _ _ ls hw (hP.sub [2, 3, 0, 1] rfl) (hD.sub [2, 3, 0, 1] (by decide) rfl) hS (lv_sub hl [1, 2, 0] rfl)
        · have hw := hw.2 c_9
          refine lv_iconst (v := (0 : Int32)) hx hb dX5_readBoth_36 (by decide) ?_
          have hP9 := hP.sub (ws' := (vX5_readBoth cI cZ h h_tokens h_places h_values h_steps h_ends h_acts h_numbers f_lines f_fault f_place f_size f_at_5 f_stepped_6 r_steps_7 r_tokens r_values)) [0, 1, 2, 3] rfl
          have hD9 := hD.sub (ws' := (vX5_readBoth cI cZ h h_tokens h_places h_values h_steps h_ends h_acts h_numbers f_lines f_fault f_place f_size f_at_5 f_stepped_6 r_steps_7 r_tokens r_values)) [0, 1, 2, 3] (by decide) rfl
          exact W.zret (v := (0 : Int32)) (ty := .boolean) hx hb hr rfl (fun t ht hW => ⟨⟨(0 : Int32), (f_at_5, f_stepped_6, r_steps_7), rfl, hw, by rw [ht]; exact hP9, va_K.moved hW.alike hK, hD9⟩, hS.F ht⟩) hS.2.2 dX5_readBoth_37
set_option maxHeartbeats 4000000 in
set_option maxRecDepth 100000 in
theorem tX5_readBoth_e {p : Program} {l : Launch} {e : Env} {s : State} {m : MethodId} {args : Array Value} {below : List Frame} {meth : Method} {c : Code} {dC : Nat → ClassId} {dI : Nat → Nat → Nat} {cI cZ cO cW : ClassId} {A : Nat → Prop} {h h_tokens h_places h_values h_steps h_ends h_acts h_numbers : Nat} {f_lines f_fault f_place : Int32} {Q : Int32 → Int32 → Int32 → (Nat → Int32) → Prop} {d : Nat} {RA : (Int32 → Int32 → Int32 → (Nat → Int32) → Prop) → Int32 → Int32 → Int32 → Int32 → (Nat → Int32) → (Nat → Int32) → (Nat → Int32) → Prop} (hC : Cx p s m args meth c cX5_readBoth (some .boolean) 3 GW RX5) (hK : va_K (dC, dI) vwCl (tysA cI cZ cO cW) s) (hA : ∀ q : Nat, s.heap.size ≤ q → A q) (hRec : ∀ (h h_tokens h_places h_values h_steps h_ends h_acts h_numbers : Nat) (sz : Nat) (f_lines : Int32) (f_fault : Int32) (f_place : Int32) (f_size : Int32) (f_at : Int32) (f_stepped : Int32) (r_steps : Nat → Int32) (r_tokens : Nat → Int32) (r_values : Nat → Int32) (x1 : Int32) (Q : Int32 → Int32 → Int32 → (Nat → Int32) → Prop), RA Q x1 f_size f_at f_stepped r_steps r_tokens r_values → Met l yX5_readTerm zsX5_readTerm (rmX5_readTerm_d d) (va_Pc [.ref h, .int x1] (fun U => U.heap.size = sz ∧ va_P (dC, dI) vwCl (vX5_readTerm cI cZ h h_tokens h_places h_values h_steps h_ends h_acts h_numbers f_lines f_fault f_place f_size f_at f_stepped r_steps r_tokens r_values) U.heap ∧ va_K (dC, dI) vwCl (tysA cI cZ cO cW) U ∧ va_D (fun _ => True) (vX5_readTerm cI cZ h h_tokens h_places h_values h_steps h_ends h_acts h_numbers f_lines f_fault f_place f_size f_at f_stepped r_steps r_tokens r_values))) (qX5_readTerm dC dI cI cZ cO cW h h_tokens h_places h_values h_steps h_ends h_acts h_numbers f_lines f_fault f_place f_size r_tokens r_values Q (va_A (vX5_readTerm cI cZ h h_tokens h_places h_values h_steps h_ends h_acts h_numbers f_lines f_fault f_place f_size f_at f_stepped r_steps r_tokens r_values) sz)) 0 0 (va_A (vX5_readTerm cI cZ h h_tokens h_places h_values h_steps h_ends h_acts h_numbers f_lines f_fault f_place f_size f_at f_stepped r_steps r_tokens r_values) sz)) :
    ∀ (x1 : Int32) (f_size : Int32) (f_at : Int32) (f_stepped : Int32) (r_steps : Nat → Int32) (r_tokens : Nat → Int32) (r_values : Nat → Int32) (H : Heap) (locs : List Loc) (ls : Array Slot), wX5_readBoth RA Q x1 f_size f_at f_stepped r_steps r_tokens r_values → va_P (dC, dI) vwCl (vX5_readBoth cI cZ h h_tokens h_places h_values h_steps h_ends h_acts h_numbers f_lines f_fault f_place f_size f_at f_stepped r_steps r_tokens r_values) H → va_D A (vX5_readBoth cI cZ h h_tokens h_places h_values h_steps h_ends h_acts h_numbers f_lines f_fault f_place f_size f_at f_stepped r_steps r_tokens r_values) → va_S A s.heap H locs → lv_has ls 3 [(0, .ref h), (1, .int x1)] → W p l e (rmX5_readBoth d) s m args below meth c H locs 0 0 (MQ below (qX5_readBoth dC dI cI cZ cO cW h h_tokens h_places h_values h_steps h_ends h_acts h_numbers f_lines f_fault f_place f_size r_tokens r_values Q A) args s 0 0 A) (F0 m 0 ls []) := by
  obtain ⟨hx, hb, hr, hml, hown, hts, hlocks⟩ := id hC
  intro x1 f_size f_at f_stepped r_steps r_tokens r_values H locs ls hw hP hD hS hl
  refine lv_aload_n hx hb dX5_readBoth_0 rfl (lv_at hl 0 rfl) ?_
  refine lv_iload_n hx hb dX5_readBoth_1 rfl (lv_at hl 1 rfl) ?_
  have hPc := hP.sub (ws' := [(h, .inr (5, [.ref h_tokens, .ref h_places, .ref h_values, .int f_size, .int f_at, .ref h_steps, .ref h_ends, .ref h_acts, .ref h_numbers, .int f_stepped, .int f_lines, .int f_fault, .int f_place])), (h_steps, .inl (cI, 400, .inl r_steps)), (h_tokens, .inl (cI, 401, .inl r_tokens)), (h_values, .inl (cI, 401, .inl r_values))]) [0, 1, 2, 3] rfl
  have hDc := hD.sub (ws' := [(h, .inr (5, [.ref h_tokens, .ref h_places, .ref h_values, .int f_size, .int f_at, .ref h_steps, .ref h_ends, .ref h_acts, .ref h_numbers, .int f_stepped, .int f_lines, .int f_fault, .int f_place])), (h_steps, .inl (cI, 400, .inl r_steps)), (h_tokens, .inl (cI, 401, .inl r_tokens)), (h_values, .inl (cI, 401, .inl r_values))]) [0, 1, 2, 3] (by decide) rfl
  have hFc := va_free (wc := [(h, .inr (5, [.ref h_tokens, .ref h_places, .ref h_values, .int f_size, .int f_at, .ref h_steps, .ref h_ends, .ref h_acts, .ref h_numbers, .int f_stepped, .int f_lines, .int f_fault, .int f_place])), (h_steps, .inl (cI, 400, .inl r_steps)), (h_tokens, .inl (cI, 401, .inl r_tokens)), (h_values, .inl (cI, 401, .inl r_values))]) hD hS hA [0, 1, 2, 3] rfl
  refine va_calli (va_runV (As := [.int x1]) (rest := []) ⟨hx, hb, hml, hown, hts⟩ (kX5_readOne l dC dI cI cZ cO cW h h_tokens h_places h_values h_steps h_ends h_acts h_numbers H.size f_lines f_fault f_place f_size f_at f_stepped r_steps r_tokens r_values x1 _ d RA hRec hw) (cwV 1 hts (gV gw_373 gw_374 gw_375 gw_329 (gM gw_379)) rfl rfl rfl (by decide +kernel) ⟨(show (3 * d + 3) + 1 ≤ 3 * d + 4 by omega), (show 8 + (4 + 11) + (67 * d + 67) ≤ 67 * d + 90 by omega)⟩) (pv_of hPc hK hDc (va_recv hK hPc (ci := 5) (q0 := 0) rfl rfl)) rfl rfl hl.1 rfl (lv_room (Nat.le_of_ble_eq_true rfl)) dX5_readBoth_2 ⟨Nat.zero_le _, Nat.zero_le _⟩) hS (fun q _ h => hFc q h) hFc (fun r_15 u t H locs ht hvm hw hB hz1 hk1 hS => ?_)
  obtain ⟨f_at_12, f_stepped_13, r_steps_14⟩ := u
  obtain ⟨hP, hD⟩ := af_join (wr := []) (w1 := [(h, .inr (5, [.ref h_tokens, .ref h_places, .ref h_values, .int f_size, .int f_at_12, .ref h_steps, .ref h_ends, .ref h_acts, .ref h_numbers, .int f_stepped_13, .int f_lines, .int f_fault, .int f_place])), (h_steps, .inl (cI, 400, .inl r_steps_14)), (h_tokens, .inl (cI, 401, .inl r_tokens)), (h_values, .inl (cI, 401, .inl r_values))]) hB ht hP hD [0, 1, 2, 3] [] rfl rfl (by decide) (by decide) hk1 hFc
  have hP : va_P (dC, dI) vwCl [(h, .inr (5, [.ref h_tokens, .ref h_places, .ref h_values, .int f_size, .int f_at_12, .ref h_steps, .ref h_ends, .ref h_acts, .ref h_numbers, .int f_stepped_13, .int f_lines, .int f_fault, .int f_place])), (h_steps, .inl (cI, 400, .inl r_steps_14)), (h_tokens, .inl (cI, 401, .inl r_tokens)), (h_values, .inl (cI, 401, .inl r_values))] _ := hP
  have hD : va_D A [(h, .inr (5, [.ref h_tokens, .ref h_places, .ref h_values, .int f_size, .int f_at_12, .ref h_steps, .ref h_ends, .ref h_acts, .ref h_numbers, .int f_stepped_13, .int f_lines, .int f_fault, .int f_place])), (h_steps, .inl (cI, 400, .inl r_steps_14)), (h_tokens, .inl (cI, 401, .inl r_tokens)), (h_values, .inl (cI, 401, .inl r_values))] := hD
  refine lv_if_ne (tgt := 10) hx hb dX5_readBoth_5 (by decide) (fun c_16 => ?_) (fun c_16 => ?_)
  · have hw := hw.1 c_16
    refine lv_iconst (v := (0 : Int32)) hx hb dX5_readBoth_10 (by decide) ?_
    refine lv_istore_n (lv' := [(2, .int (0 : Int32)), (0, .ref h), (1, .int x1)]) hx hb dX5_readBoth_11 rfl hl (by decide) rfl (fun ls hl => ?_)
    obtain ⟨n_17, hw⟩ := hw
    exact tX5_readBoth_12 hC hK hA hRec  n_17 x1 (0 : Int32) f_size f_at_12 f_stepped_13 r_steps_14 r_tokens r_values _ _ ls hw (hP.sub [0, 1, 2, 3] rfl) (hD.sub [0, 1, 2, 3] (by decide) rfl) hS (lv_sub hl [1, 2, 0] rfl)
  · have hw := hw.2 c_16
    refine lv_iconst (v := (0 : Int32)) hx hb dX5_readBoth_8 (by decide) ?_
    have hP9 := hP.sub (ws' := (vX5_readBoth cI cZ h h_tokens h_places h_values h_steps h_ends h_acts h_numbers f_lines f_fault f_place f_size f_at_12 f_stepped_13 r_steps_14 r_tokens r_values)) [0, 1, 2, 3] rfl
    have hD9 := hD.sub (ws' := (vX5_readBoth cI cZ h h_tokens h_places h_values h_steps h_ends h_acts h_numbers f_lines f_fault f_place f_size f_at_12 f_stepped_13 r_steps_14 r_tokens r_values)) [0, 1, 2, 3] (by decide) rfl
    exact W.zret (v := (0 : Int32)) (ty := .boolean) hx hb hr rfl (fun t ht hW => ⟨⟨(0 : Int32), (f_at_12, f_stepped_13, r_steps_14), rfl, hw, by rw [ht]; exact hP9, va_K.moved hW.alike hK, hD9⟩, hS.F ht⟩) hS.2.2 dX5_readBoth_9
set_option maxHeartbeats 4000000 in
set_option maxRecDepth 100000 in
theorem kX5_readBoth (l : Launch) (dC : Nat → ClassId) (dI : Nat → Nat → Nat) (cI cZ cO cW : ClassId) (h h_tokens h_places h_values h_steps h_ends h_acts h_numbers : Nat)  (sz : Nat) (f_lines : Int32) (f_fault : Int32) (f_place : Int32) (f_size : Int32) (f_at : Int32) (f_stepped : Int32) (r_steps : Nat → Int32) (r_tokens : Nat → Int32) (r_values : Nat → Int32) (x1 : Int32) (Q : Int32 → Int32 → Int32 → (Nat → Int32) → Prop) (d : Nat) (RA : (Int32 → Int32 → Int32 → (Nat → Int32) → Prop) → Int32 → Int32 → Int32 → Int32 → (Nat → Int32) → (Nat → Int32) → (Nat → Int32) → Prop) (hRec : ∀ (h h_tokens h_places h_values h_steps h_ends h_acts h_numbers : Nat) (sz : Nat) (f_lines : Int32) (f_fault : Int32) (f_place : Int32) (f_size : Int32) (f_at : Int32) (f_stepped : Int32) (r_steps : Nat → Int32) (r_tokens : Nat → Int32) (r_values : Nat → Int32) (x1 : Int32) (Q : Int32 → Int32 → Int32 → (Nat → Int32) → Prop), RA Q x1 f_size f_at f_stepped r_steps r_tokens r_values → Met l yX5_readTerm zsX5_readTerm (rmX5_readTerm_d d) (va_Pc [.ref h, .int x1] (fun U => U.heap.size = sz ∧ va_P (dC, dI) vwCl (vX5_readTerm cI cZ h h_tokens h_places h_values h_steps h_ends h_acts h_numbers f_lines f_fault f_place f_size f_at f_stepped r_steps r_tokens r_values) U.heap ∧ va_K (dC, dI) vwCl (tysA cI cZ cO cW) U ∧ va_D (fun _ => True) (vX5_readTerm cI cZ h h_tokens h_places h_values h_steps h_ends h_acts h_numbers f_lines f_fault f_place f_size f_at f_stepped r_steps r_tokens r_values))) (qX5_readTerm dC dI cI cZ cO cW h h_tokens h_places h_values h_steps h_ends h_acts h_numbers f_lines f_fault f_place f_size r_tokens r_values Q (va_A (vX5_readTerm cI cZ h h_tokens h_places h_values h_steps h_ends h_acts h_numbers f_lines f_fault f_place f_size f_at f_stepped r_steps r_tokens r_values) sz)) 0 0 (va_A (vX5_readTerm cI cZ h h_tokens h_places h_values h_steps h_ends h_acts h_numbers f_lines f_fault f_place f_size f_at f_stepped r_steps r_tokens r_values) sz)) (hw : wX5_readBoth RA Q x1 f_size f_at f_stepped r_steps r_tokens r_values) : Met l yX5_readBoth zsX5_readBoth (rmX5_readBoth d) (va_Pc [.ref h, .int x1] (fun U => U.heap.size = sz ∧ va_P (dC, dI) vwCl (vX5_readBoth cI cZ h h_tokens h_places h_values h_steps h_ends h_acts h_numbers f_lines f_fault f_place f_size f_at f_stepped r_steps r_tokens r_values) U.heap ∧ va_K (dC, dI) vwCl (tysA cI cZ cO cW) U ∧ va_D (fun _ => True) (vX5_readBoth cI cZ h h_tokens h_places h_values h_steps h_ends h_acts h_numbers f_lines f_fault f_place f_size f_at f_stepped r_steps r_tokens r_values))) (qX5_readBoth dC dI cI cZ cO cW h h_tokens h_places h_values h_steps h_ends h_acts h_numbers f_lines f_fault f_place f_size r_tokens r_values Q (va_A (vX5_readBoth cI cZ h h_tokens h_places h_values h_steps h_ends h_acts h_numbers f_lines f_fault f_place f_size f_at f_stepped r_steps r_tokens r_values) sz)) 0 0 (va_A (vX5_readBoth cI cZ h h_tokens h_places h_values h_steps h_ends h_acts h_numbers f_lines f_fault f_place f_size f_at f_stepped r_steps r_tokens r_values) sz) := by
  refine Met.ofW (cc := cX5_readBoth) (maxL := 3) (ret := (some .boolean)) (by decide) rfl ?_
  intro p e s m args below meth c s₁ B hml hv
  obtain ⟨rfl, hsz, hP, hK, hD0⟩ := hv
  subst hsz
  have hC : Cx p s m ([.ref h, .int x1] : List Value).toArray meth c cX5_readBoth (some .boolean) 3 GW RX5 := ⟨B.exec, B.bytes, B.returns, hml, findClass_of_methodNamed B.named, fun w h => atoms_spec (ws := zsX5_readBoth) B.pre w (List.mem_cons_of_mem _ h), B.notSynchronized⟩
  have hD := hD0.self (sz := s.heap.size)
  generalize hAe : va_A (vX5_readBoth cI cZ h h_tokens h_places h_values h_steps h_ends h_acts h_numbers f_lines f_fault f_place f_size f_at f_stepped r_steps r_tokens r_values) s.heap.size = A at hD ⊢
  have hA : ∀ q : Nat, s.heap.size ≤ q → A q := fun q h => by rw [← hAe]; exact Or.inr h
  have hl := lv_entry ([.ref h, .int x1]) (n := 3) (Nat.le_of_ble_eq_true rfl)
  rw [lg_entry_eq]
  generalize (lg_sl ([.ref h, .int x1]) ++ List.replicate (3 - (lg_sl ([.ref h, .int x1])).length) Slot.unset).toArray = ls at hl ⊢
  exact tX5_readBoth_e hC hK hA hRec x1 f_size f_at f_stepped r_steps r_tokens r_values _ _ ls hw hP hD va_S.rf hl

/-! X5_readTerm -/
def wX5_readTerm_18 (RA : (Int32 → Int32 → Int32 → (Nat → Int32) → Prop) → Int32 → Int32 → Int32 → Int32 → (Nat → Int32) → (Nat → Int32) → (Nat → Int32) → Prop) (Q : Int32 → Int32 → Int32 → (Nat → Int32) → Prop)   : Nat → Int32 → Int32 → Int32 → Int32 → Int32 → (Nat → Int32) → (Nat → Int32) → (Nat → Int32) → Prop
  | 0, _, _, _, _, _, _, _, _ => False
  | n + 1, x1, x2, f_size, f_at, f_stepped, r_steps, r_tokens, r_values => (((400 : Int32) ≤ x2 → (Q (1 : Int32) f_at f_stepped r_steps)) ∧ (¬ (400 : Int32) ≤ x2 → (wX5_take (fun r_3 f_at_2 => ((r_3 = 0 → (Q (1 : Int32) f_at_2 f_stepped r_steps)) ∧ (¬ r_3 = 0 → (wX5_readBoth RA (fun r_8 f_at_5 f_stepped_6 r_steps_7 => ((¬ r_8 = 0 → (wX5_addStep (fun f_stepped_10 r_steps_11 => (wX5_readTerm_18 RA Q n x1 (x2 + (1 : Int32)) f_size f_at_5 f_stepped_10 r_steps_11 r_tokens r_values)) (-3 : Int32) f_stepped_6 r_steps_7)) ∧ (r_8 = 0 → (Q (0 : Int32) f_at_5 f_stepped_6 r_steps_7)))) x1 f_size f_at_2 f_stepped r_steps r_tokens r_values)))) (17 : Int32) f_size f_at r_tokens)))
def wX5_readTerm_b (RA : (Int32 → Int32 → Int32 → (Nat → Int32) → Prop) → Int32 → Int32 → Int32 → Int32 → (Nat → Int32) → (Nat → Int32) → (Nat → Int32) → Prop) (Q : Int32 → Int32 → Int32 → (Nat → Int32) → Prop) (x1 : Int32) (f_size : Int32) (f_at : Int32) (f_stepped : Int32) (r_steps : Nat → Int32) (r_tokens : Nat → Int32) (r_values : Nat → Int32) : Prop :=
  (((8 : Int32) < x1 → (Q (0 : Int32) f_at f_stepped r_steps)) ∧ (¬ (8 : Int32) < x1 → (wX5_readBoth RA (fun r_16 f_at_13 f_stepped_14 r_steps_15 => ((¬ r_16 = 0 → (∃ j_, wX5_readTerm_18 RA Q j_ x1 (0 : Int32) f_size f_at_13 f_stepped_14 r_steps_15 r_tokens r_values)) ∧ (r_16 = 0 → (Q (0 : Int32) f_at_13 f_stepped_14 r_steps_15)))) x1 f_size f_at f_stepped r_steps r_tokens r_values)))
set_option maxHeartbeats 4000000 in
set_option maxRecDepth 100000 in
theorem tX5_readTerm_18 {p : Program} {l : Launch} {e : Env} {s : State} {m : MethodId} {args : Array Value} {below : List Frame} {meth : Method} {c : Code} {dC : Nat → ClassId} {dI : Nat → Nat → Nat} {cI cZ cO cW : ClassId} {A : Nat → Prop} {h h_tokens h_places h_values h_steps h_ends h_acts h_numbers : Nat} {f_lines f_fault f_place : Int32} {Q : Int32 → Int32 → Int32 → (Nat → Int32) → Prop} {d : Nat} {RA : (Int32 → Int32 → Int32 → (Nat → Int32) → Prop) → Int32 → Int32 → Int32 → Int32 → (Nat → Int32) → (Nat → Int32) → (Nat → Int32) → Prop}  (hC : Cx p s m args meth c cX5_readTerm (some .boolean) 3 GW RX5) (hK : va_K (dC, dI) vwCl (tysA cI cZ cO cW) s) (hA : ∀ q : Nat, s.heap.size ≤ q → A q) (hRec : ∀ (h h_tokens h_places h_values h_steps h_ends h_acts h_numbers : Nat) (sz : Nat) (f_lines : Int32) (f_fault : Int32) (f_place : Int32) (f_size : Int32) (f_at : Int32) (f_stepped : Int32) (r_steps : Nat → Int32) (r_tokens : Nat → Int32) (r_values : Nat → Int32) (x1 : Int32) (Q : Int32 → Int32 → Int32 → (Nat → Int32) → Prop), RA Q x1 f_size f_at f_stepped r_steps r_tokens r_values → Met l yX5_readTerm zsX5_readTerm (rmX5_readTerm_d d) (va_Pc [.ref h, .int x1] (fun U => U.heap.size = sz ∧ va_P (dC, dI) vwCl (vX5_readTerm cI cZ h h_tokens h_places h_values h_steps h_ends h_acts h_numbers f_lines f_fault f_place f_size f_at f_stepped r_steps r_tokens r_values) U.heap ∧ va_K (dC, dI) vwCl (tysA cI cZ cO cW) U ∧ va_D (fun _ => True) (vX5_readTerm cI cZ h h_tokens h_places h_values h_steps h_ends h_acts h_numbers f_lines f_fault f_place f_size f_at f_stepped r_steps r_tokens r_values))) (qX5_readTerm dC dI cI cZ cO cW h h_tokens h_places h_values h_steps h_ends h_acts h_numbers f_lines f_fault f_place f_size r_tokens r_values Q (va_A (vX5_readTerm cI cZ h h_tokens h_places h_values h_steps h_ends h_acts h_numbers f_lines f_fault f_place f_size f_at f_stepped r_steps r_tokens r_values) sz)) 0 0 (va_A (vX5_readTerm cI cZ h h_tokens h_places h_values h_steps h_ends h_acts h_numbers f_lines f_fault f_place f_size f_at f_stepped r_steps r_tokens r_values) sz)) :
    ∀ (n : Nat) (x1 : Int32) (x2 : Int32) (f_size : Int32) (f_at : Int32) (f_stepped : Int32) (r_steps : (Nat → Int32)) (r_tokens : (Nat → Int32)) (r_values : (Nat → Int32)) (H : Heap) (locs : List Loc) (ls : Array Slot), wX5_readTerm_18 RA Q  n x1 x2 f_size f_at f_stepped r_steps r_tokens r_values → va_P (dC, dI) vwCl (vX5_readTerm cI cZ h h_tokens h_places h_values h_steps h_ends h_acts h_numbers f_lines f_fault f_place f_size f_at f_stepped r_steps r_tokens r_values) H → va_D A (vX5_readTerm cI cZ h h_tokens h_places h_values h_steps h_ends h_acts h_numbers f_lines f_fault f_place f_size f_at f_stepped r_steps r_tokens r_values) → va_S A s.heap H locs → lv_has ls 3 [(0, .ref h), (1, .int x1), (2, .int x2)] → W p l e (rmX5_readTerm_d (d + 1)) s m args below meth c H locs 0 0 (MQ below (qX5_readTerm dC dI cI cZ cO cW h h_tokens h_places h_values h_steps h_ends h_acts h_numbers f_lines f_fault f_place f_size r_tokens r_values Q A) args s 0 0 A) (F0 m 18 ls []) := by
  obtain ⟨hx, hb, hr, hml, hown, hts, hlocks⟩ := id hC
  intro n
  induction n with
  | zero =>
    intro  x1 x2 f_size f_at f_stepped r_steps r_tokens r_values H locs ls hw
    exact hw.elim
  | succ n ih =>
    intro  x1 x2 f_size f_at f_stepped r_steps r_tokens r_values H locs ls hw hP hD hS hl
    refine lv_iload_n hx hb dX5_readTerm_18 rfl (lv_at hl 2 rfl) ?_
    refine lv_sipush (v := (400 : Int32)) hx hb dX5_readTerm_19 (by decide) ?_
    refine lv_icmp_ge (tgt := 56) hx hb dX5_readTerm_22 (by decide) (fun c_1 => ?_) (fun c_1 => ?_)
    · have hw := hw.1 c_1
      refine lv_iconst (v := (1 : Int32)) hx hb dX5_readTerm_56 (by decide) ?_
      have hP9 := hP.sub (ws' := (vX5_readTerm cI cZ h h_tokens h_places h_values h_steps h_ends h_acts h_numbers f_lines f_fault f_place f_size f_at f_stepped r_steps r_tokens r_values)) [0, 1, 2, 3] rfl
      have hD9 := hD.sub (ws' := (vX5_readTerm cI cZ h h_tokens h_places h_values h_steps h_ends h_acts h_numbers f_lines f_fault f_place f_size f_at f_stepped r_steps r_tokens r_values)) [0, 1, 2, 3] (by decide) rfl
      exact W.zret (v := (1 : Int32)) (ty := .boolean) hx hb hr rfl (fun t ht hW => ⟨⟨(1 : Int32), (f_at, f_stepped, r_steps), rfl, hw, by rw [ht]; exact hP9, va_K.moved hW.alike hK, hD9⟩, hS.F ht⟩) hS.2.2 dX5_readTerm_57
    · have hw := hw.2 c_1
      refine lv_aload_n hx hb dX5_readTerm_25 rfl (lv_at hl 0 rfl) ?_
      refine lv_bipush (v := (17 : Int32)) hx hb dX5_readTerm_26 (by decide) ?_
      have hPc := hP.sub (ws' := [(h, .inr (5, [.ref h_tokens, .ref h_places, .ref h_values, .int f_size, .int f_at, .ref h_steps, .ref h_ends, .ref h_acts, .ref h_numbers, .int f_stepped, .int f_lines, .int f_fault, .int f_place])), (h_tokens, .inl (cI, 401, .inl r_tokens))]) [0, 2] rfl
      have hDc := hD.sub (ws' := [(h, .inr (5, [.ref h_tokens, .ref h_places, .ref h_values, .int f_size, .int f_at, .ref h_steps, .ref h_ends, .ref h_acts, .ref h_numbers, .int f_stepped, .int f_lines, .int f_fault, .int f_place])), (h_tokens, .inl (cI, 401, .inl r_tokens))]) [0, 2] (by decide) rfl
      have hFc := va_free (wc := [(h, .inr (5, [.ref h_tokens, .ref h_places, .ref h_values, .int f_size, .int f_at, .ref h_steps, .ref h_ends, .ref h_acts, .ref h_numbers, .int f_stepped, .int f_lines, .int f_fault, .int f_place])), (h_tokens, .inl (cI, 401, .inl r_tokens))]) hD hS hA [0, 2] rfl
      refine va_calli (va_runV (As := [.int (17 : Int32)]) (rest := []) ⟨hx, hb, hml, hown, hts⟩ (kX5_take l dC dI cI cZ cO cW h h_tokens h_places h_values h_steps h_ends h_acts h_numbers H.size f_stepped f_lines f_fault f_place f_size f_at r_tokens (17 : Int32) _ hw) (cwV 1 hts (gV gw_376 gw_377 gw_378 gw_329 (gM gw_355)) rfl rfl rfl (by decide +kernel) ⟨(show (0) + 1 ≤ 3 * (d + 1) + 2 by omega), (show 8 + (2 + 11) + (0) ≤ 67 * (d + 1) + 45 by omega)⟩) (pv_of hPc hK hDc (va_recv hK hPc (ci := 5) (q0 := 0) rfl rfl)) rfl rfl hl.1 rfl (lv_room (Nat.le_of_ble_eq_true rfl)) dX5_readTerm_28 ⟨Nat.zero_le _, Nat.zero_le _⟩) hS (fun q _ h => hFc q h) hFc (fun r_3 u t H locs ht hvm hw hB hz1 hk1 hS => ?_)
      obtain ⟨f_at_2, rfl⟩ : ∃ z, z = u := ⟨_, rfl⟩
      obtain ⟨hP, hD⟩ := af_join (wr := [(h_steps, .inl (cI, 400, .inl r_steps)), (h_values, .inl (cI, 401, .inl r_values))]) (w1 := [(h, .inr (5, [.ref h_tokens, .ref h_places, .ref h_values, .int f_size, .int f_at_2, .ref h_steps, .ref h_ends, .ref h_acts, .ref h_numbers, .int f_stepped, .int f_lines, .int f_fault, .int f_place])), (h_tokens, .inl (cI, 401, .inl r_tokens))]) hB ht hP hD [0, 2] [1, 3] rfl rfl (by decide) (by decide) hk1 hFc
      have hP : va_P (dC, dI) vwCl [(h_steps, .inl (cI, 400, .inl r_steps)), (h_values, .inl (cI, 401, .inl r_values)), (h, .inr (5, [.ref h_tokens, .ref h_places, .ref h_values, .int f_size, .int f_at_2, .ref h_steps, .ref h_ends, .ref h_acts, .ref h_numbers, .int f_stepped, .int f_lines, .int f_fault, .int f_place])), (h_tokens, .inl (cI, 401, .inl r_tokens))] _ := hP
      have hD : va_D A [(h_steps, .inl (cI, 400, .inl r_steps)), (h_values, .inl (cI, 401, .inl r_values)), (h, .inr (5, [.ref h_tokens, .ref h_places, .ref h_values, .int f_size, .int f_at_2, .ref h_steps, .ref h_ends, .ref h_acts, .ref h_numbers, .int f_stepped, .int f_lines, .int f_fault, .int f_place])), (h_tokens, .inl (cI, 401, .inl r_tokens))] := hD
      refine lv_if_eq (tgt := 56) hx hb dX5_readTerm_31 (by decide) (fun c_4 => ?_) (fun c_4 => ?_)
      · have hw := hw.1 c_4
        refine lv_iconst (v := (1 : Int32)) hx hb dX5_readTerm_56 (by decide) ?_
        have hP9 := hP.sub (ws' := (vX5_readTerm cI cZ h h_tokens h_places h_values h_steps h_ends h_acts h_numbers f_lines f_fault f_place f_size f_at_2 f_stepped r_steps r_tokens r_values)) [2, 0, 3, 1] rfl
        have hD9 := hD.sub (ws' := (vX5_readTerm cI cZ h h_tokens h_places h_values h_steps h_ends h_acts h_numbers f_lines f_fault f_place f_size f_at_2 f_stepped r_steps r_tokens r_values)) [2, 0, 3, 1] (by decide) rfl
        exact W.zret (v := (1 : Int32)) (ty := .boolean) hx hb hr rfl (fun t ht hW => ⟨⟨(1 : Int32), (f_at_2, f_stepped, r_steps), rfl, hw, by rw [ht]; exact hP9, va_K.moved hW.alike hK, hD9⟩, hS.F ht⟩) hS.2.2 dX5_readTerm_57
      · have hw := hw.2 c_4
        refine lv_aload_n hx hb dX5_readTerm_34 rfl (lv_at hl 0 rfl) ?_
        refine lv_iload_n hx hb dX5_readTerm_35 rfl (lv_at hl 1 rfl) ?_
        have hPc := hP.sub (ws' := [(h, .inr (5, [.ref h_tokens, .ref h_places, .ref h_values, .int f_size, .int f_at_2, .ref h_steps, .ref h_ends, .ref h_acts, .ref h_numbers, .int f_stepped, .int f_lines, .int f_fault, .int f_place])), (h_steps, .inl (cI, 400, .inl r_steps)), (h_tokens, .inl (cI, 401, .inl r_tokens)), (h_values, .inl (cI, 401, .inl r_values))]) [2, 0, 3, 1] rfl
        have hDc := hD.sub (ws' := [(h, .inr (5, [.ref h_tokens, .ref h_places, .ref h_values, .int f_size, .int f_at_2, .ref h_steps, .ref h_ends, .ref h_acts, .ref h_numbers, .int f_stepped, .int f_lines, .int f_fault, .int f_place])), (h_steps, .inl (cI, 400, .inl r_steps)), (h_tokens, .inl (cI, 401, .inl r_tokens)), (h_values, .inl (cI, 401, .inl r_values))]) [2, 0, 3, 1] (by decide) rfl
        have hFc := va_free (wc := [(h, .inr (5, [.ref h_tokens, .ref h_places, .ref h_values, .int f_size, .int f_at_2, .ref h_steps, .ref h_ends, .ref h_acts, .ref h_numbers, .int f_stepped, .int f_lines, .int f_fault, .int f_place])), (h_steps, .inl (cI, 400, .inl r_steps)), (h_tokens, .inl (cI, 401, .inl r_tokens)), (h_values, .inl (cI, 401, .inl r_values))]) hD hS hA [2, 0, 3, 1] rfl
        refine va_calli (va_runV (As := [.int x1]) (rest := []) ⟨hx, hb, hml, hown, hts⟩ (kX5_readBoth l dC dI cI cZ cO cW h h_tokens h_places h_values h_steps h_ends h_acts h_numbers H.size f_lines f_fault f_place f_size f_at_2 f_stepped r_steps r_tokens r_values x1 _ d RA hRec hw) (cwV 1 hts (gV gw_387 gw_388 gw_389 gw_329 (gM gw_390)) rfl rfl rfl (by decide +kernel) ⟨(show (3 * d + 4) + 1 ≤ 3 * (d + 1) + 2 by omega), (show 8 + (3 + 11) + (67 * d + 90) ≤ 67 * (d + 1) + 45 by omega)⟩) (pv_of hPc hK hDc (va_recv hK hPc (ci := 5) (q0 := 0) rfl rfl)) rfl rfl hl.1 rfl (lv_room (Nat.le_of_ble_eq_true rfl)) dX5_readTerm_36 ⟨Nat.zero_le _, Nat.zero_le _⟩) hS (fun q _ h => hFc q h) hFc (fun r_8 u t H locs ht hvm hw hB hz1 hk1 hS => ?_)
        obtain ⟨f_at_5, f_stepped_6, r_steps_7⟩ := u
        obtain ⟨hP, hD⟩ := af_join (wr := []) (w1 := [(h, .inr (5, [.ref h_tokens, .ref h_places, .ref h_values, .int f_size, .int f_at_5, .ref h_steps, .ref h_ends, .ref h_acts, .ref h_numbers, .int f_stepped_6, .int f_lines, .int f_fault, .int f_place])), (h_steps, .inl (cI, 400, .inl r_steps_7)), (h_tokens, .inl (cI, 401, .inl r_tokens)), (h_values, .inl (cI, 401, .inl r_values))]) hB ht hP hD [2, 0, 3, 1] [] rfl rfl (by decide) (by decide) hk1 hFc
        have hP : va_P (dC, dI) vwCl [(h, .inr (5, [.ref h_tokens, .ref h_places, .ref h_values, .int f_size, .int f_at_5, .ref h_steps, .ref h_ends, .ref h_acts, .ref h_numbers, .int f_stepped_6, .int f_lines, .int f_fault, .int f_place])), (h_steps, .inl (cI, 400, .inl r_steps_7)), (h_tokens, .inl (cI, 401, .inl r_tokens)), (h_values, .inl (cI, 401, .inl r_values))] _ := hP
        have hD : va_D A [(h, .inr (5, [.ref h_tokens, .ref h_places, .ref h_values, .int f_size, .int f_at_5, .ref h_steps, .ref h_ends, .ref h_acts, .ref h_numbers, .int f_stepped_6, .int f_lines, .int f_fault, .int f_place])), (h_steps, .inl (cI, 400, .inl r_steps_7)), (h_tokens, .inl (cI, 401, .inl r_tokens)), (h_values, .inl (cI, 401, .inl r_values))] := hD
        refine lv_if_ne (tgt := 44) hx hb dX5_readTerm_39 (by decide) (fun c_9 => ?_) (fun c_9 => ?_)
        · have hw := hw.1 c_9
          refine lv_aload_n hx hb dX5_readTerm_44 rfl (lv_at hl 0 rfl) ?_
          refine lv_bipush (v := (-3 : Int32)) hx hb dX5_readTerm_45 (by decide) ?_
          have hPc := hP.sub (ws' := [(h, .inr (5, [.ref h_tokens, .ref h_places, .ref h_values, .int f_size, .int f_at_5, .ref h_steps, .ref h_ends, .ref h_acts, .ref h_numbers, .int f_stepped_6, .int f_lines, .int f_fault, .int f_place])), (h_steps, .inl (cI, 400, .inl r_steps_7))]) [0, 1] rfl
          have hDc := hD.sub (ws' := [(h, .inr (5, [.ref h_tokens, .ref h_places, .ref h_values, .int f_size, .int f_at_5, .ref h_steps, .ref h_ends, .ref h_acts, .ref h_numbers, .int f_stepped_6, .int f_lines, .int f_fault, .int f_place])), (h_steps, .inl (cI, 400, .inl r_steps_7))]) [0, 1] (by decide) rfl
          have hFc := va_free (wc := [(h, .inr (5, [.ref h_tokens, .ref h_places, .ref h_values, .int f_size, .int f_at_5, .ref h_steps, .ref h_ends, .ref h_acts, .ref h_numbers, .int f_stepped_6, .int f_lines, .int f_fault, .int f_place])), (h_steps, .inl (cI, 400, .inl r_steps_7))]) hD hS hA [0, 1] rfl
          refine va_callv (va_runV (As := [.int (-3 : Int32)]) (rest := []) ⟨hx, hb, hml, hown, hts⟩ (kX5_addStep l dC dI cI cZ cO cW h h_tokens h_places h_values h_steps h_ends h_acts h_numbers H.size f_size f_at_5 f_lines f_fault f_place f_stepped_6 r_steps_7 (-3 : Int32) _ hw) (cwV 1 hts (gV gw_369 gw_370 gw_371 gw_329 (gM gw_356)) rfl rfl rfl (by decide +kernel) ⟨(show (0) + 1 ≤ 3 * (d + 1) + 2 by omega), (show 8 + (2 + 11) + (0) ≤ 67 * (d + 1) + 45 by omega)⟩) (pv_of hPc hK hDc (va_recv hK hPc (ci := 5) (q0 := 0) rfl rfl)) rfl rfl hl.1 rfl (lv_room (Nat.le_of_ble_eq_true rfl)) dX5_readTerm_47 ⟨Nat.zero_le _, Nat.zero_le _⟩) hS (fun q _ h => hFc q h) hFc (fun u t H locs ht hvm hw hB hz1 hk1 hS => ?_)
          obtain ⟨f_stepped_10, r_steps_11⟩ := u
          obtain ⟨hP, hD⟩ := af_join (wr := [(h_tokens, .inl (cI, 401, .inl r_tokens)), (h_values, .inl (cI, 401, .inl r_values))]) (w1 := [(h, .inr (5, [.ref h_tokens, .ref h_places, .ref h_values, .int f_size, .int f_at_5, .ref h_steps, .ref h_ends, .ref h_acts, .ref h_numbers, .int f_stepped_10, .int f_lines, .int f_fault, .int f_place])), (h_steps, .inl (cI, 400, .inl r_steps_11))]) hB ht hP hD [0, 1] [2, 3] rfl rfl (by decide) (by decide) hk1 hFc
          have hP : va_P (dC, dI) vwCl [(h_tokens, .inl (cI, 401, .inl r_tokens)), (h_values, .inl (cI, 401, .inl r_values)), (h, .inr (5, [.ref h_tokens, .ref h_places, .ref h_values, .int f_size, .int f_at_5, .ref h_steps, .ref h_ends, .ref h_acts, .ref h_numbers, .int f_stepped_10, .int f_lines, .int f_fault, .int f_place])), (h_steps, .inl (cI, 400, .inl r_steps_11))] _ := hP
          have hD : va_D A [(h_tokens, .inl (cI, 401, .inl r_tokens)), (h_values, .inl (cI, 401, .inl r_values)), (h, .inr (5, [.ref h_tokens, .ref h_places, .ref h_values, .int f_size, .int f_at_5, .ref h_steps, .ref h_ends, .ref h_acts, .ref h_numbers, .int f_stepped_10, .int f_lines, .int f_fault, .int f_place])), (h_steps, .inl (cI, 400, .inl r_steps_11))] := hD
          refine lv_iinc (v := (x2 + (1 : Int32))) (lv' := [(2, .int (x2 + (1 : Int32))), (0, .ref h), (1, .int x1)]) hx hb dX5_readTerm_50 hl (k := 2) rfl rfl (by decide) rfl (fun ls hl => ?_)
          refine lv_goto (tgt := 18) hx hb dX5_readTerm_53 (by decide) ?_
          exact ih x1 (x2 + (1 : Int32)) f_size f_at_5 f_stepped_10 r_steps_11 r_tokens r_values _ _ ls hw (hP.sub [2, 3, 0, 1] rfl) (hD.sub [2, 3, 0, 1] (by decide) rfl) hS (lv_sub hl [1, 2, 0] rfl)
        · have hw := hw.2 c_9
          refine lv_iconst (v := (0 : Int32)) hx hb dX5_readTerm_42 (by decide) ?_
          have hP9 := hP.sub (ws' := (vX5_readTerm cI cZ h h_tokens h_places h_values h_steps h_ends h_acts h_numbers f_lines f_fault f_place f_size f_at_5 f_stepped_6 r_steps_7 r_tokens r_values)) [0, 1, 2, 3] rfl
          have hD9 := hD.sub (ws' := (vX5_readTerm cI cZ h h_tokens h_places h_values h_steps h_ends h_acts h_numbers f_lines f_fault f_place f_size f_at_5 f_stepped_6 r_steps_7 r_tokens r_values)) [0, 1, 2, 3] (by decide) rfl
          exact W.zret (v := (0 : Int32)) (ty := .boolean) hx hb hr rfl (fun t ht hW => ⟨⟨(0 : Int32), (f_at_5, f_stepped_6, r_steps_7), rfl, hw, by rw [ht]; exact hP9, va_K.moved hW.alike hK, hD9⟩, hS.F ht⟩) hS.2.2 dX5_readTerm_43
set_option maxHeartbeats 4000000 in
set_option maxRecDepth 100000 in
theorem tX5_readTerm_e {p : Program} {l : Launch} {e : Env} {s : State} {m : MethodId} {args : Array Value} {below : List Frame} {meth : Method} {c : Code} {dC : Nat → ClassId} {dI : Nat → Nat → Nat} {cI cZ cO cW : ClassId} {A : Nat → Prop} {h h_tokens h_places h_values h_steps h_ends h_acts h_numbers : Nat} {f_lines f_fault f_place : Int32} {Q : Int32 → Int32 → Int32 → (Nat → Int32) → Prop} {d : Nat} {RA : (Int32 → Int32 → Int32 → (Nat → Int32) → Prop) → Int32 → Int32 → Int32 → Int32 → (Nat → Int32) → (Nat → Int32) → (Nat → Int32) → Prop} (hC : Cx p s m args meth c cX5_readTerm (some .boolean) 3 GW RX5) (hK : va_K (dC, dI) vwCl (tysA cI cZ cO cW) s) (hA : ∀ q : Nat, s.heap.size ≤ q → A q) (hRec : ∀ (h h_tokens h_places h_values h_steps h_ends h_acts h_numbers : Nat) (sz : Nat) (f_lines : Int32) (f_fault : Int32) (f_place : Int32) (f_size : Int32) (f_at : Int32) (f_stepped : Int32) (r_steps : Nat → Int32) (r_tokens : Nat → Int32) (r_values : Nat → Int32) (x1 : Int32) (Q : Int32 → Int32 → Int32 → (Nat → Int32) → Prop), RA Q x1 f_size f_at f_stepped r_steps r_tokens r_values → Met l yX5_readTerm zsX5_readTerm (rmX5_readTerm_d d) (va_Pc [.ref h, .int x1] (fun U => U.heap.size = sz ∧ va_P (dC, dI) vwCl (vX5_readTerm cI cZ h h_tokens h_places h_values h_steps h_ends h_acts h_numbers f_lines f_fault f_place f_size f_at f_stepped r_steps r_tokens r_values) U.heap ∧ va_K (dC, dI) vwCl (tysA cI cZ cO cW) U ∧ va_D (fun _ => True) (vX5_readTerm cI cZ h h_tokens h_places h_values h_steps h_ends h_acts h_numbers f_lines f_fault f_place f_size f_at f_stepped r_steps r_tokens r_values))) (qX5_readTerm dC dI cI cZ cO cW h h_tokens h_places h_values h_steps h_ends h_acts h_numbers f_lines f_fault f_place f_size r_tokens r_values Q (va_A (vX5_readTerm cI cZ h h_tokens h_places h_values h_steps h_ends h_acts h_numbers f_lines f_fault f_place f_size f_at f_stepped r_steps r_tokens r_values) sz)) 0 0 (va_A (vX5_readTerm cI cZ h h_tokens h_places h_values h_steps h_ends h_acts h_numbers f_lines f_fault f_place f_size f_at f_stepped r_steps r_tokens r_values) sz)) :
    ∀ (x1 : Int32) (f_size : Int32) (f_at : Int32) (f_stepped : Int32) (r_steps : Nat → Int32) (r_tokens : Nat → Int32) (r_values : Nat → Int32) (H : Heap) (locs : List Loc) (ls : Array Slot), wX5_readTerm_b RA Q x1 f_size f_at f_stepped r_steps r_tokens r_values → va_P (dC, dI) vwCl (vX5_readTerm cI cZ h h_tokens h_places h_values h_steps h_ends h_acts h_numbers f_lines f_fault f_place f_size f_at f_stepped r_steps r_tokens r_values) H → va_D A (vX5_readTerm cI cZ h h_tokens h_places h_values h_steps h_ends h_acts h_numbers f_lines f_fault f_place f_size f_at f_stepped r_steps r_tokens r_values) → va_S A s.heap H locs → lv_has ls 3 [(0, .ref h), (1, .int x1)] → W p l e (rmX5_readTerm_d (d + 1)) s m args below meth c H locs 0 0 (MQ below (qX5_readTerm dC dI cI cZ cO cW h h_tokens h_places h_values h_steps h_ends h_acts h_numbers f_lines f_fault f_place f_size r_tokens r_values Q A) args s 0 0 A) (F0 m 0 ls []) := by
  obtain ⟨hx, hb, hr, hml, hown, hts, hlocks⟩ := id hC
  intro x1 f_size f_at f_stepped r_steps r_tokens r_values H locs ls hw hP hD hS hl
  refine lv_iload_n hx hb dX5_readTerm_0 rfl (lv_at hl 1 rfl) ?_
  refine lv_bipush (v := (8 : Int32)) hx hb dX5_readTerm_1 (by decide) ?_
  refine lv_icmp_gt (tgt := 14) hx hb dX5_readTerm_3 (by decide) (fun c_12 => ?_) (fun c_12 => ?_)
  · have hw := hw.1 c_12
    refine lv_iconst (v := (0 : Int32)) hx hb dX5_readTerm_14 (by decide) ?_
    have hP9 := hP.sub (ws' := (vX5_readTerm cI cZ h h_tokens h_places h_values h_steps h_ends h_acts h_numbers f_lines f_fault f_place f_size f_at f_stepped r_steps r_tokens r_values)) [0, 1, 2, 3] rfl
    have hD9 := hD.sub (ws' := (vX5_readTerm cI cZ h h_tokens h_places h_values h_steps h_ends h_acts h_numbers f_lines f_fault f_place f_size f_at f_stepped r_steps r_tokens r_values)) [0, 1, 2, 3] (by decide) rfl
    exact W.zret (v := (0 : Int32)) (ty := .boolean) hx hb hr rfl (fun t ht hW => ⟨⟨(0 : Int32), (f_at, f_stepped, r_steps), rfl, hw, by rw [ht]; exact hP9, va_K.moved hW.alike hK, hD9⟩, hS.F ht⟩) hS.2.2 dX5_readTerm_15
  · have hw := hw.2 c_12
    refine lv_aload_n hx hb dX5_readTerm_6 rfl (lv_at hl 0 rfl) ?_
    refine lv_iload_n hx hb dX5_readTerm_7 rfl (lv_at hl 1 rfl) ?_
    have hPc := hP.sub (ws' := [(h, .inr (5, [.ref h_tokens, .ref h_places, .ref h_values, .int f_size, .int f_at, .ref h_steps, .ref h_ends, .ref h_acts, .ref h_numbers, .int f_stepped, .int f_lines, .int f_fault, .int f_place])), (h_steps, .inl (cI, 400, .inl r_steps)), (h_tokens, .inl (cI, 401, .inl r_tokens)), (h_values, .inl (cI, 401, .inl r_values))]) [0, 1, 2, 3] rfl
    have hDc := hD.sub (ws' := [(h, .inr (5, [.ref h_tokens, .ref h_places, .ref h_values, .int f_size, .int f_at, .ref h_steps, .ref h_ends, .ref h_acts, .ref h_numbers, .int f_stepped, .int f_lines, .int f_fault, .int f_place])), (h_steps, .inl (cI, 400, .inl r_steps)), (h_tokens, .inl (cI, 401, .inl r_tokens)), (h_values, .inl (cI, 401, .inl r_values))]) [0, 1, 2, 3] (by decide) rfl
    have hFc := va_free (wc := [(h, .inr (5, [.ref h_tokens, .ref h_places, .ref h_values, .int f_size, .int f_at, .ref h_steps, .ref h_ends, .ref h_acts, .ref h_numbers, .int f_stepped, .int f_lines, .int f_fault, .int f_place])), (h_steps, .inl (cI, 400, .inl r_steps)), (h_tokens, .inl (cI, 401, .inl r_tokens)), (h_values, .inl (cI, 401, .inl r_values))]) hD hS hA [0, 1, 2, 3] rfl
    refine va_calli (va_runV (As := [.int x1]) (rest := []) ⟨hx, hb, hml, hown, hts⟩ (kX5_readBoth l dC dI cI cZ cO cW h h_tokens h_places h_values h_steps h_ends h_acts h_numbers H.size f_lines f_fault f_place f_size f_at f_stepped r_steps r_tokens r_values x1 _ d RA hRec hw) (cwV 1 hts (gV gw_387 gw_388 gw_389 gw_329 (gM gw_390)) rfl rfl rfl (by decide +kernel) ⟨(show (3 * d + 4) + 1 ≤ 3 * (d + 1) + 2 by omega), (show 8 + (3 + 11) + (67 * d + 90) ≤ 67 * (d + 1) + 45 by omega)⟩) (pv_of hPc hK hDc (va_recv hK hPc (ci := 5) (q0 := 0) rfl rfl)) rfl rfl hl.1 rfl (lv_room (Nat.le_of_ble_eq_true rfl)) dX5_readTerm_8 ⟨Nat.zero_le _, Nat.zero_le _⟩) hS (fun q _ h => hFc q h) hFc (fun r_16 u t H locs ht hvm hw hB hz1 hk1 hS => ?_)
    obtain ⟨f_at_13, f_stepped_14, r_steps_15⟩ := u
    obtain ⟨hP, hD⟩ := af_join (wr := []) (w1 := [(h, .inr (5, [.ref h_tokens, .ref h_places, .ref h_values, .int f_size, .int f_at_13, .ref h_steps, .ref h_ends, .ref h_acts, .ref h_numbers, .int f_stepped_14, .int f_lines, .int f_fault, .int f_place])), (h_steps, .inl (cI, 400, .inl r_steps_15)), (h_tokens, .inl (cI, 401, .inl r_tokens)), (h_values, .inl (cI, 401, .inl r_values))]) hB ht hP hD [0, 1, 2, 3] [] rfl rfl (by decide) (by decide) hk1 hFc
    have hP : va_P (dC, dI) vwCl [(h, .inr (5, [.ref h_tokens, .ref h_places, .ref h_values, .int f_size, .int f_at_13, .ref h_steps, .ref h_ends, .ref h_acts, .ref h_numbers, .int f_stepped_14, .int f_lines, .int f_fault, .int f_place])), (h_steps, .inl (cI, 400, .inl r_steps_15)), (h_tokens, .inl (cI, 401, .inl r_tokens)), (h_values, .inl (cI, 401, .inl r_values))] _ := hP
    have hD : va_D A [(h, .inr (5, [.ref h_tokens, .ref h_places, .ref h_values, .int f_size, .int f_at_13, .ref h_steps, .ref h_ends, .ref h_acts, .ref h_numbers, .int f_stepped_14, .int f_lines, .int f_fault, .int f_place])), (h_steps, .inl (cI, 400, .inl r_steps_15)), (h_tokens, .inl (cI, 401, .inl r_tokens)), (h_values, .inl (cI, 401, .inl r_values))] := hD
    refine lv_if_ne (tgt := 16) hx hb dX5_readTerm_11 (by decide) (fun c_17 => ?_) (fun c_17 => ?_)
    · have hw := hw.1 c_17
      refine lv_iconst (v := (0 : Int32)) hx hb dX5_readTerm_16 (by decide) ?_
      refine lv_istore_n (lv' := [(2, .int (0 : Int32)), (0, .ref h), (1, .int x1)]) hx hb dX5_readTerm_17 rfl hl (by decide) rfl (fun ls hl => ?_)
      obtain ⟨n_18, hw⟩ := hw
      exact tX5_readTerm_18 hC hK hA hRec  n_18 x1 (0 : Int32) f_size f_at_13 f_stepped_14 r_steps_15 r_tokens r_values _ _ ls hw (hP.sub [0, 1, 2, 3] rfl) (hD.sub [0, 1, 2, 3] (by decide) rfl) hS (lv_sub hl [1, 2, 0] rfl)
    · have hw := hw.2 c_17
      refine lv_iconst (v := (0 : Int32)) hx hb dX5_readTerm_14 (by decide) ?_
      have hP9 := hP.sub (ws' := (vX5_readTerm cI cZ h h_tokens h_places h_values h_steps h_ends h_acts h_numbers f_lines f_fault f_place f_size f_at_13 f_stepped_14 r_steps_15 r_tokens r_values)) [0, 1, 2, 3] rfl
      have hD9 := hD.sub (ws' := (vX5_readTerm cI cZ h h_tokens h_places h_values h_steps h_ends h_acts h_numbers f_lines f_fault f_place f_size f_at_13 f_stepped_14 r_steps_15 r_tokens r_values)) [0, 1, 2, 3] (by decide) rfl
      exact W.zret (v := (0 : Int32)) (ty := .boolean) hx hb hr rfl (fun t ht hW => ⟨⟨(0 : Int32), (f_at_13, f_stepped_14, r_steps_15), rfl, hw, by rw [ht]; exact hP9, va_K.moved hW.alike hK, hD9⟩, hS.F ht⟩) hS.2.2 dX5_readTerm_15
set_option maxHeartbeats 4000000 in
set_option maxRecDepth 100000 in
theorem kX5_readTerm_b (l : Launch) (dC : Nat → ClassId) (dI : Nat → Nat → Nat) (cI cZ cO cW : ClassId) (h h_tokens h_places h_values h_steps h_ends h_acts h_numbers : Nat)  (sz : Nat) (f_lines : Int32) (f_fault : Int32) (f_place : Int32) (f_size : Int32) (f_at : Int32) (f_stepped : Int32) (r_steps : Nat → Int32) (r_tokens : Nat → Int32) (r_values : Nat → Int32) (x1 : Int32) (Q : Int32 → Int32 → Int32 → (Nat → Int32) → Prop) (d : Nat) (RA : (Int32 → Int32 → Int32 → (Nat → Int32) → Prop) → Int32 → Int32 → Int32 → Int32 → (Nat → Int32) → (Nat → Int32) → (Nat → Int32) → Prop) (hRec : ∀ (h h_tokens h_places h_values h_steps h_ends h_acts h_numbers : Nat) (sz : Nat) (f_lines : Int32) (f_fault : Int32) (f_place : Int32) (f_size : Int32) (f_at : Int32) (f_stepped : Int32) (r_steps : Nat → Int32) (r_tokens : Nat → Int32) (r_values : Nat → Int32) (x1 : Int32) (Q : Int32 → Int32 → Int32 → (Nat → Int32) → Prop), RA Q x1 f_size f_at f_stepped r_steps r_tokens r_values → Met l yX5_readTerm zsX5_readTerm (rmX5_readTerm_d d) (va_Pc [.ref h, .int x1] (fun U => U.heap.size = sz ∧ va_P (dC, dI) vwCl (vX5_readTerm cI cZ h h_tokens h_places h_values h_steps h_ends h_acts h_numbers f_lines f_fault f_place f_size f_at f_stepped r_steps r_tokens r_values) U.heap ∧ va_K (dC, dI) vwCl (tysA cI cZ cO cW) U ∧ va_D (fun _ => True) (vX5_readTerm cI cZ h h_tokens h_places h_values h_steps h_ends h_acts h_numbers f_lines f_fault f_place f_size f_at f_stepped r_steps r_tokens r_values))) (qX5_readTerm dC dI cI cZ cO cW h h_tokens h_places h_values h_steps h_ends h_acts h_numbers f_lines f_fault f_place f_size r_tokens r_values Q (va_A (vX5_readTerm cI cZ h h_tokens h_places h_values h_steps h_ends h_acts h_numbers f_lines f_fault f_place f_size f_at f_stepped r_steps r_tokens r_values) sz)) 0 0 (va_A (vX5_readTerm cI cZ h h_tokens h_places h_values h_steps h_ends h_acts h_numbers f_lines f_fault f_place f_size f_at f_stepped r_steps r_tokens r_values) sz)) (hw : wX5_readTerm_b RA Q x1 f_size f_at f_stepped r_steps r_tokens r_values) : Met l yX5_readTerm zsX5_readTerm (rmX5_readTerm_d (d + 1)) (va_Pc [.ref h, .int x1] (fun U => U.heap.size = sz ∧ va_P (dC, dI) vwCl (vX5_readTerm cI cZ h h_tokens h_places h_values h_steps h_ends h_acts h_numbers f_lines f_fault f_place f_size f_at f_stepped r_steps r_tokens r_values) U.heap ∧ va_K (dC, dI) vwCl (tysA cI cZ cO cW) U ∧ va_D (fun _ => True) (vX5_readTerm cI cZ h h_tokens h_places h_values h_steps h_ends h_acts h_numbers f_lines f_fault f_place f_size f_at f_stepped r_steps r_tokens r_values))) (qX5_readTerm dC dI cI cZ cO cW h h_tokens h_places h_values h_steps h_ends h_acts h_numbers f_lines f_fault f_place f_size r_tokens r_values Q (va_A (vX5_readTerm cI cZ h h_tokens h_places h_values h_steps h_ends h_acts h_numbers f_lines f_fault f_place f_size f_at f_stepped r_steps r_tokens r_values) sz)) 0 0 (va_A (vX5_readTerm cI cZ h h_tokens h_places h_values h_steps h_ends h_acts h_numbers f_lines f_fault f_place f_size f_at f_stepped r_steps r_tokens r_values) sz) := by
  refine Met.ofW (cc := cX5_readTerm) (maxL := 3) (ret := (some .boolean)) (by decide) rfl ?_
  intro p e s m args below meth c s₁ B hml hv
  obtain ⟨rfl, hsz, hP, hK, hD0⟩ := hv
  subst hsz
  have hC : Cx p s m ([.ref h, .int x1] : List Value).toArray meth c cX5_readTerm (some .boolean) 3 GW RX5 := ⟨B.exec, B.bytes, B.returns, hml, findClass_of_methodNamed B.named, fun w h => atoms_spec (ws := zsX5_readTerm) B.pre w (List.mem_cons_of_mem _ h), B.notSynchronized⟩
  have hD := hD0.self (sz := s.heap.size)
  generalize hAe : va_A (vX5_readTerm cI cZ h h_tokens h_places h_values h_steps h_ends h_acts h_numbers f_lines f_fault f_place f_size f_at f_stepped r_steps r_tokens r_values) s.heap.size = A at hD ⊢
  have hA : ∀ q : Nat, s.heap.size ≤ q → A q := fun q h => by rw [← hAe]; exact Or.inr h
  have hl := lv_entry ([.ref h, .int x1]) (n := 3) (Nat.le_of_ble_eq_true rfl)
  rw [lg_entry_eq]
  generalize (lg_sl ([.ref h, .int x1]) ++ List.replicate (3 - (lg_sl ([.ref h, .int x1])).length) Slot.unset).toArray = ls at hl ⊢
  exact tX5_readTerm_e hC hK hA hRec x1 f_size f_at f_stepped r_steps r_tokens r_values _ _ ls hw hP hD va_S.rf hl
def wX5_readTerm_d : Nat → (Int32 → Int32 → Int32 → (Nat → Int32) → Prop) → Int32 → Int32 → Int32 → Int32 → (Nat → Int32) → (Nat → Int32) → (Nat → Int32) → Prop
  | 0, _, _, _, _, _, _, _, _ => False
  | d + 1, Q, x1, f_size, f_at, f_stepped, r_steps, r_tokens, r_values => wX5_readTerm_b (wX5_readTerm_d d) Q x1 f_size f_at f_stepped r_steps r_tokens r_values
def wX5_readTerm (Q : Int32 → Int32 → Int32 → (Nat → Int32) → Prop) (x1 : Int32) (f_size : Int32) (f_at : Int32) (f_stepped : Int32) (r_steps : Nat → Int32) (r_tokens : Nat → Int32) (r_values : Nat → Int32) : Prop := wX5_readTerm_d 10 Q x1 f_size f_at f_stepped r_steps r_tokens r_values
abbrev rmX5_readTerm : Room := rmX5_readTerm_d 10
set_option maxHeartbeats 4000000 in
set_option maxRecDepth 100000 in
theorem kX5_readTerm_d (l : Launch) (dC : Nat → ClassId) (dI : Nat → Nat → Nat) (cI cZ cO cW : ClassId) : ∀ d : Nat, ∀ (h h_tokens h_places h_values h_steps h_ends h_acts h_numbers : Nat) (sz : Nat) (f_lines : Int32) (f_fault : Int32) (f_place : Int32) (f_size : Int32) (f_at : Int32) (f_stepped : Int32) (r_steps : Nat → Int32) (r_tokens : Nat → Int32) (r_values : Nat → Int32) (x1 : Int32) (Q : Int32 → Int32 → Int32 → (Nat → Int32) → Prop), wX5_readTerm_d d Q x1 f_size f_at f_stepped r_steps r_tokens r_values → Met l yX5_readTerm zsX5_readTerm (rmX5_readTerm_d d) (va_Pc [.ref h, .int x1] (fun U => U.heap.size = sz ∧ va_P (dC, dI) vwCl (vX5_readTerm cI cZ h h_tokens h_places h_values h_steps h_ends h_acts h_numbers f_lines f_fault f_place f_size f_at f_stepped r_steps r_tokens r_values) U.heap ∧ va_K (dC, dI) vwCl (tysA cI cZ cO cW) U ∧ va_D (fun _ => True) (vX5_readTerm cI cZ h h_tokens h_places h_values h_steps h_ends h_acts h_numbers f_lines f_fault f_place f_size f_at f_stepped r_steps r_tokens r_values))) (qX5_readTerm dC dI cI cZ cO cW h h_tokens h_places h_values h_steps h_ends h_acts h_numbers f_lines f_fault f_place f_size r_tokens r_values Q (va_A (vX5_readTerm cI cZ h h_tokens h_places h_values h_steps h_ends h_acts h_numbers f_lines f_fault f_place f_size f_at f_stepped r_steps r_tokens r_values) sz)) 0 0 (va_A (vX5_readTerm cI cZ h h_tokens h_places h_values h_steps h_ends h_acts h_numbers f_lines f_fault f_place f_size f_at f_stepped r_steps r_tokens r_values) sz) := by
  intro d
  induction d with
  | zero =>
    intros
    rename_i hw
    exact hw.elim
  | succ d ih =>
    intro h h_tokens h_places h_values h_steps h_ends h_acts h_numbers sz f_lines f_fault f_place f_size f_at f_stepped r_steps r_tokens r_values x1 Q hw
    exact kX5_readTerm_b l dC dI cI cZ cO cW h h_tokens h_places h_values h_steps h_ends h_acts h_numbers sz f_lines f_fault f_place f_size f_at f_stepped r_steps r_tokens r_values x1 Q d (wX5_readTerm_d d) ih hw
theorem kX5_readTerm (l : Launch) (dC : Nat → ClassId) (dI : Nat → Nat → Nat) (cI cZ cO cW : ClassId) (h h_tokens h_places h_values h_steps h_ends h_acts h_numbers : Nat)  (sz : Nat) (f_lines : Int32) (f_fault : Int32) (f_place : Int32) (f_size : Int32) (f_at : Int32) (f_stepped : Int32) (r_steps : Nat → Int32) (r_tokens : Nat → Int32) (r_values : Nat → Int32) (x1 : Int32) (Q : Int32 → Int32 → Int32 → (Nat → Int32) → Prop) (hw : wX5_readTerm Q x1 f_size f_at f_stepped r_steps r_tokens r_values) : Met l yX5_readTerm zsX5_readTerm rmX5_readTerm (va_Pc [.ref h, .int x1] (fun U => U.heap.size = sz ∧ va_P (dC, dI) vwCl (vX5_readTerm cI cZ h h_tokens h_places h_values h_steps h_ends h_acts h_numbers f_lines f_fault f_place f_size f_at f_stepped r_steps r_tokens r_values) U.heap ∧ va_K (dC, dI) vwCl (tysA cI cZ cO cW) U ∧ va_D (fun _ => True) (vX5_readTerm cI cZ h h_tokens h_places h_values h_steps h_ends h_acts h_numbers f_lines f_fault f_place f_size f_at f_stepped r_steps r_tokens r_values))) (qX5_readTerm dC dI cI cZ cO cW h h_tokens h_places h_values h_steps h_ends h_acts h_numbers f_lines f_fault f_place f_size r_tokens r_values Q (va_A (vX5_readTerm cI cZ h h_tokens h_places h_values h_steps h_ends h_acts h_numbers f_lines f_fault f_place f_size f_at f_stepped r_steps r_tokens r_values) sz)) 0 0 (va_A (vX5_readTerm cI cZ h h_tokens h_places h_values h_steps h_ends h_acts h_numbers f_lines f_fault f_place f_size f_at f_stepped r_steps r_tokens r_values) sz) := kX5_readTerm_d l dC dI cI cZ cO cW 10 h h_tokens h_places h_values h_steps h_ends h_acts h_numbers sz f_lines f_fault f_place f_size f_at f_stepped r_steps r_tokens r_values x1 Q hw

/-! X5_readLine -/
def wX5_readLine_66 (Q : Int32 → Int32 → Int32 → Int32 → (Nat → Int32) → (Nat → Int32) → (Nat → Int32) → (Nat → Int32) → Prop)   (x1 : Int32) (s0 : Int32) (f_size : Int32) (f_at : Int32) (f_stepped : Int32) (f_lines : Int32) (r_acts : (Nat → Int32)) (r_ends : (Nat → Int32)) (r_numbers : (Nat → Int32)) (r_steps : (Nat → Int32)) (r_tokens : (Nat → Int32)) (r_values : (Nat → Int32)) : Prop :=
  ((s0 = (-1 : Int32) → (Q (0 : Int32) f_at f_stepped f_lines r_acts r_ends r_numbers r_steps)) ∧ (¬ s0 = (-1 : Int32) → (wX5_take (fun r_3 f_at_2 => ((¬ r_3 = 0 → (wX5_keepLine (fun f_lines_5 r_acts_6 r_ends_7 r_numbers_8 => (Q (1 : Int32) f_at_2 f_stepped f_lines_5 r_acts_6 r_ends_7 r_numbers_8 r_steps)) x1 s0 f_stepped f_lines r_acts r_ends r_numbers)) ∧ (r_3 = 0 → (Q (0 : Int32) f_at_2 f_stepped f_lines r_acts r_ends r_numbers r_steps)))) (59 : Int32) f_size f_at r_tokens)))
def wX5_readLine_28 (Q : Int32 → Int32 → Int32 → Int32 → (Nat → Int32) → (Nat → Int32) → (Nat → Int32) → (Nat → Int32) → Prop)   (f_size : Int32) (f_at : Int32) (f_stepped : Int32) (f_lines : Int32) (r_acts : (Nat → Int32)) (r_ends : (Nat → Int32)) (r_numbers : (Nat → Int32)) (r_steps : (Nat → Int32)) (r_tokens : (Nat → Int32)) (r_values : (Nat → Int32)) : Prop :=
  (wX5_token (fun r_9 => (wX9_isAct (fun r_10 => ((¬ r_10 = 0 → ((¬ r_9 = (15 : Int32) → (wX5_readLine_66 Q r_9 (0 : Int32) f_size (f_at + (1 : Int32)) f_stepped f_lines r_acts r_ends r_numbers r_steps r_tokens r_values)) ∧ (r_9 = (15 : Int32) → (wX5_takeNumber (fun r_14 f_at_13 => (wX5_readLine_66 Q r_9 r_14 f_size f_at_13 f_stepped f_lines r_acts r_ends r_numbers r_steps r_tokens r_values)) f_size (f_at + (1 : Int32)) r_tokens r_values)))) ∧ (r_10 = 0 → (Q (0 : Int32) f_at f_stepped f_lines r_acts r_ends r_numbers r_steps)))) r_9)) f_size f_at r_tokens)
def wX5_readLine (Q : Int32 → Int32 → Int32 → Int32 → (Nat → Int32) → (Nat → Int32) → (Nat → Int32) → (Nat → Int32) → Prop)  (f_size : Int32) (f_at : Int32) (f_stepped : Int32) (f_lines : Int32) (r_acts : Nat → Int32) (r_ends : Nat → Int32) (r_numbers : Nat → Int32) (r_steps : Nat → Int32) (r_tokens : Nat → Int32) (r_values : Nat → Int32) : Prop :=
  (wX5_take (fun r_16 f_at_15 => ((r_16 = 0 → (wX5_readLine_28 Q f_size f_at_15 f_stepped f_lines r_acts r_ends r_numbers r_steps r_tokens r_values)) ∧ (¬ r_16 = 0 → (wX5_readTerm (fun r_21 f_at_18 f_stepped_19 r_steps_20 => ((r_21 = 0 → (Q (0 : Int32) f_at_18 f_stepped_19 f_lines r_acts r_ends r_numbers r_steps_20)) ∧ (¬ r_21 = 0 → (wX5_take (fun r_24 f_at_23 => ((¬ r_24 = 0 → (wX5_readLine_28 Q f_size f_at_23 f_stepped_19 f_lines r_acts r_ends r_numbers r_steps_20 r_tokens r_values)) ∧ (r_24 = 0 → (Q (0 : Int32) f_at_23 f_stepped_19 f_lines r_acts r_ends r_numbers r_steps_20)))) (58 : Int32) f_size f_at_18 r_tokens)))) (1 : Int32) f_size f_at_15 f_stepped r_steps r_tokens r_values)))) (16 : Int32) f_size f_at r_tokens)
abbrev vX5_readLine (cI cZ : ClassId) (h h_tokens h_places h_values h_steps h_ends h_acts h_numbers : Nat) (f_fault : Int32) (f_place : Int32) (f_size : Int32) (f_at : Int32) (f_stepped : Int32) (f_lines : Int32) (r_acts : Nat → Int32) (r_ends : Nat → Int32) (r_numbers : Nat → Int32) (r_steps : Nat → Int32) (r_tokens : Nat → Int32) (r_values : Nat → Int32) : va_W := [(h, .inr (5, [.ref h_tokens, .ref h_places, .ref h_values, .int f_size, .int f_at, .ref h_steps, .ref h_ends, .ref h_acts, .ref h_numbers, .int f_stepped, .int f_lines, .int f_fault, .int f_place])), (h_acts, .inl (cI, 20, .inl r_acts)), (h_ends, .inl (cI, 20, .inl r_ends)), (h_numbers, .inl (cI, 20, .inl r_numbers)), (h_steps, .inl (cI, 400, .inl r_steps)), (h_tokens, .inl (cI, 401, .inl r_tokens)), (h_values, .inl (cI, 401, .inl r_values))]
abbrev rmX5_readLine : Room := { frames := 33, cells := 0, slots := 0, locals := 737 }
abbrev qX5_readLine (dC : Nat → ClassId) (dI : Nat → Nat → Nat) (cI cZ cO cW : ClassId) (h h_tokens h_places h_values h_steps h_ends h_acts h_numbers : Nat) (f_fault : Int32) (f_place : Int32) (f_size : Int32) (r_tokens : Nat → Int32) (r_values : Nat → Int32) (Q : Int32 → Int32 → Int32 → Int32 → (Nat → Int32) → (Nat → Int32) → (Nat → Int32) → (Nat → Int32) → Prop) (A : Nat → Prop) : Array Value → State → Outcome → State → Prop := va_Qi (fun (r : Int32) (u : Int32 × Int32 × Int32 × (Nat → Int32) × (Nat → Int32) × (Nat → Int32) × (Nat → Int32)) => Q r u.1 u.2.1 u.2.2.1 u.2.2.2.1 u.2.2.2.2.1 u.2.2.2.2.2.1 u.2.2.2.2.2.2) (fun (u : Int32 × Int32 × Int32 × (Nat → Int32) × (Nat → Int32) × (Nat → Int32) × (Nat → Int32)) (t : State) => va_P (dC, dI) vwCl (vX5_readLine cI cZ h h_tokens h_places h_values h_steps h_ends h_acts h_numbers f_fault f_place f_size u.1 u.2.1 u.2.2.1 u.2.2.2.1 u.2.2.2.2.1 u.2.2.2.2.2.1 u.2.2.2.2.2.2 r_tokens r_values) t.heap ∧ va_K (dC, dI) vwCl (tysA cI cZ cO cW) t ∧ va_D A (vX5_readLine cI cZ h h_tokens h_places h_values h_steps h_ends h_acts h_numbers f_fault f_place f_size u.1 u.2.1 u.2.2.1 u.2.2.2.1 u.2.2.2.2.1 u.2.2.2.2.2.1 u.2.2.2.2.2.2 r_tokens r_values)) A
def zsX5_readLine : List Cond := Cond.code yX5_readLine cX5_readLine 3 (some .boolean) :: GW
set_option maxHeartbeats 4000000 in
set_option maxRecDepth 100000 in
theorem tX5_readLine_66 {p : Program} {l : Launch} {e : Env} {s : State} {m : MethodId} {args : Array Value} {below : List Frame} {meth : Method} {c : Code} {dC : Nat → ClassId} {dI : Nat → Nat → Nat} {cI cZ cO cW : ClassId} {A : Nat → Prop} {h h_tokens h_places h_values h_steps h_ends h_acts h_numbers : Nat} {f_fault f_place : Int32} {Q : Int32 → Int32 → Int32 → Int32 → (Nat → Int32) → (Nat → Int32) → (Nat → Int32) → (Nat → Int32) → Prop}  (hC : Cx p s m args meth c cX5_readLine (some .boolean) 3 GW RX5) (hK : va_K (dC, dI) vwCl (tysA cI cZ cO cW) s) (hA : ∀ q : Nat, s.heap.size ≤ q → A q) :
    ∀ (x1 : Int32) (s0 : Int32) (f_size : Int32) (f_at : Int32) (f_stepped : Int32) (f_lines : Int32) (r_acts : (Nat → Int32)) (r_ends : (Nat → Int32)) (r_numbers : (Nat → Int32)) (r_steps : (Nat → Int32)) (r_tokens : (Nat → Int32)) (r_values : (Nat → Int32)) (H : Heap) (locs : List Loc) (ls : Array Slot), wX5_readLine_66 Q  x1 s0 f_size f_at f_stepped f_lines r_acts r_ends r_numbers r_steps r_tokens r_values → va_P (dC, dI) vwCl (vX5_readLine cI cZ h h_tokens h_places h_values h_steps h_ends h_acts h_numbers f_fault f_place f_size f_at f_stepped f_lines r_acts r_ends r_numbers r_steps r_tokens r_values) H → va_D A (vX5_readLine cI cZ h h_tokens h_places h_values h_steps h_ends h_acts h_numbers f_fault f_place f_size f_at f_stepped f_lines r_acts r_ends r_numbers r_steps r_tokens r_values) → va_S A s.heap H locs → lv_has ls 3 [(0, .ref h), (1, .int x1)] → W p l e rmX5_readLine s m args below meth c H locs 0 0 (MQ below (qX5_readLine dC dI cI cZ cO cW h h_tokens h_places h_values h_steps h_ends h_acts h_numbers f_fault f_place f_size r_tokens r_values Q A) args s 0 0 A) (F0 m 66 ls [.int s0]) := by
  obtain ⟨hx, hb, hr, hml, hown, hts, hlocks⟩ := id hC
  intro x1 s0 f_size f_at f_stepped f_lines r_acts r_ends r_numbers r_steps r_tokens r_values H locs ls hw hP hD hS hl
  refine lv_istore_n (lv' := [(2, .int s0), (0, .ref h), (1, .int x1)]) hx hb dX5_readLine_66 rfl hl (by decide) rfl (fun ls hl => ?_)
  refine lv_iload_n hx hb dX5_readLine_67 rfl (lv_at hl 0 rfl) ?_
  refine lv_iconst (v := (-1 : Int32)) hx hb dX5_readLine_68 (by decide) ?_
  refine lv_icmp_eq (tgt := 81) hx hb dX5_readLine_69 (by decide) (fun c_1 => ?_) (fun c_1 => ?_)
  · have hw := hw.1 c_1
    refine lv_iconst (v := (0 : Int32)) hx hb dX5_readLine_81 (by decide) ?_
    have hP9 := hP.sub (ws' := (vX5_readLine cI cZ h h_tokens h_places h_values h_steps h_ends h_acts h_numbers f_fault f_place f_size f_at f_stepped f_lines r_acts r_ends r_numbers r_steps r_tokens r_values)) [0, 1, 2, 3, 4, 5, 6] rfl
    have hD9 := hD.sub (ws' := (vX5_readLine cI cZ h h_tokens h_places h_values h_steps h_ends h_acts h_numbers f_fault f_place f_size f_at f_stepped f_lines r_acts r_ends r_numbers r_steps r_tokens r_values)) [0, 1, 2, 3, 4, 5, 6] (by decide) rfl
    exact W.zret (v := (0 : Int32)) (ty := .boolean) hx hb hr rfl (fun t ht hW => ⟨⟨(0 : Int32), (f_at, f_stepped, f_lines, r_acts, r_ends, r_numbers, r_steps), rfl, hw, by rw [ht]; exact hP9, va_K.moved hW.alike hK, hD9⟩, hS.F ht⟩) hS.2.2 dX5_readLine_82
  · have hw := hw.2 c_1
    refine lv_aload_n hx hb dX5_readLine_72 rfl (lv_at hl 1 rfl) ?_
    refine lv_bipush (v := (59 : Int32)) hx hb dX5_readLine_73 (by decide) ?_
    have hPc := hP.sub (ws' := [(h, .inr (5, [.ref h_tokens, .ref h_places, .ref h_values, .int f_size, .int f_at, .ref h_steps, .ref h_ends, .ref h_acts, .ref h_numbers, .int f_stepped, .int f_lines, .int f_fault, .int f_place])), (h_tokens, .inl (cI, 401, .inl r_tokens))]) [0, 5] rfl
    have hDc := hD.sub (ws' := [(h, .inr (5, [.ref h_tokens, .ref h_places, .ref h_values, .int f_size, .int f_at, .ref h_steps, .ref h_ends, .ref h_acts, .ref h_numbers, .int f_stepped, .int f_lines, .int f_fault, .int f_place])), (h_tokens, .inl (cI, 401, .inl r_tokens))]) [0, 5] (by decide) rfl
    have hFc := va_free (wc := [(h, .inr (5, [.ref h_tokens, .ref h_places, .ref h_values, .int f_size, .int f_at, .ref h_steps, .ref h_ends, .ref h_acts, .ref h_numbers, .int f_stepped, .int f_lines, .int f_fault, .int f_place])), (h_tokens, .inl (cI, 401, .inl r_tokens))]) hD hS hA [0, 5] rfl
    refine va_calli (va_runV (As := [.int (59 : Int32)]) (rest := []) ⟨hx, hb, hml, hown, hts⟩ (kX5_take l dC dI cI cZ cO cW h h_tokens h_places h_values h_steps h_ends h_acts h_numbers H.size f_stepped f_lines f_fault f_place f_size f_at r_tokens (59 : Int32) _ hw) (cwV 1 hts (gV gw_376 gw_377 gw_378 gw_329 (gM gw_355)) rfl rfl rfl (by decide +kernel) ⟨Nat.le_of_ble_eq_true rfl, Nat.le_of_ble_eq_true rfl⟩) (pv_of hPc hK hDc (va_recv hK hPc (ci := 5) (q0 := 0) rfl rfl)) rfl rfl hl.1 rfl (lv_room (Nat.le_of_ble_eq_true rfl)) dX5_readLine_75 ⟨Nat.zero_le _, Nat.zero_le _⟩) hS (fun q _ h => hFc q h) hFc (fun r_3 u t H locs ht hvm hw hB hz1 hk1 hS => ?_)
    obtain ⟨f_at_2, rfl⟩ : ∃ z, z = u := ⟨_, rfl⟩
    obtain ⟨hP, hD⟩ := af_join (wr := [(h_acts, .inl (cI, 20, .inl r_acts)), (h_ends, .inl (cI, 20, .inl r_ends)), (h_numbers, .inl (cI, 20, .inl r_numbers)), (h_steps, .inl (cI, 400, .inl r_steps)), (h_values, .inl (cI, 401, .inl r_values))]) (w1 := [(h, .inr (5, [.ref h_tokens, .ref h_places, .ref h_values, .int f_size, .int f_at_2, .ref h_steps, .ref h_ends, .ref h_acts, .ref h_numbers, .int f_stepped, .int f_lines, .int f_fault, .int f_place])), (h_tokens, .inl (cI, 401, .inl r_tokens))]) hB ht hP hD [0, 5] [1, 2, 3, 4, 6] rfl rfl (by decide) (by decide) hk1 hFc
    have hP : va_P (dC, dI) vwCl [(h_acts, .inl (cI, 20, .inl r_acts)), (h_ends, .inl (cI, 20, .inl r_ends)), (h_numbers, .inl (cI, 20, .inl r_numbers)), (h_steps, .inl (cI, 400, .inl r_steps)), (h_values, .inl (cI, 401, .inl r_values)), (h, .inr (5, [.ref h_tokens, .ref h_places, .ref h_values, .int f_size, .int f_at_2, .ref h_steps, .ref h_ends, .ref h_acts, .ref h_numbers, .int f_stepped, .int f_lines, .int f_fault, .int f_place])), (h_tokens, .inl (cI, 401, .inl r_tokens))] _ := hP
    have hD : va_D A [(h_acts, .inl (cI, 20, .inl r_acts)), (h_ends, .inl (cI, 20, .inl r_ends)), (h_numbers, .inl (cI, 20, .inl r_numbers)), (h_steps, .inl (cI, 400, .inl r_steps)), (h_values, .inl (cI, 401, .inl r_values)), (h, .inr (5, [.ref h_tokens, .ref h_places, .ref h_values, .int f_size, .int f_at_2, .ref h_steps, .ref h_ends, .ref h_acts, .ref h_numbers, .int f_stepped, .int f_lines, .int f_fault, .int f_place])), (h_tokens, .inl (cI, 401, .inl r_tokens))] := hD
    refine lv_if_ne (tgt := 83) hx hb dX5_readLine_78 (by decide) (fun c_4 => ?_) (fun c_4 => ?_)
    · have hw := hw.1 c_4
      refine lv_aload_n hx hb dX5_readLine_83 rfl (lv_at hl 1 rfl) ?_
      refine lv_iload_n hx hb dX5_readLine_84 rfl (lv_at hl 2 rfl) ?_
      refine lv_iload_n hx hb dX5_readLine_85 rfl (lv_at hl 0 rfl) ?_
      have hPc := hP.sub (ws' := [(h, .inr (5, [.ref h_tokens, .ref h_places, .ref h_values, .int f_size, .int f_at_2, .ref h_steps, .ref h_ends, .ref h_acts, .ref h_numbers, .int f_stepped, .int f_lines, .int f_fault, .int f_place])), (h_acts, .inl (cI, 20, .inl r_acts)), (h_ends, .inl (cI, 20, .inl r_ends)), (h_numbers, .inl (cI, 20, .inl r_numbers))]) [5, 0, 1, 2] rfl
      have hDc := hD.sub (ws' := [(h, .inr (5, [.ref h_tokens, .ref h_places, .ref h_values, .int f_size, .int f_at_2, .ref h_steps, .ref h_ends, .ref h_acts, .ref h_numbers, .int f_stepped, .int f_lines, .int f_fault, .int f_place])), (h_acts, .inl (cI, 20, .inl r_acts)), (h_ends, .inl (cI, 20, .inl r_ends)), (h_numbers, .inl (cI, 20, .inl r_numbers))]) [5, 0, 1, 2] (by decide) rfl
      have hFc := va_free (wc := [(h, .inr (5, [.ref h_tokens, .ref h_places, .ref h_values, .int f_size, .int f_at_2, .ref h_steps, .ref h_ends, .ref h_acts, .ref h_numbers, .int f_stepped, .int f_lines, .int f_fault, .int f_place])), (h_acts, .inl (cI, 20, .inl r_acts)), (h_ends, .inl (cI, 20, .inl r_ends)), (h_numbers, .inl (cI, 20, .inl r_numbers))]) hD hS hA [5, 0, 1, 2] rfl
      refine va_callv (va_runV (As := [.int x1, .int s0]) (rest := []) ⟨hx, hb, hml, hown, hts⟩ (kX5_keepLine l dC dI cI cZ cO cW h h_tokens h_places h_values h_steps h_ends h_acts h_numbers H.size f_size f_at_2 f_fault f_place f_stepped f_lines r_acts r_ends r_numbers x1 s0 _ hw) (cwV 2 hts (gV gw_395 gw_396 gw_397 gw_329 (gM gw_392)) rfl rfl rfl (by decide +kernel) ⟨Nat.le_of_ble_eq_true rfl, Nat.le_of_ble_eq_true rfl⟩) (pv_of hPc hK hDc (va_recv hK hPc (ci := 5) (q0 := 0) rfl rfl)) rfl rfl hl.1 rfl (lv_room (Nat.le_of_ble_eq_true rfl)) dX5_readLine_86 ⟨Nat.zero_le _, Nat.zero_le _⟩) hS (fun q _ h => hFc q h) hFc (fun u t H locs ht hvm hw hB hz1 hk1 hS => ?_)
      obtain ⟨f_lines_5, r_acts_6, r_ends_7, r_numbers_8⟩ := u
      obtain ⟨hP, hD⟩ := af_join (wr := [(h_steps, .inl (cI, 400, .inl r_steps)), (h_values, .inl (cI, 401, .inl r_values)), (h_tokens, .inl (cI, 401, .inl r_tokens))]) (w1 := [(h, .inr (5, [.ref h_tokens, .ref h_places, .ref h_values, .int f_size, .int f_at_2, .ref h_steps, .ref h_ends, .ref h_acts, .ref h_numbers, .int f_stepped, .int f_lines_5, .int f_fault, .int f_place])), (h_acts, .inl (cI, 20, .inl r_acts_6)), (h_ends, .inl (cI, 20, .inl r_ends_7)), (h_numbers, .inl (cI, 20, .inl r_numbers_8))]) hB ht hP hD [5, 0, 1, 2] [3, 4, 6] rfl rfl (by decide) (by decide) hk1 hFc
      have hP : va_P (dC, dI) vwCl [(h_steps, .inl (cI, 400, .inl r_steps)), (h_values, .inl (cI, 401, .inl r_values)), (h_tokens, .inl (cI, 401, .inl r_tokens)), (h, .inr (5, [.ref h_tokens, .ref h_places, .ref h_values, .int f_size, .int f_at_2, .ref h_steps, .ref h_ends, .ref h_acts, .ref h_numbers, .int f_stepped, .int f_lines_5, .int f_fault, .int f_place])), (h_acts, .inl (cI, 20, .inl r_acts_6)), (h_ends, .inl (cI, 20, .inl r_ends_7)), (h_numbers, .inl (cI, 20, .inl r_numbers_8))] _ := hP
      have hD : va_D A [(h_steps, .inl (cI, 400, .inl r_steps)), (h_values, .inl (cI, 401, .inl r_values)), (h_tokens, .inl (cI, 401, .inl r_tokens)), (h, .inr (5, [.ref h_tokens, .ref h_places, .ref h_values, .int f_size, .int f_at_2, .ref h_steps, .ref h_ends, .ref h_acts, .ref h_numbers, .int f_stepped, .int f_lines_5, .int f_fault, .int f_place])), (h_acts, .inl (cI, 20, .inl r_acts_6)), (h_ends, .inl (cI, 20, .inl r_ends_7)), (h_numbers, .inl (cI, 20, .inl r_numbers_8))] := hD
      refine lv_iconst (v := (1 : Int32)) hx hb dX5_readLine_89 (by decide) ?_
      have hP9 := hP.sub (ws' := (vX5_readLine cI cZ h h_tokens h_places h_values h_steps h_ends h_acts h_numbers f_fault f_place f_size f_at_2 f_stepped f_lines_5 r_acts_6 r_ends_7 r_numbers_8 r_steps r_tokens r_values)) [3, 4, 5, 6, 0, 2, 1] rfl
      have hD9 := hD.sub (ws' := (vX5_readLine cI cZ h h_tokens h_places h_values h_steps h_ends h_acts h_numbers f_fault f_place f_size f_at_2 f_stepped f_lines_5 r_acts_6 r_ends_7 r_numbers_8 r_steps r_tokens r_values)) [3, 4, 5, 6, 0, 2, 1] (by decide) rfl
      exact W.zret (v := (1 : Int32)) (ty := .boolean) hx hb hr rfl (fun t ht hW => ⟨⟨(1 : Int32), (f_at_2, f_stepped, f_lines_5, r_acts_6, r_ends_7, r_numbers_8, r_steps), rfl, hw, by rw [ht]; exact hP9, va_K.moved hW.alike hK, hD9⟩, hS.F ht⟩) hS.2.2 dX5_readLine_90
    · have hw := hw.2 c_4
      refine lv_iconst (v := (0 : Int32)) hx hb dX5_readLine_81 (by decide) ?_
      have hP9 := hP.sub (ws' := (vX5_readLine cI cZ h h_tokens h_places h_values h_steps h_ends h_acts h_numbers f_fault f_place f_size f_at_2 f_stepped f_lines r_acts r_ends r_numbers r_steps r_tokens r_values)) [5, 0, 1, 2, 3, 6, 4] rfl
      have hD9 := hD.sub (ws' := (vX5_readLine cI cZ h h_tokens h_places h_values h_steps h_ends h_acts h_numbers f_fault f_place f_size f_at_2 f_stepped f_lines r_acts r_ends r_numbers r_steps r_tokens r_values)) [5, 0, 1, 2, 3, 6, 4] (by decide) rfl
      exact W.zret (v := (0 : Int32)) (ty := .boolean) hx hb hr rfl (fun t ht hW => ⟨⟨(0 : Int32), (f_at_2, f_stepped, f_lines, r_acts, r_ends, r_numbers, r_steps), rfl, hw, by rw [ht]; exact hP9, va_K.moved hW.alike hK, hD9⟩, hS.F ht⟩) hS.2.2 dX5_readLine_82
set_option maxHeartbeats 4000000 in
set_option maxRecDepth 100000 in
theorem tX5_readLine_28 {p : Program} {l : Launch} {e : Env} {s : State} {m : MethodId} {args : Array Value} {below : List Frame} {meth : Method} {c : Code} {dC : Nat → ClassId} {dI : Nat → Nat → Nat} {cI cZ cO cW : ClassId} {A : Nat → Prop} {h h_tokens h_places h_values h_steps h_ends h_acts h_numbers : Nat} {f_fault f_place : Int32} {Q : Int32 → Int32 → Int32 → Int32 → (Nat → Int32) → (Nat → Int32) → (Nat → Int32) → (Nat → Int32) → Prop}  (hC : Cx p s m args meth c cX5_readLine (some .boolean) 3 GW RX5) (hK : va_K (dC, dI) vwCl (tysA cI cZ cO cW) s) (hA : ∀ q : Nat, s.heap.size ≤ q → A q) :
    ∀ (f_size : Int32) (f_at : Int32) (f_stepped : Int32) (f_lines : Int32) (r_acts : (Nat → Int32)) (r_ends : (Nat → Int32)) (r_numbers : (Nat → Int32)) (r_steps : (Nat → Int32)) (r_tokens : (Nat → Int32)) (r_values : (Nat → Int32)) (H : Heap) (locs : List Loc) (ls : Array Slot), wX5_readLine_28 Q  f_size f_at f_stepped f_lines r_acts r_ends r_numbers r_steps r_tokens r_values → va_P (dC, dI) vwCl (vX5_readLine cI cZ h h_tokens h_places h_values h_steps h_ends h_acts h_numbers f_fault f_place f_size f_at f_stepped f_lines r_acts r_ends r_numbers r_steps r_tokens r_values) H → va_D A (vX5_readLine cI cZ h h_tokens h_places h_values h_steps h_ends h_acts h_numbers f_fault f_place f_size f_at f_stepped f_lines r_acts r_ends r_numbers r_steps r_tokens r_values) → va_S A s.heap H locs → lv_has ls 3 [(0, .ref h)] → W p l e rmX5_readLine s m args below meth c H locs 0 0 (MQ below (qX5_readLine dC dI cI cZ cO cW h h_tokens h_places h_values h_steps h_ends h_acts h_numbers f_fault f_place f_size r_tokens r_values Q A) args s 0 0 A) (F0 m 28 ls []) := by
  obtain ⟨hx, hb, hr, hml, hown, hts, hlocks⟩ := id hC
  intro f_size f_at f_stepped f_lines r_acts r_ends r_numbers r_steps r_tokens r_values H locs ls hw hP hD hS hl
  refine lv_aload_n hx hb dX5_readLine_28 rfl (lv_at hl 0 rfl) ?_
  have hPc := hP.sub (ws' := [(h, .inr (5, [.ref h_tokens, .ref h_places, .ref h_values, .int f_size, .int f_at, .ref h_steps, .ref h_ends, .ref h_acts, .ref h_numbers, .int f_stepped, .int f_lines, .int f_fault, .int f_place])), (h_tokens, .inl (cI, 401, .inl r_tokens))]) [0, 5] rfl
  have hDc := hD.sub (ws' := [(h, .inr (5, [.ref h_tokens, .ref h_places, .ref h_values, .int f_size, .int f_at, .ref h_steps, .ref h_ends, .ref h_acts, .ref h_numbers, .int f_stepped, .int f_lines, .int f_fault, .int f_place])), (h_tokens, .inl (cI, 401, .inl r_tokens))]) [0, 5] (by decide) rfl
  have hFc := va_free (wc := [(h, .inr (5, [.ref h_tokens, .ref h_places, .ref h_values, .int f_size, .int f_at, .ref h_steps, .ref h_ends, .ref h_acts, .ref h_numbers, .int f_stepped, .int f_lines, .int f_fault, .int f_place])), (h_tokens, .inl (cI, 401, .inl r_tokens))]) hD hS hA [0, 5] rfl
  refine va_calli (va_runV (As := []) (rest := []) ⟨hx, hb, hml, hown, hts⟩ (kX5_token l dC dI cI cZ cO cW h h_tokens h_places h_values h_steps h_ends h_acts h_numbers H.size f_stepped f_lines f_fault f_place f_size f_at r_tokens _ hw) (cwV 0 hts (gV gw_359 gw_360 gw_361 gw_329 (gM gw_353)) rfl rfl rfl (by decide +kernel) ⟨Nat.le_of_ble_eq_true rfl, Nat.le_of_ble_eq_true rfl⟩) (pv_of hPc hK hDc (va_recv hK hPc (ci := 5) (q0 := 0) rfl rfl)) rfl rfl hl.1 rfl (lv_room (Nat.le_of_ble_eq_true rfl)) dX5_readLine_29 ⟨Nat.zero_le _, Nat.zero_le _⟩) hS (fun q _ h => hFc q h) hFc (fun r_9 u t H locs ht hvm hw hB hz1 hk1 hS => ?_)
  obtain ⟨hP, hD⟩ := af_join (wr := [(h_acts, .inl (cI, 20, .inl r_acts)), (h_ends, .inl (cI, 20, .inl r_ends)), (h_numbers, .inl (cI, 20, .inl r_numbers)), (h_steps, .inl (cI, 400, .inl r_steps)), (h_values, .inl (cI, 401, .inl r_values))]) (w1 := [(h, .inr (5, [.ref h_tokens, .ref h_places, .ref h_values, .int f_size, .int f_at, .ref h_steps, .ref h_ends, .ref h_acts, .ref h_numbers, .int f_stepped, .int f_lines, .int f_fault, .int f_place])), (h_tokens, .inl (cI, 401, .inl r_tokens))]) hB ht hP hD [0, 5] [1, 2, 3, 4, 6] rfl rfl (by decide) (by decide) hk1 hFc
  have hP : va_P (dC, dI) vwCl [(h_acts, .inl (cI, 20, .inl r_acts)), (h_ends, .inl (cI, 20, .inl r_ends)), (h_numbers, .inl (cI, 20, .inl r_numbers)), (h_steps, .inl (cI, 400, .inl r_steps)), (h_values, .inl (cI, 401, .inl r_values)), (h, .inr (5, [.ref h_tokens, .ref h_places, .ref h_values, .int f_size, .int f_at, .ref h_steps, .ref h_ends, .ref h_acts, .ref h_numbers, .int f_stepped, .int f_lines, .int f_fault, .int f_place])), (h_tokens, .inl (cI, 401, .inl r_tokens))] _ := hP
  have hD : va_D A [(h_acts, .inl (cI, 20, .inl r_acts)), (h_ends, .inl (cI, 20, .inl r_ends)), (h_numbers, .inl (cI, 20, .inl r_numbers)), (h_steps, .inl (cI, 400, .inl r_steps)), (h_values, .inl (cI, 401, .inl r_values)), (h, .inr (5, [.ref h_tokens, .ref h_places, .ref h_values, .int f_size, .int f_at, .ref h_steps, .ref h_ends, .ref h_acts, .ref h_numbers, .int f_stepped, .int f_lines, .int f_fault, .int f_place])), (h_tokens, .inl (cI, 401, .inl r_tokens))] := hD
  refine lv_istore_n (lv' := [(1, .int r_9), (0, .ref h)]) hx hb dX5_readLine_32 rfl hl (by decide) rfl (fun ls hl => ?_)
  refine lv_iload_n hx hb dX5_readLine_33 rfl (lv_at hl 0 rfl) ?_
  have hPc := hP.sub (ws' := []) [] rfl
  have hDc := hD.sub (ws' := []) [] (by decide) rfl
  have hFc := va_free (wc := []) hD hS hA [] rfl
  refine va_calli (va_runS (As := [.int r_9]) (rest := []) ⟨hx, hb, hml, hown, hts⟩ (kX9_isAct l dC dI cI cZ cO cW H.size r_9 _ hw) (va_cwS 1 hts (gS gw_393 gw_394 gw_322 (gM gw_391)) rfl rfl rfl (by decide +kernel) ⟨Nat.le_of_ble_eq_true rfl, Nat.le_of_ble_eq_true rfl⟩) (ps_of hPc hK hDc) rfl rfl hl.1 rfl (lv_room (Nat.le_of_ble_eq_true rfl)) dX5_readLine_34 ⟨Nat.zero_le _, Nat.zero_le _⟩) hS (fun q _ h => hFc q h) hFc (fun r_10 u t H locs ht hvm hw hB hz1 hk1 hS => ?_)
  obtain ⟨hP, hD⟩ := af_join (wr := [(h_acts, .inl (cI, 20, .inl r_acts)), (h_ends, .inl (cI, 20, .inl r_ends)), (h_numbers, .inl (cI, 20, .inl r_numbers)), (h_steps, .inl (cI, 400, .inl r_steps)), (h_values, .inl (cI, 401, .inl r_values)), (h, .inr (5, [.ref h_tokens, .ref h_places, .ref h_values, .int f_size, .int f_at, .ref h_steps, .ref h_ends, .ref h_acts, .ref h_numbers, .int f_stepped, .int f_lines, .int f_fault, .int f_place])), (h_tokens, .inl (cI, 401, .inl r_tokens))]) (w1 := []) hB ht hP hD [] [0, 1, 2, 3, 4, 5, 6] rfl rfl (by decide) (by decide) hk1 hFc
  have hP : va_P (dC, dI) vwCl [(h_acts, .inl (cI, 20, .inl r_acts)), (h_ends, .inl (cI, 20, .inl r_ends)), (h_numbers, .inl (cI, 20, .inl r_numbers)), (h_steps, .inl (cI, 400, .inl r_steps)), (h_values, .inl (cI, 401, .inl r_values)), (h, .inr (5, [.ref h_tokens, .ref h_places, .ref h_values, .int f_size, .int f_at, .ref h_steps, .ref h_ends, .ref h_acts, .ref h_numbers, .int f_stepped, .int f_lines, .int f_fault, .int f_place])), (h_tokens, .inl (cI, 401, .inl r_tokens))] _ := hP
  have hD : va_D A [(h_acts, .inl (cI, 20, .inl r_acts)), (h_ends, .inl (cI, 20, .inl r_ends)), (h_numbers, .inl (cI, 20, .inl r_numbers)), (h_steps, .inl (cI, 400, .inl r_steps)), (h_values, .inl (cI, 401, .inl r_values)), (h, .inr (5, [.ref h_tokens, .ref h_places, .ref h_values, .int f_size, .int f_at, .ref h_steps, .ref h_ends, .ref h_acts, .ref h_numbers, .int f_stepped, .int f_lines, .int f_fault, .int f_place])), (h_tokens, .inl (cI, 401, .inl r_tokens))] := hD
  refine lv_if_ne (tgt := 42) hx hb dX5_readLine_37 (by decide) (fun c_11 => ?_) (fun c_11 => ?_)
  · have hw := hw.1 c_11
    refine lv_aload_n hx hb dX5_readLine_42 rfl (lv_at hl 1 rfl) ?_
    refine lv_dup hx hb dX5_readLine_43 rfl ?_
    refine va_get (D := (dC, dI)) (ci := 5) (v := .int f_at) (C := RX5) (T := TX5) (N := 13) hx hb hts gu_X5 hown hK hP 5 rfl rfl 4 (by decide) (hts _ gw_261) (fun _ h9 => h9) rfl dX5_readLine_44 ?_
    refine lv_iconst (v := (1 : Int32)) hx hb dX5_readLine_47 (by decide) ?_
    refine lv_iadd hx hb dX5_readLine_48 ?_
    refine va_put (D := (dC, dI)) (ci := 5) (v := .int (f_at + (1 : Int32))) (ty := .int) (C := RX5) (T := TX5) (N := 13) hx hb hts gu_X5 tyX5 tyX5_ok nmX5 hown hK hP hD hS 5 rfl rfl 4 (by decide) (hts _ gw_261) (fun _ h9 => h9) rfl (tyX5_ok 4 (by decide)) rfl rfl (Nat.le_of_ble_eq_true rfl) dX5_readLine_49 (fun H locs hP hD hS => ?_)
    have hP : va_P (dC, dI) vwCl [(h_acts, .inl (cI, 20, .inl r_acts)), (h_ends, .inl (cI, 20, .inl r_ends)), (h_numbers, .inl (cI, 20, .inl r_numbers)), (h_steps, .inl (cI, 400, .inl r_steps)), (h_values, .inl (cI, 401, .inl r_values)), (h, .inr (5, [.ref h_tokens, .ref h_places, .ref h_values, .int f_size, .int (f_at + (1 : Int32)), .ref h_steps, .ref h_ends, .ref h_acts, .ref h_numbers, .int f_stepped, .int f_lines, .int f_fault, .int f_place])), (h_tokens, .inl (cI, 401, .inl r_tokens))] _ := hP
    have hD : va_D A [(h_acts, .inl (cI, 20, .inl r_acts)), (h_ends, .inl (cI, 20, .inl r_ends)), (h_numbers, .inl (cI, 20, .inl r_numbers)), (h_steps, .inl (cI, 400, .inl r_steps)), (h_values, .inl (cI, 401, .inl r_values)), (h, .inr (5, [.ref h_tokens, .ref h_places, .ref h_values, .int f_size, .int (f_at + (1 : Int32)), .ref h_steps, .ref h_ends, .ref h_acts, .ref h_numbers, .int f_stepped, .int f_lines, .int f_fault, .int f_place])), (h_tokens, .inl (cI, 401, .inl r_tokens))] := hD
    refine lv_iload_n hx hb dX5_readLine_52 rfl (lv_at hl 0 rfl) ?_
    refine lv_bipush (v := (15 : Int32)) hx hb dX5_readLine_53 (by decide) ?_
    refine lv_icmp_ne (tgt := 65) hx hb dX5_readLine_55 (by decide) (fun c_12 => ?_) (fun c_12 => ?_)
    · have hw := hw.1 c_12
      refine lv_iconst (v := (0 : Int32)) hx hb dX5_readLine_65 (by decide) ?_
      exact tX5_readLine_66 hC hK hA  r_9 (0 : Int32) f_size (f_at + (1 : Int32)) f_stepped f_lines r_acts r_ends r_numbers r_steps r_tokens r_values _ _ ls hw (hP.sub [5, 0, 1, 2, 3, 6, 4] rfl) (hD.sub [5, 0, 1, 2, 3, 6, 4] (by decide) rfl) hS (lv_sub hl [1, 0] rfl)
    · have hw := hw.2 c_12
      refine lv_aload_n hx hb dX5_readLine_58 rfl (lv_at hl 1 rfl) ?_
      have hPc := hP.sub (ws' := [(h, .inr (5, [.ref h_tokens, .ref h_places, .ref h_values, .int f_size, .int (f_at + (1 : Int32)), .ref h_steps, .ref h_ends, .ref h_acts, .ref h_numbers, .int f_stepped, .int f_lines, .int f_fault, .int f_place])), (h_tokens, .inl (cI, 401, .inl r_tokens)), (h_values, .inl (cI, 401, .inl r_values))]) [5, 6, 4] rfl
      have hDc := hD.sub (ws' := [(h, .inr (5, [.ref h_tokens, .ref h_places, .ref h_values, .int f_size, .int (f_at + (1 : Int32)), .ref h_steps, .ref h_ends, .ref h_acts, .ref h_numbers, .int f_stepped, .int f_lines, .int f_fault, .int f_place])), (h_tokens, .inl (cI, 401, .inl r_tokens)), (h_values, .inl (cI, 401, .inl r_values))]) [5, 6, 4] (by decide) rfl
      have hFc := va_free (wc := [(h, .inr (5, [.ref h_tokens, .ref h_places, .ref h_values, .int f_size, .int (f_at + (1 : Int32)), .ref h_steps, .ref h_ends, .ref h_acts, .ref h_numbers, .int f_stepped, .int f_lines, .int f_fault, .int f_place])), (h_tokens, .inl (cI, 401, .inl r_tokens)), (h_values, .inl (cI, 401, .inl r_values))]) hD hS hA [5, 6, 4] rfl
      refine va_calli (va_runV (As := []) (rest := []) ⟨hx, hb, hml, hown, hts⟩ (kX5_takeNumber l dC dI cI cZ cO cW h h_tokens h_places h_values h_steps h_ends h_acts h_numbers H.size f_stepped f_lines f_fault f_place f_size (f_at + (1 : Int32)) r_tokens r_values _ hw) (cwV 0 hts (gV gw_364 gw_365 gw_366 gw_329 (gM gw_358)) rfl rfl rfl (by decide +kernel) ⟨Nat.le_of_ble_eq_true rfl, Nat.le_of_ble_eq_true rfl⟩) (pv_of hPc hK hDc (va_recv hK hPc (ci := 5) (q0 := 0) rfl rfl)) rfl rfl hl.1 rfl (lv_room (Nat.le_of_ble_eq_true rfl)) dX5_readLine_59 ⟨Nat.zero_le _, Nat.zero_le _⟩) hS (fun q _ h => hFc q h) hFc (fun r_14 u t H locs ht hvm hw hB hz1 hk1 hS => ?_)
      obtain ⟨f_at_13, rfl⟩ : ∃ z, z = u := ⟨_, rfl⟩
      obtain ⟨hP, hD⟩ := af_join (wr := [(h_acts, .inl (cI, 20, .inl r_acts)), (h_ends, .inl (cI, 20, .inl r_ends)), (h_numbers, .inl (cI, 20, .inl r_numbers)), (h_steps, .inl (cI, 400, .inl r_steps))]) (w1 := [(h, .inr (5, [.ref h_tokens, .ref h_places, .ref h_values, .int f_size, .int f_at_13, .ref h_steps, .ref h_ends, .ref h_acts, .ref h_numbers, .int f_stepped, .int f_lines, .int f_fault, .int f_place])), (h_tokens, .inl (cI, 401, .inl r_tokens)), (h_values, .inl (cI, 401, .inl r_values))]) hB ht hP hD [5, 6, 4] [0, 1, 2, 3] rfl rfl (by decide) (by decide) hk1 hFc
      have hP : va_P (dC, dI) vwCl [(h_acts, .inl (cI, 20, .inl r_acts)), (h_ends, .inl (cI, 20, .inl r_ends)), (h_numbers, .inl (cI, 20, .inl r_numbers)), (h_steps, .inl (cI, 400, .inl r_steps)), (h, .inr (5, [.ref h_tokens, .ref h_places, .ref h_values, .int f_size, .int f_at_13, .ref h_steps, .ref h_ends, .ref h_acts, .ref h_numbers, .int f_stepped, .int f_lines, .int f_fault, .int f_place])), (h_tokens, .inl (cI, 401, .inl r_tokens)), (h_values, .inl (cI, 401, .inl r_values))] _ := hP
      have hD : va_D A [(h_acts, .inl (cI, 20, .inl r_acts)), (h_ends, .inl (cI, 20, .inl r_ends)), (h_numbers, .inl (cI, 20, .inl r_numbers)), (h_steps, .inl (cI, 400, .inl r_steps)), (h, .inr (5, [.ref h_tokens, .ref h_places, .ref h_values, .int f_size, .int f_at_13, .ref h_steps, .ref h_ends, .ref h_acts, .ref h_numbers, .int f_stepped, .int f_lines, .int f_fault, .int f_place])), (h_tokens, .inl (cI, 401, .inl r_tokens)), (h_values, .inl (cI, 401, .inl r_values))] := hD
      refine lv_goto (tgt := 66) hx hb dX5_readLine_62 (by decide) ?_
      exact tX5_readLine_66 hC hK hA  r_9 r_14 f_size f_at_13 f_stepped f_lines r_acts r_ends r_numbers r_steps r_tokens r_values _ _ ls hw (hP.sub [4, 0, 1, 2, 3, 5, 6] rfl) (hD.sub [4, 0, 1, 2, 3, 5, 6] (by decide) rfl) hS (lv_sub hl [1, 0] rfl)
  · have hw := hw.2 c_11
    refine lv_iconst (v := (0 : Int32)) hx hb dX5_readLine_40 (by decide) ?_
    have hP9 := hP.sub (ws' := (vX5_readLine cI cZ h h_tokens h_places h_values h_steps h_ends h_acts h_numbers f_fault f_place f_size f_at f_stepped f_lines r_acts r_ends r_numbers r_steps r_tokens r_values)) [5, 0, 1, 2, 3, 6, 4] rfl
    have hD9 := hD.sub (ws' := (vX5_readLine cI cZ h h_tokens h_places h_values h_steps h_ends h_acts h_numbers f_fault f_place f_size f_at f_stepped f_lines r_acts r_ends r_numbers r_steps r_tokens r_values)) [5, 0, 1, 2, 3, 6, 4] (by decide) rfl
    exact W.zret (v := (0 : Int32)) (ty := .boolean) hx hb hr rfl (fun t ht hW => ⟨⟨(0 : Int32), (f_at, f_stepped, f_lines, r_acts, r_ends, r_numbers, r_steps), rfl, hw, by rw [ht]; exact hP9, va_K.moved hW.alike hK, hD9⟩, hS.F ht⟩) hS.2.2 dX5_readLine_41
set_option maxHeartbeats 4000000 in
set_option maxRecDepth 100000 in
theorem tX5_readLine_e {p : Program} {l : Launch} {e : Env} {s : State} {m : MethodId} {args : Array Value} {below : List Frame} {meth : Method} {c : Code} {dC : Nat → ClassId} {dI : Nat → Nat → Nat} {cI cZ cO cW : ClassId} {A : Nat → Prop} {h h_tokens h_places h_values h_steps h_ends h_acts h_numbers : Nat} {f_fault f_place : Int32} {Q : Int32 → Int32 → Int32 → Int32 → (Nat → Int32) → (Nat → Int32) → (Nat → Int32) → (Nat → Int32) → Prop} (hC : Cx p s m args meth c cX5_readLine (some .boolean) 3 GW RX5) (hK : va_K (dC, dI) vwCl (tysA cI cZ cO cW) s) (hA : ∀ q : Nat, s.heap.size ≤ q → A q) :
    ∀ (f_size : Int32) (f_at : Int32) (f_stepped : Int32) (f_lines : Int32) (r_acts : Nat → Int32) (r_ends : Nat → Int32) (r_numbers : Nat → Int32) (r_steps : Nat → Int32) (r_tokens : Nat → Int32) (r_values : Nat → Int32) (H : Heap) (locs : List Loc) (ls : Array Slot), wX5_readLine Q  f_size f_at f_stepped f_lines r_acts r_ends r_numbers r_steps r_tokens r_values → va_P (dC, dI) vwCl (vX5_readLine cI cZ h h_tokens h_places h_values h_steps h_ends h_acts h_numbers f_fault f_place f_size f_at f_stepped f_lines r_acts r_ends r_numbers r_steps r_tokens r_values) H → va_D A (vX5_readLine cI cZ h h_tokens h_places h_values h_steps h_ends h_acts h_numbers f_fault f_place f_size f_at f_stepped f_lines r_acts r_ends r_numbers r_steps r_tokens r_values) → va_S A s.heap H locs → lv_has ls 3 [(0, .ref h)] → W p l e rmX5_readLine s m args below meth c H locs 0 0 (MQ below (qX5_readLine dC dI cI cZ cO cW h h_tokens h_places h_values h_steps h_ends h_acts h_numbers f_fault f_place f_size r_tokens r_values Q A) args s 0 0 A) (F0 m 0 ls []) := by
  obtain ⟨hx, hb, hr, hml, hown, hts, hlocks⟩ := id hC
  intro  f_size f_at f_stepped f_lines r_acts r_ends r_numbers r_steps r_tokens r_values H locs ls hw hP hD hS hl
  refine lv_aload_n hx hb dX5_readLine_0 rfl (lv_at hl 0 rfl) ?_
  refine lv_bipush (v := (16 : Int32)) hx hb dX5_readLine_1 (by decide) ?_
  have hPc := hP.sub (ws' := [(h, .inr (5, [.ref h_tokens, .ref h_places, .ref h_values, .int f_size, .int f_at, .ref h_steps, .ref h_ends, .ref h_acts, .ref h_numbers, .int f_stepped, .int f_lines, .int f_fault, .int f_place])), (h_tokens, .inl (cI, 401, .inl r_tokens))]) [0, 5] rfl
  have hDc := hD.sub (ws' := [(h, .inr (5, [.ref h_tokens, .ref h_places, .ref h_values, .int f_size, .int f_at, .ref h_steps, .ref h_ends, .ref h_acts, .ref h_numbers, .int f_stepped, .int f_lines, .int f_fault, .int f_place])), (h_tokens, .inl (cI, 401, .inl r_tokens))]) [0, 5] (by decide) rfl
  have hFc := va_free (wc := [(h, .inr (5, [.ref h_tokens, .ref h_places, .ref h_values, .int f_size, .int f_at, .ref h_steps, .ref h_ends, .ref h_acts, .ref h_numbers, .int f_stepped, .int f_lines, .int f_fault, .int f_place])), (h_tokens, .inl (cI, 401, .inl r_tokens))]) hD hS hA [0, 5] rfl
  refine va_calli (va_runV (As := [.int (16 : Int32)]) (rest := []) ⟨hx, hb, hml, hown, hts⟩ (kX5_take l dC dI cI cZ cO cW h h_tokens h_places h_values h_steps h_ends h_acts h_numbers H.size f_stepped f_lines f_fault f_place f_size f_at r_tokens (16 : Int32) _ hw) (cwV 1 hts (gV gw_376 gw_377 gw_378 gw_329 (gM gw_355)) rfl rfl rfl (by decide +kernel) ⟨Nat.le_of_ble_eq_true rfl, Nat.le_of_ble_eq_true rfl⟩) (pv_of hPc hK hDc (va_recv hK hPc (ci := 5) (q0 := 0) rfl rfl)) rfl rfl hl.1 rfl (lv_room (Nat.le_of_ble_eq_true rfl)) dX5_readLine_3 ⟨Nat.zero_le _, Nat.zero_le _⟩) hS (fun q _ h => hFc q h) hFc (fun r_16 u t H locs ht hvm hw hB hz1 hk1 hS => ?_)
  obtain ⟨f_at_15, rfl⟩ : ∃ z, z = u := ⟨_, rfl⟩
  obtain ⟨hP, hD⟩ := af_join (wr := [(h_acts, .inl (cI, 20, .inl r_acts)), (h_ends, .inl (cI, 20, .inl r_ends)), (h_numbers, .inl (cI, 20, .inl r_numbers)), (h_steps, .inl (cI, 400, .inl r_steps)), (h_values, .inl (cI, 401, .inl r_values))]) (w1 := [(h, .inr (5, [.ref h_tokens, .ref h_places, .ref h_values, .int f_size, .int f_at_15, .ref h_steps, .ref h_ends, .ref h_acts, .ref h_numbers, .int f_stepped, .int f_lines, .int f_fault, .int f_place])), (h_tokens, .inl (cI, 401, .inl r_tokens))]) hB ht hP hD [0, 5] [1, 2, 3, 4, 6] rfl rfl (by decide) (by decide) hk1 hFc
  have hP : va_P (dC, dI) vwCl [(h_acts, .inl (cI, 20, .inl r_acts)), (h_ends, .inl (cI, 20, .inl r_ends)), (h_numbers, .inl (cI, 20, .inl r_numbers)), (h_steps, .inl (cI, 400, .inl r_steps)), (h_values, .inl (cI, 401, .inl r_values)), (h, .inr (5, [.ref h_tokens, .ref h_places, .ref h_values, .int f_size, .int f_at_15, .ref h_steps, .ref h_ends, .ref h_acts, .ref h_numbers, .int f_stepped, .int f_lines, .int f_fault, .int f_place])), (h_tokens, .inl (cI, 401, .inl r_tokens))] _ := hP
  have hD : va_D A [(h_acts, .inl (cI, 20, .inl r_acts)), (h_ends, .inl (cI, 20, .inl r_ends)), (h_numbers, .inl (cI, 20, .inl r_numbers)), (h_steps, .inl (cI, 400, .inl r_steps)), (h_values, .inl (cI, 401, .inl r_values)), (h, .inr (5, [.ref h_tokens, .ref h_places, .ref h_values, .int f_size, .int f_at_15, .ref h_steps, .ref h_ends, .ref h_acts, .ref h_numbers, .int f_stepped, .int f_lines, .int f_fault, .int f_place])), (h_tokens, .inl (cI, 401, .inl r_tokens))] := hD
  refine lv_if_eq (tgt := 28) hx hb dX5_readLine_6 (by decide) (fun c_17 => ?_) (fun c_17 => ?_)
  · have hw := hw.1 c_17
    exact tX5_readLine_28 hC hK hA  f_size f_at_15 f_stepped f_lines r_acts r_ends r_numbers r_steps r_tokens r_values _ _ ls hw (hP.sub [5, 0, 1, 2, 3, 6, 4] rfl) (hD.sub [5, 0, 1, 2, 3, 6, 4] (by decide) rfl) hS (lv_sub hl [0] rfl)
  · have hw := hw.2 c_17
    refine lv_aload_n hx hb dX5_readLine_9 rfl (lv_at hl 0 rfl) ?_
    refine lv_iconst (v := (1 : Int32)) hx hb dX5_readLine_10 (by decide) ?_
    have hPc := hP.sub (ws' := [(h, .inr (5, [.ref h_tokens, .ref h_places, .ref h_values, .int f_size, .int f_at_15, .ref h_steps, .ref h_ends, .ref h_acts, .ref h_numbers, .int f_stepped, .int f_lines, .int f_fault, .int f_place])), (h_steps, .inl (cI, 400, .inl r_steps)), (h_tokens, .inl (cI, 401, .inl r_tokens)), (h_values, .inl (cI, 401, .inl r_values))]) [5, 3, 6, 4] rfl
    have hDc := hD.sub (ws' := [(h, .inr (5, [.ref h_tokens, .ref h_places, .ref h_values, .int f_size, .int f_at_15, .ref h_steps, .ref h_ends, .ref h_acts, .ref h_numbers, .int f_stepped, .int f_lines, .int f_fault, .int f_place])), (h_steps, .inl (cI, 400, .inl r_steps)), (h_tokens, .inl (cI, 401, .inl r_tokens)), (h_values, .inl (cI, 401, .inl r_values))]) [5, 3, 6, 4] (by decide) rfl
    have hFc := va_free (wc := [(h, .inr (5, [.ref h_tokens, .ref h_places, .ref h_values, .int f_size, .int f_at_15, .ref h_steps, .ref h_ends, .ref h_acts, .ref h_numbers, .int f_stepped, .int f_lines, .int f_fault, .int f_place])), (h_steps, .inl (cI, 400, .inl r_steps)), (h_tokens, .inl (cI, 401, .inl r_tokens)), (h_values, .inl (cI, 401, .inl r_values))]) hD hS hA [5, 3, 6, 4] rfl
    refine va_calli (va_runV (As := [.int (1 : Int32)]) (rest := []) ⟨hx, hb, hml, hown, hts⟩ (kX5_readTerm l dC dI cI cZ cO cW h h_tokens h_places h_values h_steps h_ends h_acts h_numbers H.size f_lines f_fault f_place f_size f_at_15 f_stepped r_steps r_tokens r_values (1 : Int32) _ hw) (cwV 1 hts (gV gw_380 gw_381 gw_382 gw_329 (gM gw_386)) rfl rfl rfl (by decide +kernel) ⟨Nat.le_of_ble_eq_true rfl, Nat.le_of_ble_eq_true rfl⟩) (pv_of hPc hK hDc (va_recv hK hPc (ci := 5) (q0 := 0) rfl rfl)) rfl rfl hl.1 rfl (lv_room (Nat.le_of_ble_eq_true rfl)) dX5_readLine_11 ⟨Nat.zero_le _, Nat.zero_le _⟩) hS (fun q _ h => hFc q h) hFc (fun r_21 u t H locs ht hvm hw hB hz1 hk1 hS => ?_)
    obtain ⟨f_at_18, f_stepped_19, r_steps_20⟩ := u
    obtain ⟨hP, hD⟩ := af_join (wr := [(h_acts, .inl (cI, 20, .inl r_acts)), (h_ends, .inl (cI, 20, .inl r_ends)), (h_numbers, .inl (cI, 20, .inl r_numbers))]) (w1 := [(h, .inr (5, [.ref h_tokens, .ref h_places, .ref h_values, .int f_size, .int f_at_18, .ref h_steps, .ref h_ends, .ref h_acts, .ref h_numbers, .int f_stepped_19, .int f_lines, .int f_fault, .int f_place])), (h_steps, .inl (cI, 400, .inl r_steps_20)), (h_tokens, .inl (cI, 401, .inl r_tokens)), (h_values, .inl (cI, 401, .inl r_values))]) hB ht hP hD [5, 3, 6, 4] [0, 1, 2] rfl rfl (by decide) (by decide) hk1 hFc
    have hP : va_P (dC, dI) vwCl [(h_acts, .inl (cI, 20, .inl r_acts)), (h_ends, .inl (cI, 20, .inl r_ends)), (h_numbers, .inl (cI, 20, .inl r_numbers)), (h, .inr (5, [.ref h_tokens, .ref h_places, .ref h_values, .int f_size, .int f_at_18, .ref h_steps, .ref h_ends, .ref h_acts, .ref h_numbers, .int f_stepped_19, .int f_lines, .int f_fault, .int f_place])), (h_steps, .inl (cI, 400, .inl r_steps_20)), (h_tokens, .inl (cI, 401, .inl r_tokens)), (h_values, .inl (cI, 401, .inl r_values))] _ := hP
    have hD : va_D A [(h_acts, .inl (cI, 20, .inl r_acts)), (h_ends, .inl (cI, 20, .inl r_ends)), (h_numbers, .inl (cI, 20, .inl r_numbers)), (h, .inr (5, [.ref h_tokens, .ref h_places, .ref h_values, .int f_size, .int f_at_18, .ref h_steps, .ref h_ends, .ref h_acts, .ref h_numbers, .int f_stepped_19, .int f_lines, .int f_fault, .int f_place])), (h_steps, .inl (cI, 400, .inl r_steps_20)), (h_tokens, .inl (cI, 401, .inl r_tokens)), (h_values, .inl (cI, 401, .inl r_values))] := hD
    refine lv_if_eq (tgt := 26) hx hb dX5_readLine_14 (by decide) (fun c_22 => ?_) (fun c_22 => ?_)
    · have hw := hw.1 c_22
      refine lv_iconst (v := (0 : Int32)) hx hb dX5_readLine_26 (by decide) ?_
      have hP9 := hP.sub (ws' := (vX5_readLine cI cZ h h_tokens h_places h_values h_steps h_ends h_acts h_numbers f_fault f_place f_size f_at_18 f_stepped_19 f_lines r_acts r_ends r_numbers r_steps_20 r_tokens r_values)) [3, 0, 1, 2, 4, 5, 6] rfl
      have hD9 := hD.sub (ws' := (vX5_readLine cI cZ h h_tokens h_places h_values h_steps h_ends h_acts h_numbers f_fault f_place f_size f_at_18 f_stepped_19 f_lines r_acts r_ends r_numbers r_steps_20 r_tokens r_values)) [3, 0, 1, 2, 4, 5, 6] (by decide) rfl
      exact W.zret (v := (0 : Int32)) (ty := .boolean) hx hb hr rfl (fun t ht hW => ⟨⟨(0 : Int32), (f_at_18, f_stepped_19, f_lines, r_acts, r_ends, r_numbers, r_steps_20), rfl, hw, by rw [ht]; exact hP9, va_K.moved hW.alike hK, hD9⟩, hS.F ht⟩) hS.2.2 dX5_readLine_27
    · have hw := hw.2 c_22
      refine lv_aload_n hx hb dX5_readLine_17 rfl (lv_at hl 0 rfl) ?_
      refine lv_bipush (v := (58 : Int32)) hx hb dX5_readLine_18 (by decide) ?_
      have hPc := hP.sub (ws' := [(h, .inr (5, [.ref h_tokens, .ref h_places, .ref h_values, .int f_size, .int f_at_18, .ref h_steps, .ref h_ends, .ref h_acts, .ref h_numbers, .int f_stepped_19, .int f_lines, .int f_fault, .int f_place])), (h_tokens, .inl (cI, 401, .inl r_tokens))]) [3, 5] rfl
      have hDc := hD.sub (ws' := [(h, .inr (5, [.ref h_tokens, .ref h_places, .ref h_values, .int f_size, .int f_at_18, .ref h_steps, .ref h_ends, .ref h_acts, .ref h_numbers, .int f_stepped_19, .int f_lines, .int f_fault, .int f_place])), (h_tokens, .inl (cI, 401, .inl r_tokens))]) [3, 5] (by decide) rfl
      have hFc := va_free (wc := [(h, .inr (5, [.ref h_tokens, .ref h_places, .ref h_values, .int f_size, .int f_at_18, .ref h_steps, .ref h_ends, .ref h_acts, .ref h_numbers, .int f_stepped_19, .int f_lines, .int f_fault, .int f_place])), (h_tokens, .inl (cI, 401, .inl r_tokens))]) hD hS hA [3, 5] rfl
      refine va_calli (va_runV (As := [.int (58 : Int32)]) (rest := []) ⟨hx, hb, hml, hown, hts⟩ (kX5_take l dC dI cI cZ cO cW h h_tokens h_places h_values h_steps h_ends h_acts h_numbers H.size f_stepped_19 f_lines f_fault f_place f_size f_at_18 r_tokens (58 : Int32) _ hw) (cwV 1 hts (gV gw_376 gw_377 gw_378 gw_329 (gM gw_355)) rfl rfl rfl (by decide +kernel) ⟨Nat.le_of_ble_eq_true rfl, Nat.le_of_ble_eq_true rfl⟩) (pv_of hPc hK hDc (va_recv hK hPc (ci := 5) (q0 := 0) rfl rfl)) rfl rfl hl.1 rfl (lv_room (Nat.le_of_ble_eq_true rfl)) dX5_readLine_20 ⟨Nat.zero_le _, Nat.zero_le _⟩) hS (fun q _ h => hFc q h) hFc (fun r_24 u t H locs ht hvm hw hB hz1 hk1 hS => ?_)
      obtain ⟨f_at_23, rfl⟩ : ∃ z, z = u := ⟨_, rfl⟩
      obtain ⟨hP, hD⟩ := af_join (wr := [(h_acts, .inl (cI, 20, .inl r_acts)), (h_ends, .inl (cI, 20, .inl r_ends)), (h_numbers, .inl (cI, 20, .inl r_numbers)), (h_steps, .inl (cI, 400, .inl r_steps_20)), (h_values, .inl (cI, 401, .inl r_values))]) (w1 := [(h, .inr (5, [.ref h_tokens, .ref h_places, .ref h_values, .int f_size, .int f_at_23, .ref h_steps, .ref h_ends, .ref h_acts, .ref h_numbers, .int f_stepped_19, .int f_lines, .int f_fault, .int f_place])), (h_tokens, .inl (cI, 401, .inl r_tokens))]) hB ht hP hD [3, 5] [0, 1, 2, 4, 6] rfl rfl (by decide) (by decide) hk1 hFc
      have hP : va_P (dC, dI) vwCl [(h_acts, .inl (cI, 20, .inl r_acts)), (h_ends, .inl (cI, 20, .inl r_ends)), (h_numbers, .inl (cI, 20, .inl r_numbers)), (h_steps, .inl (cI, 400, .inl r_steps_20)), (h_values, .inl (cI, 401, .inl r_values)), (h, .inr (5, [.ref h_tokens, .ref h_places, .ref h_values, .int f_size, .int f_at_23, .ref h_steps, .ref h_ends, .ref h_acts, .ref h_numbers, .int f_stepped_19, .int f_lines, .int f_fault, .int f_place])), (h_tokens, .inl (cI, 401, .inl r_tokens))] _ := hP
      have hD : va_D A [(h_acts, .inl (cI, 20, .inl r_acts)), (h_ends, .inl (cI, 20, .inl r_ends)), (h_numbers, .inl (cI, 20, .inl r_numbers)), (h_steps, .inl (cI, 400, .inl r_steps_20)), (h_values, .inl (cI, 401, .inl r_values)), (h, .inr (5, [.ref h_tokens, .ref h_places, .ref h_values, .int f_size, .int f_at_23, .ref h_steps, .ref h_ends, .ref h_acts, .ref h_numbers, .int f_stepped_19, .int f_lines, .int f_fault, .int f_place])), (h_tokens, .inl (cI, 401, .inl r_tokens))] := hD
      refine lv_if_ne (tgt := 28) hx hb dX5_readLine_23 (by decide) (fun c_25 => ?_) (fun c_25 => ?_)
      · have hw := hw.1 c_25
        exact tX5_readLine_28 hC hK hA  f_size f_at_23 f_stepped_19 f_lines r_acts r_ends r_numbers r_steps_20 r_tokens r_values _ _ ls hw (hP.sub [5, 0, 1, 2, 3, 6, 4] rfl) (hD.sub [5, 0, 1, 2, 3, 6, 4] (by decide) rfl) hS (lv_sub hl [0] rfl)
      · have hw := hw.2 c_25
        refine lv_iconst (v := (0 : Int32)) hx hb dX5_readLine_26 (by decide) ?_
        have hP9 := hP.sub (ws' := (vX5_readLine cI cZ h h_tokens h_places h_values h_steps h_ends h_acts h_numbers f_fault f_place f_size f_at_23 f_stepped_19 f_lines r_acts r_ends r_numbers r_steps_20 r_tokens r_values)) [5, 0, 1, 2, 3, 6, 4] rfl
        have hD9 := hD.sub (ws' := (vX5_readLine cI cZ h h_tokens h_places h_values h_steps h_ends h_acts h_numbers f_fault f_place f_size f_at_23 f_stepped_19 f_lines r_acts r_ends r_numbers r_steps_20 r_tokens r_values)) [5, 0, 1, 2, 3, 6, 4] (by decide) rfl
        exact W.zret (v := (0 : Int32)) (ty := .boolean) hx hb hr rfl (fun t ht hW => ⟨⟨(0 : Int32), (f_at_23, f_stepped_19, f_lines, r_acts, r_ends, r_numbers, r_steps_20), rfl, hw, by rw [ht]; exact hP9, va_K.moved hW.alike hK, hD9⟩, hS.F ht⟩) hS.2.2 dX5_readLine_27
set_option maxHeartbeats 4000000 in
set_option maxRecDepth 100000 in
theorem kX5_readLine (l : Launch) (dC : Nat → ClassId) (dI : Nat → Nat → Nat) (cI cZ cO cW : ClassId) (h h_tokens h_places h_values h_steps h_ends h_acts h_numbers : Nat)  (sz : Nat) (f_fault : Int32) (f_place : Int32) (f_size : Int32) (f_at : Int32) (f_stepped : Int32) (f_lines : Int32) (r_acts : Nat → Int32) (r_ends : Nat → Int32) (r_numbers : Nat → Int32) (r_steps : Nat → Int32) (r_tokens : Nat → Int32) (r_values : Nat → Int32)  (Q : Int32 → Int32 → Int32 → Int32 → (Nat → Int32) → (Nat → Int32) → (Nat → Int32) → (Nat → Int32) → Prop) (hw : wX5_readLine Q  f_size f_at f_stepped f_lines r_acts r_ends r_numbers r_steps r_tokens r_values) : Met l yX5_readLine zsX5_readLine rmX5_readLine (va_Pc [.ref h] (fun U => U.heap.size = sz ∧ va_P (dC, dI) vwCl (vX5_readLine cI cZ h h_tokens h_places h_values h_steps h_ends h_acts h_numbers f_fault f_place f_size f_at f_stepped f_lines r_acts r_ends r_numbers r_steps r_tokens r_values) U.heap ∧ va_K (dC, dI) vwCl (tysA cI cZ cO cW) U ∧ va_D (fun _ => True) (vX5_readLine cI cZ h h_tokens h_places h_values h_steps h_ends h_acts h_numbers f_fault f_place f_size f_at f_stepped f_lines r_acts r_ends r_numbers r_steps r_tokens r_values))) (qX5_readLine dC dI cI cZ cO cW h h_tokens h_places h_values h_steps h_ends h_acts h_numbers f_fault f_place f_size r_tokens r_values Q (va_A (vX5_readLine cI cZ h h_tokens h_places h_values h_steps h_ends h_acts h_numbers f_fault f_place f_size f_at f_stepped f_lines r_acts r_ends r_numbers r_steps r_tokens r_values) sz)) 0 0 (va_A (vX5_readLine cI cZ h h_tokens h_places h_values h_steps h_ends h_acts h_numbers f_fault f_place f_size f_at f_stepped f_lines r_acts r_ends r_numbers r_steps r_tokens r_values) sz) := by
  refine Met.ofW (cc := cX5_readLine) (maxL := 3) (ret := (some .boolean)) (by decide) rfl ?_
  intro p e s m args below meth c s₁ B hml hv
  obtain ⟨rfl, hsz, hP, hK, hD0⟩ := hv
  subst hsz
  have hC : Cx p s m ([.ref h] : List Value).toArray meth c cX5_readLine (some .boolean) 3 GW RX5 := ⟨B.exec, B.bytes, B.returns, hml, findClass_of_methodNamed B.named, fun w h => atoms_spec (ws := zsX5_readLine) B.pre w (List.mem_cons_of_mem _ h), B.notSynchronized⟩
  have hD := hD0.self (sz := s.heap.size)
  generalize hAe : va_A (vX5_readLine cI cZ h h_tokens h_places h_values h_steps h_ends h_acts h_numbers f_fault f_place f_size f_at f_stepped f_lines r_acts r_ends r_numbers r_steps r_tokens r_values) s.heap.size = A at hD ⊢
  have hA : ∀ q : Nat, s.heap.size ≤ q → A q := fun q h => by rw [← hAe]; exact Or.inr h
  have hl := lv_entry ([.ref h]) (n := 3) (Nat.le_of_ble_eq_true rfl)
  rw [lg_entry_eq]
  generalize (lg_sl ([.ref h]) ++ List.replicate (3 - (lg_sl ([.ref h])).length) Slot.unset).toArray = ls at hl ⊢
  exact tX5_readLine_e hC hK hA  f_size f_at f_stepped f_lines r_acts r_ends r_numbers r_steps r_tokens r_values _ _ ls hw hP hD va_S.rf hl
