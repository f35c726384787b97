theorem dX9_addToken_4 : decode cX9_addToken 4 = .ok (.sipush 400, 3) := by decide +kernel
theorem dX9_addToken_7 : decode cX9_addToken 7 = .ok (.if_icmp .ge 48, 3) := by decide +kernel
theorem dX9_addToken_10 : decode cX9_addToken 10 = .ok (.aload_n 0, 1) := by decide +kernel
theorem dX9_addToken_11 : decode cX9_addToken 11 = .ok (.getfield 15, 3) := by decide +kernel
theorem dX9_addToken_14 : decode cX9_addToken 14 = .ok (.aload_n 0, 1) := by decide +kernel
theorem dX9_addToken_15 : decode cX9_addToken 15 = .ok (.getfield 43, 3) := by decide +kernel
theorem dX9_addToken_18 : decode cX9_addToken 18 = .ok (.aload_n 0, 1) := by decide +kernel
theorem dX9_addToken_19 : decode cX9_addToken 19 = .ok (.iload_n 1, 1) := by decide +kernel
theorem dX9_addToken_20 : decode cX9_addToken 20 = .ok (.iload_n 2, 1) := by decide +kernel
theorem dX9_addToken_21 : decode cX9_addToken 21 = .ok (.invokevirtual 57, 3) := by decide +kernel
theorem dX9_addToken_24 : decode cX9_addToken 24 = .ok (.iastore, 1) := by decide +kernel
theorem dX9_addToken_25 : decode cX9_addToken 25 = .ok (.aload_n 0, 1) := by decide +kernel
theorem dX9_addToken_26 : decode cX9_addToken 26 = .ok (.getfield 18, 3) := by decide +kernel
theorem dX9_addToken_29 : decode cX9_addToken 29 = .ok (.aload_n 0, 1) := by decide +kernel
theorem dX9_addToken_30 : decode cX9_addToken 30 = .ok (.getfield 43, 3) := by decide +kernel
theorem dX9_addToken_33 : decode cX9_addToken 33 = .ok (.iload_n 1, 1) := by decide +kernel
theorem dX9_addToken_34 : decode cX9_addToken 34 = .ok (.iastore, 1) := by decide +kernel
theorem dX9_addToken_35 : decode cX9_addToken 35 = .ok (.aload_n 0, 1) := by decide +kernel
theorem dX9_addToken_36 : decode cX9_addToken 36 = .ok (.getfield 21, 3) := by decide +kernel
theorem dX9_addToken_39 : decode cX9_addToken 39 = .ok (.aload_n 0, 1) := by decide +kernel
theorem dX9_addToken_40 : decode cX9_addToken 40 = .ok (.getfield 43, 3) := by decide +kernel
theorem dX9_addToken_43 : decode cX9_addToken 43 = .ok (.iload_n 2, 1) := by decide +kernel
theorem dX9_addToken_44 : decode cX9_addToken 44 = .ok (.iastore, 1) := by decide +kernel
theorem dX9_addToken_45 : decode cX9_addToken 45 = .ok (.aload_n 0, 1) := by decide +kernel
theorem dX9_addToken_46 : decode cX9_addToken 46 = .ok (.dup, 1) := by decide +kernel
theorem dX9_addToken_47 : decode cX9_addToken 47 = .ok (.getfield 43, 3) := by decide +kernel
theorem dX9_addToken_50 : decode cX9_addToken 50 = .ok (.iconst 1, 1) := by decide +kernel
theorem dX9_addToken_51 : decode cX9_addToken 51 = .ok (.iadd, 1) := by decide +kernel
theorem dX9_addToken_52 : decode cX9_addToken 52 = .ok (.putfield 43, 3) := by decide +kernel
theorem dX9_addToken_55 : decode cX9_addToken 55 = .ok (.return_, 1) := by decide +kernel
theorem dX9_endOf_0 : decode cX9_endOf 0 = .ok (.aload_n 0, 1) := by decide +kernel
theorem dX9_endOf_1 : decode cX9_endOf 1 = .ok (.getfield 9, 3) := by decide +kernel
theorem dX9_endOf_4 : decode cX9_endOf 4 = .ok (.iload_n 1, 1) := by decide +kernel
theorem dX9_endOf_5 : decode cX9_endOf 5 = .ok (.iaload, 1) := by decide +kernel
theorem dX9_endOf_6 : decode cX9_endOf 6 = .ok (.invokestatic 60, 3) := by decide +kernel
theorem dX9_endOf_9 : decode cX9_endOf 9 = .ok (.istore_n 2, 1) := by decide +kernel
theorem dX9_endOf_10 : decode cX9_endOf 10 = .ok (.iload_n 1, 1) := by decide +kernel
theorem dX9_endOf_11 : decode cX9_endOf 11 = .ok (.iconst 1, 1) := by decide +kernel
theorem dX9_endOf_12 : decode cX9_endOf 12 = .ok (.iadd, 1) := by decide +kernel
theorem dX9_endOf_13 : decode cX9_endOf 13 = .ok (.istore_n 3, 1) := by decide +kernel
theorem dX9_endOf_14 : decode cX9_endOf 14 = .ok (.iload_n 2, 1) := by decide +kernel
theorem dX9_endOf_15 : decode cX9_endOf 15 = .ok (.ifCond .eq 30, 3) := by decide +kernel
theorem dX9_endOf_18 : decode cX9_endOf 18 = .ok (.iload_n 3, 1) := by decide +kernel
theorem dX9_endOf_19 : decode cX9_endOf 19 = .ok (.aload_n 0, 1) := by decide +kernel
theorem dX9_endOf_20 : decode cX9_endOf 20 = .ok (.getfield 34, 3) := by decide +kernel
theorem dX9_endOf_23 : decode cX9_endOf 23 = .ok (.if_icmp .ge 22, 3) := by decide +kernel
theorem dX9_endOf_26 : decode cX9_endOf 26 = .ok (.aload_n 0, 1) := by decide +kernel
theorem dX9_endOf_27 : decode cX9_endOf 27 = .ok (.getfield 9, 3) := by decide +kernel
theorem dX9_endOf_30 : decode cX9_endOf 30 = .ok (.iload_n 3, 1) := by decide +kernel
theorem dX9_endOf_31 : decode cX9_endOf 31 = .ok (.iaload, 1) := by decide +kernel
theorem dX9_endOf_32 : decode cX9_endOf 32 = .ok (.invokestatic 60, 3) := by decide +kernel
theorem dX9_endOf_35 : decode cX9_endOf 35 = .ok (.iload_n 2, 1) := by decide +kernel
theorem dX9_endOf_36 : decode cX9_endOf 36 = .ok (.if_icmp .ne 9, 3) := by decide +kernel
theorem dX9_endOf_39 : decode cX9_endOf 39 = .ok (.iinc 3 1, 3) := by decide +kernel
theorem dX9_endOf_42 : decode cX9_endOf 42 = .ok (.goto (-28), 3) := by decide +kernel
theorem dX9_endOf_45 : decode cX9_endOf 45 = .ok (.iload_n 3, 1) := by decide +kernel
theorem dX9_endOf_46 : decode cX9_endOf 46 = .ok (.ireturn, 1) := by decide +kernel
theorem dX9_sortOf_0 : decode cX9_sortOf 0 = .ok (.iload_n 0, 1) := by decide +kernel
theorem dX9_sortOf_1 : decode cX9_sortOf 1 = .ok (.bipush 97, 2) := by decide +kernel
theorem dX9_sortOf_3 : decode cX9_sortOf 3 = .ok (.if_icmp .lt 11, 3) := by decide +kernel
theorem dX9_sortOf_6 : decode cX9_sortOf 6 = .ok (.iload_n 0, 1) := by decide +kernel
theorem dX9_sortOf_7 : decode cX9_sortOf 7 = .ok (.bipush 122, 2) := by decide +kernel
theorem dX9_sortOf_9 : decode cX9_sortOf 9 = .ok (.if_icmp .gt 5, 3) := by decide +kernel
theorem dX9_sortOf_12 : decode cX9_sortOf 12 = .ok (.iconst 1, 1) := by decide +kernel
theorem dX9_sortOf_13 : decode cX9_sortOf 13 = .ok (.ireturn, 1) := by decide +kernel
theorem dX9_sortOf_14 : decode cX9_sortOf 14 = .ok (.iload_n 0, 1) := by decide +kernel
theorem dX9_sortOf_15 : decode cX9_sortOf 15 = .ok (.bipush 48, 2) := by decide +kernel
theorem dX9_sortOf_17 : decode cX9_sortOf 17 = .ok (.if_icmp .lt 13, 3) := by decide +kernel
theorem dX9_sortOf_20 : decode cX9_sortOf 20 = .ok (.iload_n 0, 1) := by decide +kernel
theorem dX9_sortOf_21 : decode cX9_sortOf 21 = .ok (.bipush 57, 2) := by decide +kernel
theorem dX9_sortOf_23 : decode cX9_sortOf 23 = .ok (.if_icmp .gt 7, 3) := by decide +kernel
theorem dX9_sortOf_26 : decode cX9_sortOf 26 = .ok (.iconst 2, 1) := by decide +kernel
theorem dX9_sortOf_27 : decode cX9_sortOf 27 = .ok (.goto 4, 3) := by decide +kernel
theorem dX9_sortOf_30 : decode cX9_sortOf 30 = .ok (.iconst 0, 1) := by decide +kernel
theorem dX9_sortOf_31 : decode cX9_sortOf 31 = .ok (.ireturn, 1) := by decide +kernel
theorem dX9_codeOf_0 : decode cX9_codeOf 0 = .ok (.aload_n 0, 1) := by decide +kernel
theorem dX9_codeOf_1 : decode cX9_codeOf 1 = .ok (.getfield 9, 3) := by decide +kernel
theorem dX9_codeOf_4 : decode cX9_codeOf 4 = .ok (.iload_n 1, 1) := by decide +kernel
theorem dX9_codeOf_5 : decode cX9_codeOf 5 = .ok (.iaload, 1) := by decide +kernel
theorem dX9_codeOf_6 : decode cX9_codeOf 6 = .ok (.invokestatic 60, 3) := by decide +kernel
theorem dX9_codeOf_9 : decode cX9_codeOf 9 = .ok (.istore_n 3, 1) := by decide +kernel
theorem dX9_codeOf_10 : decode cX9_codeOf 10 = .ok (.iload_n 3, 1) := by decide +kernel
theorem dX9_codeOf_11 : decode cX9_codeOf 11 = .ok (.ifCond .ne 14, 3) := by decide +kernel
theorem dX9_codeOf_14 : decode cX9_codeOf 14 = .ok (.sipush 1100, 3) := by decide +kernel
theorem dX9_codeOf_17 : decode cX9_codeOf 17 = .ok (.aload_n 0, 1) := by decide +kernel
theorem dX9_codeOf_18 : decode cX9_codeOf 18 = .ok (.getfield 9, 3) := by decide +kernel
theorem dX9_codeOf_21 : decode cX9_codeOf 21 = .ok (.iload_n 1, 1) := by decide +kernel
theorem dX9_codeOf_22 : decode cX9_codeOf 22 = .ok (.iaload, 1) := by decide +kernel
theorem dX9_codeOf_23 : decode cX9_codeOf 23 = .ok (.iadd, 1) := by decide +kernel
theorem dX9_codeOf_24 : decode cX9_codeOf 24 = .ok (.ireturn, 1) := by decide +kernel
theorem dX9_codeOf_25 : decode cX9_codeOf 25 = .ok (.iload_n 3, 1) := by decide +kernel
theorem dX9_codeOf_26 : decode cX9_codeOf 26 = .ok (.iconst 1, 1) := by decide +kernel
theorem dX9_codeOf_27 : decode cX9_codeOf 27 = .ok (.if_icmp .ne 12, 3) := by decide +kernel
theorem dX9_codeOf_30 : decode cX9_codeOf 30 = .ok (.aload_n 0, 1) := by decide +kernel
theorem dX9_codeOf_31 : decode cX9_codeOf 31 = .ok (.iload_n 1, 1) := by decide +kernel
theorem dX9_codeOf_32 : decode cX9_codeOf 32 = .ok (.iload_n 2, 1) := by decide +kernel
theorem dX9_codeOf_33 : decode cX9_codeOf 33 = .ok (.invokevirtual 63, 3) := by decide +kernel
theorem dX9_codeOf_36 : decode cX9_codeOf 36 = .ok (.goto 9, 3) := by decide +kernel
theorem dX9_codeOf_39 : decode cX9_codeOf 39 = .ok (.aload_n 0, 1) := by decide +kernel
theorem dX9_codeOf_40 : decode cX9_codeOf 40 = .ok (.iload_n 1, 1) := by decide +kernel
theorem dX9_codeOf_41 : decode cX9_codeOf 41 = .ok (.iload_n 2, 1) := by decide +kernel
theorem dX9_codeOf_42 : decode cX9_codeOf 42 = .ok (.invokevirtual 66, 3) := by decide +kernel
theorem dX9_codeOf_45 : decode cX9_codeOf 45 = .ok (.ireturn, 1) := by decide +kernel
theorem dX9_numberCode_0 : decode cX9_numberCode 0 = .ok (.iload_n 2, 1) := by decide +kernel
theorem dX9_numberCode_1 : decode cX9_numberCode 1 = .ok (.iconst 3, 1) := by decide +kernel
theorem dX9_numberCode_2 : decode cX9_numberCode 2 = .ok (.if_icmp .le 7, 3) := by decide +kernel
theorem dX9_numberCode_5 : decode cX9_numberCode 5 = .ok (.sipush 1020, 3) := by decide +kernel
theorem dX9_numberCode_8 : decode cX9_numberCode 8 = .ok (.ireturn, 1) := by decide +kernel
theorem dX9_numberCode_9 : decode cX9_numberCode 9 = .ok (.iconst 0, 1) := by decide +kernel
theorem dX9_numberCode_10 : decode cX9_numberCode 10 = .ok (.istore_n 3, 1) := by decide +kernel
theorem dX9_numberCode_11 : decode cX9_numberCode 11 = .ok (.iload_n 1, 1) := by decide +kernel
theorem dX9_numberCode_12 : decode cX9_numberCode 12 = .ok (.istore 4, 2) := by decide +kernel
theorem dX9_numberCode_14 : decode cX9_numberCode 14 = .ok (.iload 4, 2) := by decide +kernel
theorem dX9_numberCode_16 : decode cX9_numberCode 16 = .ok (.iload_n 1, 1) := by decide +kernel
theorem dX9_numberCode_17 : decode cX9_numberCode 17 = .ok (.iload_n 2, 1) := by decide +kernel
theorem dX9_numberCode_18 : decode cX9_numberCode 18 = .ok (.iadd, 1) := by decide +kernel
theorem dX9_numberCode_19 : decode cX9_numberCode 19 = .ok (.if_icmp .ge 34, 3) := by decide +kernel
theorem dX9_numberCode_22 : decode cX9_numberCode 22 = .ok (.iload 4, 2) := by decide +kernel
theorem dX9_numberCode_24 : decode cX9_numberCode 24 = .ok (.aload_n 0, 1) := by decide +kernel
theorem dX9_numberCode_25 : decode cX9_numberCode 25 = .ok (.getfield 34, 3) := by decide +kernel
theorem dX9_numberCode_28 : decode cX9_numberCode 28 = .ok (.if_icmp .ge 25, 3) := by decide +kernel
theorem dX9_numberCode_31 : decode cX9_numberCode 31 = .ok (.bipush 10, 2) := by decide +kernel
theorem dX9_numberCode_33 : decode cX9_numberCode 33 = .ok (.iload_n 3, 1) := by decide +kernel
theorem dX9_numberCode_34 : decode cX9_numberCode 34 = .ok (.imul, 1) := by decide +kernel
theorem dX9_numberCode_35 : decode cX9_numberCode 35 = .ok (.aload_n 0, 1) := by decide +kernel
theorem dX9_numberCode_36 : decode cX9_numberCode 36 = .ok (.getfield 9, 3) := by decide +kernel
theorem dX9_numberCode_39 : decode cX9_numberCode 39 = .ok (.iload 4, 2) := by decide +kernel
theorem dX9_numberCode_41 : decode cX9_numberCode 41 = .ok (.iaload, 1) := by decide +kernel
theorem dX9_numberCode_42 : decode cX9_numberCode 42 = .ok (.iadd, 1) := by decide +kernel
theorem dX9_numberCode_43 : decode cX9_numberCode 43 = .ok (.bipush 48, 2) := by decide +kernel
theorem dX9_numberCode_45 : decode cX9_numberCode 45 = .ok (.isub, 1) := by decide +kernel
theorem dX9_numberCode_46 : decode cX9_numberCode 46 = .ok (.istore_n 3, 1) := by decide +kernel
theorem dX9_numberCode_47 : decode cX9_numberCode 47 = .ok (.iinc 4 1, 3) := by decide +kernel
theorem dX9_numberCode_50 : decode cX9_numberCode 50 = .ok (.goto (-36), 3) := by decide +kernel
theorem dX9_numberCode_53 : decode cX9_numberCode 53 = .ok (.iload_n 3, 1) := by decide +kernel
theorem dX9_numberCode_54 : decode cX9_numberCode 54 = .ok (.ireturn, 1) := by decide +kernel
theorem dX9_wordCode_0 : decode cX9_wordCode 0 = .ok (.sipush 1000, 3) := by decide +kernel
theorem dX9_wordCode_3 : decode cX9_wordCode 3 = .ok (.istore_n 3, 1) := by decide +kernel
theorem dX9_wordCode_4 : decode cX9_wordCode 4 = .ok (.iconst 0, 1) := by decide +kernel
theorem dX9_wordCode_5 : decode cX9_wordCode 5 = .ok (.istore 4, 2) := by decide +kernel
theorem dX9_wordCode_7 : decode cX9_wordCode 7 = .ok (.iconst 0, 1) := by decide +kernel
theorem dX9_wordCode_8 : decode cX9_wordCode 8 = .ok (.istore 5, 2) := by decide +kernel
theorem dX9_wordCode_10 : decode cX9_wordCode 10 = .ok (.iload 5, 2) := by decide +kernel
theorem dX9_wordCode_12 : decode cX9_wordCode 12 = .ok (.ldc 69, 2) := by decide +kernel
theorem dX9_wordCode_14 : decode cX9_wordCode 14 = .ok (.invokevirtual 71, 3) := by decide +kernel
theorem dX9_wordCode_17 : decode cX9_wordCode 17 = .ok (.if_icmp .gt 62, 3) := by decide +kernel
theorem dX9_wordCode_20 : decode cX9_wordCode 20 = .ok (.iload 5, 2) := by decide +kernel
theorem dX9_wordCode_22 : decode cX9_wordCode 22 = .ok (.ldc 69, 2) := by decide +kernel
theorem dX9_wordCode_24 : decode cX9_wordCode 24 = .ok (.invokevirtual 71, 3) := by decide +kernel
theorem dX9_wordCode_27 : decode cX9_wordCode 27 = .ok (.if_icmp .eq 15, 3) := by decide +kernel
theorem dX9_wordCode_30 : decode cX9_wordCode 30 = .ok (.ldc 69, 2) := by decide +kernel
theorem dX9_wordCode_32 : decode cX9_wordCode 32 = .ok (.iload 5, 2) := by decide +kernel
theorem dX9_wordCode_34 : decode cX9_wordCode 34 = .ok (.invokevirtual 77, 3) := by decide +kernel
theorem dX9_wordCode_37 : decode cX9_wordCode 37 = .ok (.bipush 32, 2) := by decide +kernel
theorem dX9_wordCode_39 : decode cX9_wordCode 39 = .ok (.if_icmp .ne 34, 3) := by decide +kernel
theorem dX9_wordCode_42 : decode cX9_wordCode 42 = .ok (.iload 5, 2) := by decide +kernel
theorem dX9_wordCode_44 : decode cX9_wordCode 44 = .ok (.iload 4, 2) := by decide +kernel
theorem dX9_wordCode_46 : decode cX9_wordCode 46 = .ok (.isub, 1) := by decide +kernel
theorem dX9_wordCode_47 : decode cX9_wordCode 47 = .ok (.iload_n 2, 1) := by decide +kernel
theorem dX9_wordCode_48 : decode cX9_wordCode 48 = .ok (.if_icmp .ne 16, 3) := by decide +kernel
theorem dX9_wordCode_51 : decode cX9_wordCode 51 = .ok (.aload_n 0, 1) := by decide +kernel
theorem dX9_wordCode_52 : decode cX9_wordCode 52 = .ok (.iload 4, 2) := by decide +kernel
theorem dX9_wordCode_54 : decode cX9_wordCode 54 = .ok (.iload_n 1, 1) := by decide +kernel
theorem dX9_wordCode_55 : decode cX9_wordCode 55 = .ok (.iload_n 2, 1) := by decide +kernel
theorem dX9_wordCode_56 : decode cX9_wordCode 56 = .ok (.invokevirtual 81, 3) := by decide +kernel
theorem dX9_wordCode_59 : decode cX9_wordCode 59 = .ok (.ifCond .eq 5, 3) := by decide +kernel
theorem dX9_wordCode_62 : decode cX9_wordCode 62 = .ok (.iload_n 3, 1) := by decide +kernel
theorem dX9_wordCode_63 : decode cX9_wordCode 63 = .ok (.ireturn, 1) := by decide +kernel
theorem dX9_wordCode_64 : decode cX9_wordCode 64 = .ok (.iload 5, 2) := by decide +kernel
theorem dX9_wordCode_66 : decode cX9_wordCode 66 = .ok (.iconst 1, 1) := by decide +kernel
theorem dX9_wordCode_67 : decode cX9_wordCode 67 = .ok (.iadd, 1) := by decide +kernel
theorem dX9_wordCode_68 : decode cX9_wordCode 68 = .ok (.istore 4, 2) := by decide +kernel
theorem dX9_wordCode_70 : decode cX9_wordCode 70 = .ok (.iinc 3 1, 3) := by decide +kernel
theorem dX9_wordCode_73 : decode cX9_wordCode 73 = .ok (.iinc 5 1, 3) := by decide +kernel
theorem dX9_wordCode_76 : decode cX9_wordCode 76 = .ok (.goto (-66), 3) := by decide +kernel
theorem dX9_wordCode_79 : decode cX9_wordCode 79 = .ok (.sipush 1019, 3) := by decide +kernel
theorem dX9_wordCode_82 : decode cX9_wordCode 82 = .ok (.ireturn, 1) := by decide +kernel
theorem dX9_isKnown_0 : decode cX9_isKnown 0 = .ok (.iconst 0, 1) := by decide +kernel
theorem dX9_isKnown_1 : decode cX9_isKnown 1 = .ok (.istore 4, 2) := by decide +kernel
theorem dX9_isKnown_3 : decode cX9_isKnown 3 = .ok (.iload 4, 2) := by decide +kernel
theorem dX9_isKnown_5 : decode cX9_isKnown 5 = .ok (.iload_n 3, 1) := by decide +kernel
theorem dX9_isKnown_6 : decode cX9_isKnown 6 = .ok (.if_icmp .ge 55, 3) := by decide +kernel
theorem dX9_isKnown_9 : decode cX9_isKnown 9 = .ok (.iload_n 1, 1) := by decide +kernel
theorem dX9_isKnown_10 : decode cX9_isKnown 10 = .ok (.iload 4, 2) := by decide +kernel
theorem dX9_isKnown_12 : decode cX9_isKnown 12 = .ok (.iadd, 1) := by decide +kernel
theorem dX9_isKnown_13 : decode cX9_isKnown 13 = .ok (.ldc 69, 2) := by decide +kernel
theorem dX9_isKnown_15 : decode cX9_isKnown 15 = .ok (.invokevirtual 71, 3) := by decide +kernel
theorem dX9_isKnown_18 : decode cX9_isKnown 18 = .ok (.if_icmp .ge 43, 3) := by decide +kernel
theorem dX9_isKnown_21 : decode cX9_isKnown 21 = .ok (.iload_n 2, 1) := by decide +kernel
theorem dX9_isKnown_22 : decode cX9_isKnown 22 = .ok (.iload 4, 2) := by decide +kernel
theorem dX9_isKnown_24 : decode cX9_isKnown 24 = .ok (.iadd, 1) := by decide +kernel
theorem dX9_isKnown_25 : decode cX9_isKnown 25 = .ok (.aload_n 0, 1) := by decide +kernel
theorem dX9_isKnown_26 : decode cX9_isKnown 26 = .ok (.getfield 34, 3) := by decide +kernel
theorem dX9_isKnown_29 : decode cX9_isKnown 29 = .ok (.if_icmp .ge 32, 3) := by decide +kernel
theorem dX9_isKnown_32 : decode cX9_isKnown 32 = .ok (.ldc 69, 2) := by decide +kernel
theorem dX9_isKnown_34 : decode cX9_isKnown 34 = .ok (.iload_n 1, 1) := by decide +kernel
theorem dX9_isKnown_35 : decode cX9_isKnown 35 = .ok (.iload 4, 2) := by decide +kernel
theorem dX9_isKnown_37 : decode cX9_isKnown 37 = .ok (.iadd, 1) := by decide +kernel
theorem dX9_isKnown_38 : decode cX9_isKnown 38 = .ok (.invokevirtual 77, 3) := by decide +kernel
theorem dX9_isKnown_41 : decode cX9_isKnown 41 = .ok (.aload_n 0, 1) := by decide +kernel
theorem dX9_isKnown_42 : decode cX9_isKnown 42 = .ok (.getfield 9, 3) := by decide +kernel
theorem dX9_isKnown_45 : decode cX9_isKnown 45 = .ok (.iload_n 2, 1) := by decide +kernel
theorem dX9_isKnown_46 : decode cX9_isKnown 46 = .ok (.iload 4, 2) := by decide +kernel
theorem dX9_isKnown_48 : decode cX9_isKnown 48 = .ok (.iadd, 1) := by decide +kernel
theorem dX9_isKnown_49 : decode cX9_isKnown 49 = .ok (.iaload, 1) := by decide +kernel
theorem dX9_isKnown_50 : decode cX9_isKnown 50 = .ok (.if_icmp .eq 5, 3) := by decide +kernel
theorem dX9_isKnown_53 : decode cX9_isKnown 53 = .ok (.iconst 0, 1) := by decide +kernel
theorem dX9_isKnown_54 : decode cX9_isKnown 54 = .ok (.ireturn, 1) := by decide +kernel
theorem dX9_isKnown_55 : decode cX9_isKnown 55 = .ok (.iinc 4 1, 3) := by decide +kernel
theorem dX9_isKnown_58 : decode cX9_isKnown 58 = .ok (.goto (-55), 3) := by decide +kernel
theorem dX9_isKnown_61 : decode cX9_isKnown 61 = .ok (.iconst 1, 1) := by decide +kernel
theorem dX9_isKnown_62 : decode cX9_isKnown 62 = .ok (.ireturn, 1) := by decide +kernel
theorem dX9_code_0 : decode cX9_code 0 = .ok (.aload_n 0, 1) := by decide +kernel
theorem dX9_code_1 : decode cX9_code 1 = .ok (.getfield 15, 3) := by decide +kernel
theorem dX9_code_4 : decode cX9_code 4 = .ok (.aload_n 0, 1) := by decide +kernel
theorem dX9_code_5 : decode cX9_code 5 = .ok (.getfield 46, 3) := by decide +kernel
theorem dX9_code_8 : decode cX9_code 8 = .ok (.iaload, 1) := by decide +kernel
theorem dX9_code_9 : decode cX9_code 9 = .ok (.ireturn, 1) := by decide +kernel
theorem dX9_step_0 : decode cX9_step 0 = .ok (.aload_n 0, 1) := by decide +kernel
theorem dX9_step_1 : decode cX9_step 1 = .ok (.getfield 46, 3) := by decide +kernel
theorem dX9_step_4 : decode cX9_step 4 = .ok (.aload_n 0, 1) := by decide +kernel
theorem dX9_step_5 : decode cX9_step 5 = .ok (.getfield 43, 3) := by decide +kernel
theorem dX9_step_8 : decode cX9_step 8 = .ok (.if_icmp .ge 13, 3) := by decide +kernel
theorem dX9_step_11 : decode cX9_step 11 = .ok (.aload_n 0, 1) := by decide +kernel
theorem dX9_step_12 : decode cX9_step 12 = .ok (.dup, 1) := by decide +kernel
theorem dX9_step_13 : decode cX9_step 13 = .ok (.getfield 46, 3) := by decide +kernel
theorem dX9_step_16 : decode cX9_step 16 = .ok (.iconst 1, 1) := by decide +kernel
theorem dX9_step_17 : decode cX9_step 17 = .ok (.iadd, 1) := by decide +kernel
theorem dX9_step_18 : decode cX9_step 18 = .ok (.putfield 46, 3) := by decide +kernel
theorem dX9_step_21 : decode cX9_step 21 = .ok (.return_, 1) := by decide +kernel
theorem dX9_fail_0 : decode cX9_fail 0 = .ok (.aload_n 0, 1) := by decide +kernel
theorem dX9_fail_1 : decode cX9_fail 1 = .ok (.aload_n 0, 1) := by decide +kernel
theorem dX9_fail_2 : decode cX9_fail 2 = .ok (.getfield 18, 3) := by decide +kernel
theorem dX9_fail_5 : decode cX9_fail 5 = .ok (.aload_n 0, 1) := by decide +kernel
theorem dX9_fail_6 : decode cX9_fail 6 = .ok (.getfield 46, 3) := by decide +kernel
theorem dX9_fail_9 : decode cX9_fail 9 = .ok (.iaload, 1) := by decide +kernel
theorem dX9_fail_10 : decode cX9_fail 10 = .ok (.putfield 24, 3) := by decide +kernel
theorem dX9_fail_13 : decode cX9_fail 13 = .ok (.iconst 0, 1) := by decide +kernel
theorem dX9_fail_14 : decode cX9_fail 14 = .ok (.ireturn, 1) := by decide +kernel
theorem dX9_pass_0 : decode cX9_pass 0 = .ok (.aload_n 0, 1) := by decide +kernel
theorem dX9_pass_1 : decode cX9_pass 1 = .ok (.getfield 46, 3) := by decide +kernel
theorem dX9_pass_4 : decode cX9_pass 4 = .ok (.aload_n 0, 1) := by decide +kernel
theorem dX9_pass_5 : decode cX9_pass 5 = .ok (.getfield 43, 3) := by decide +kernel
theorem dX9_pass_8 : decode cX9_pass 8 = .ok (.if_icmp .ge 16, 3) := by decide +kernel
theorem dX9_pass_11 : decode cX9_pass 11 = .ok (.aload_n 0, 1) := by decide +kernel
theorem dX9_pass_12 : decode cX9_pass 12 = .ok (.getfield 15, 3) := by decide +kernel
theorem dX9_pass_15 : decode cX9_pass 15 = .ok (.aload_n 0, 1) := by decide +kernel
theorem dX9_pass_16 : decode cX9_pass 16 = .ok (.getfield 46, 3) := by decide +kernel
theorem dX9_pass_19 : decode cX9_pass 19 = .ok (.iaload, 1) := by decide +kernel
theorem dX9_pass_20 : decode cX9_pass 20 = .ok (.iload_n 1, 1) := by decide +kernel
theorem dX9_pass_21 : decode cX9_pass 21 = .ok (.if_icmp .eq 18, 3) := by decide +kernel
theorem dX9_pass_24 : decode cX9_pass 24 = .ok (.aload_n 0, 1) := by decide +kernel
theorem dX9_pass_25 : decode cX9_pass 25 = .ok (.aload_n 0, 1) := by decide +kernel
theorem dX9_pass_26 : decode cX9_pass 26 = .ok (.getfield 18, 3) := by decide +kernel
theorem dX9_pass_29 : decode cX9_pass 29 = .ok (.aload_n 0, 1) := by decide +kernel
theorem dX9_pass_30 : decode cX9_pass 30 = .ok (.getfield 46, 3) := by decide +kernel
theorem dX9_pass_33 : decode cX9_pass 33 = .ok (.iaload, 1) := by decide +kernel
theorem dX9_pass_34 : decode cX9_pass 34 = .ok (.putfield 24, 3) := by decide +kernel
theorem dX9_pass_37 : decode cX9_pass 37 = .ok (.iconst 0, 1) := by decide +kernel
theorem dX9_pass_38 : decode cX9_pass 38 = .ok (.ireturn, 1) := by decide +kernel
theorem dX9_pass_39 : decode cX9_pass 39 = .ok (.aload_n 0, 1) := by decide +kernel
theorem dX9_pass_40 : decode cX9_pass 40 = .ok (.dup, 1) := by decide +kernel
theorem dX9_pass_41 : decode cX9_pass 41 = .ok (.getfield 46, 3) := by decide +kernel
theorem dX9_pass_44 : decode cX9_pass 44 = .ok (.iconst 1, 1) := by decide +kernel
theorem dX9_pass_45 : decode cX9_pass 45 = .ok (.iadd, 1) := by decide +kernel
theorem dX9_pass_46 : decode cX9_pass 46 = .ok (.putfield 46, 3) := by decide +kernel
theorem dX9_pass_49 : decode cX9_pass 49 = .ok (.iconst 1, 1) := by decide +kernel
theorem dX9_pass_50 : decode cX9_pass 50 = .ok (.ireturn, 1) := by decide +kernel
theorem dX9_takeNumber_0 : decode cX9_takeNumber 0 = .ok (.aload_n 0, 1) := by decide +kernel
theorem dX9_takeNumber_1 : decode cX9_takeNumber 1 = .ok (.getfield 15, 3) := by decide +kernel
theorem dX9_takeNumber_4 : decode cX9_takeNumber 4 = .ok (.aload_n 0, 1) := by decide +kernel
theorem dX9_takeNumber_5 : decode cX9_takeNumber 5 = .ok (.getfield 46, 3) := by decide +kernel
theorem dX9_takeNumber_8 : decode cX9_takeNumber 8 = .ok (.iaload, 1) := by decide +kernel
theorem dX9_takeNumber_9 : decode cX9_takeNumber 9 = .ok (.istore_n 3, 1) := by decide +kernel
theorem dX9_takeNumber_10 : decode cX9_takeNumber 10 = .ok (.iload_n 3, 1) := by decide +kernel
theorem dX9_takeNumber_11 : decode cX9_takeNumber 11 = .ok (.sipush 999, 3) := by decide +kernel
theorem dX9_takeNumber_14 : decode cX9_takeNumber 14 = .ok (.if_icmp .gt 13, 3) := by decide +kernel
theorem dX9_takeNumber_17 : decode cX9_takeNumber 17 = .ok (.iload_n 3, 1) := by decide +kernel
theorem dX9_takeNumber_18 : decode cX9_takeNumber 18 = .ok (.iload_n 1, 1) := by decide +kernel
theorem dX9_takeNumber_19 : decode cX9_takeNumber 19 = .ok (.if_icmp .lt 8, 3) := by decide +kernel
theorem dX9_takeNumber_22 : decode cX9_takeNumber 22 = .ok (.iload_n 3, 1) := by decide +kernel
theorem dX9_takeNumber_23 : decode cX9_takeNumber 23 = .ok (.iload_n 2, 1) := by decide +kernel
theorem dX9_takeNumber_24 : decode cX9_takeNumber 24 = .ok (.if_icmp .le 10, 3) := by decide +kernel
theorem dX9_takeNumber_27 : decode cX9_takeNumber 27 = .ok (.aload_n 0, 1) := by decide +kernel
theorem dX9_takeNumber_28 : decode cX9_takeNumber 28 = .ok (.invokevirtual 85, 3) := by decide +kernel
theorem dX9_takeNumber_31 : decode cX9_takeNumber 31 = .ok (.pop, 1) := by decide +kernel
theorem dX9_takeNumber_32 : decode cX9_takeNumber 32 = .ok (.iconst (-1), 1) := by decide +kernel
theorem dX9_takeNumber_33 : decode cX9_takeNumber 33 = .ok (.ireturn, 1) := by decide +kernel
theorem dX9_takeNumber_34 : decode cX9_takeNumber 34 = .ok (.aload_n 0, 1) := by decide +kernel
theorem dX9_takeNumber_35 : decode cX9_takeNumber 35 = .ok (.invokevirtual 89, 3) := by decide +kernel
theorem dX9_takeNumber_38 : decode cX9_takeNumber 38 = .ok (.iload_n 3, 1) := by decide +kernel
theorem dX9_takeNumber_39 : decode cX9_takeNumber 39 = .ok (.ireturn, 1) := by decide +kernel
theorem dX9_takeKind_0 : decode cX9_takeKind 0 = .ok (.aload_n 0, 1) := by decide +kernel
theorem dX9_takeKind_1 : decode cX9_takeKind 1 = .ok (.invokevirtual 92, 3) := by decide +kernel
theorem dX9_takeKind_4 : decode cX9_takeKind 4 = .ok (.iconst 1, 1) := by decide +kernel
theorem dX9_takeKind_5 : decode cX9_takeKind 5 = .ok (.if_icmp .eq 10, 3) := by decide +kernel
theorem dX9_takeKind_8 : decode cX9_takeKind 8 = .ok (.aload_n 0, 1) := by decide +kernel
theorem dX9_takeKind_9 : decode cX9_takeKind 9 = .ok (.invokevirtual 85, 3) := by decide +kernel
theorem dX9_takeKind_12 : decode cX9_takeKind 12 = .ok (.pop, 1) := by decide +kernel
theorem dX9_takeKind_13 : decode cX9_takeKind 13 = .ok (.iconst (-1), 1) := by decide +kernel
theorem dX9_takeKind_14 : decode cX9_takeKind 14 = .ok (.ireturn, 1) := by decide +kernel
theorem dX9_takeKind_15 : decode cX9_takeKind 15 = .ok (.aload_n 0, 1) := by decide +kernel
theorem dX9_takeKind_16 : decode cX9_takeKind 16 = .ok (.iconst 0, 1) := by decide +kernel
theorem dX9_takeKind_17 : decode cX9_takeKind 17 = .ok (.invokevirtual 95, 3) := by decide +kernel
theorem dX9_takeKind_20 : decode cX9_takeKind 20 = .ok (.istore_n 1, 1) := by decide +kernel
theorem dX9_takeKind_21 : decode cX9_takeKind 21 = .ok (.aload_n 0, 1) := by decide +kernel
theorem dX9_takeKind_22 : decode cX9_takeKind 22 = .ok (.invokevirtual 89, 3) := by decide +kernel
theorem dX9_takeKind_25 : decode cX9_takeKind 25 = .ok (.iload_n 1, 1) := by decide +kernel
theorem dX9_takeKind_26 : decode cX9_takeKind 26 = .ok (.ireturn, 1) := by decide +kernel
theorem dX9_countKinds_0 : decode cX9_countKinds 0 = .ok (.aload_n 0, 1) := by decide +kernel
theorem dX9_countKinds_1 : decode cX9_countKinds 1 = .ok (.getfield 21, 3) := by decide +kernel
theorem dX9_countKinds_4 : decode cX9_countKinds 4 = .ok (.aload_n 0, 1) := by decide +kernel
theorem dX9_countKinds_5 : decode cX9_countKinds 5 = .ok (.getfield 46, 3) := by decide +kernel
theorem dX9_countKinds_8 : decode cX9_countKinds 8 = .ok (.iaload, 1) := by decide +kernel
theorem dX9_countKinds_9 : decode cX9_countKinds 9 = .ok (.istore_n 1, 1) := by decide +kernel
theorem dX9_countKinds_10 : decode cX9_countKinds 10 = .ok (.iconst 0, 1) := by decide +kernel
theorem dX9_countKinds_11 : decode cX9_countKinds 11 = .ok (.istore_n 2, 1) := by decide +kernel
theorem dX9_countKinds_12 : decode cX9_countKinds 12 = .ok (.iload_n 2, 1) := by decide +kernel
theorem dX9_countKinds_13 : decode cX9_countKinds 13 = .ok (.iload_n 1, 1) := by decide +kernel
theorem dX9_countKinds_14 : decode cX9_countKinds 14 = .ok (.if_icmp .ge 20, 3) := by decide +kernel
theorem dX9_countKinds_17 : decode cX9_countKinds 17 = .ok (.aload_n 0, 1) := by decide +kernel
theorem dX9_countKinds_18 : decode cX9_countKinds 18 = .ok (.iload_n 2, 1) := by decide +kernel
theorem dX9_countKinds_19 : decode cX9_countKinds 19 = .ok (.invokevirtual 95, 3) := by decide +kernel
theorem dX9_countKinds_22 : decode cX9_countKinds 22 = .ok (.iconst (-1), 1) := by decide +kernel
theorem dX9_countKinds_23 : decode cX9_countKinds 23 = .ok (.if_icmp .ne 5, 3) := by decide +kernel
theorem dX9_countKinds_26 : decode cX9_countKinds 26 = .ok (.iconst 0, 1) := by decide +kernel
theorem dX9_countKinds_27 : decode cX9_countKinds 27 = .ok (.ireturn, 1) := by decide +kernel
theorem dX9_countKinds_28 : decode cX9_countKinds 28 = .ok (.iinc 2 1, 3) := by decide +kernel
theorem dX9_countKinds_31 : decode cX9_countKinds 31 = .ok (.goto (-19), 3) := by decide +kernel
theorem dX9_countKinds_34 : decode cX9_countKinds 34 = .ok (.iload_n 1, 1) := by decide +kernel
theorem dX9_countKinds_35 : decode cX9_countKinds 35 = .ok (.bipush 24, 2) := by decide +kernel
theorem dX9_countKinds_37 : decode cX9_countKinds 37 = .ok (.if_icmp .gt 7, 3) := by decide +kernel
theorem dX9_countKinds_40 : decode cX9_countKinds 40 = .ok (.iload_n 1, 1) := by decide +kernel
theorem dX9_countKinds_41 : decode cX9_countKinds 41 = .ok (.goto 4, 3) := by decide +kernel
theorem dX9_countKinds_44 : decode cX9_countKinds 44 = .ok (.iconst 0, 1) := by decide +kernel
theorem dX9_countKinds_45 : decode cX9_countKinds 45 = .ok (.ireturn, 1) := by decide +kernel
theorem dX9_kindIn_0 : decode cX9_kindIn 0 = .ok (.aload_n 0, 1) := by decide +kernel
theorem dX9_kindIn_1 : decode cX9_kindIn 1 = .ok (.getfield 18, 3) := by decide +kernel
theorem dX9_kindIn_4 : decode cX9_kindIn 4 = .ok (.aload_n 0, 1) := by decide +kernel
theorem dX9_kindIn_5 : decode cX9_kindIn 5 = .ok (.getfield 46, 3) := by decide +kernel
theorem dX9_kindIn_8 : decode cX9_kindIn 8 = .ok (.iaload, 1) := by decide +kernel
theorem dX9_kindIn_9 : decode cX9_kindIn 9 = .ok (.iload_n 1, 1) := by decide +kernel
theorem dX9_kindIn_10 : decode cX9_kindIn 10 = .ok (.iadd, 1) := by decide +kernel
theorem dX9_kindIn_11 : decode cX9_kindIn 11 = .ok (.istore_n 2, 1) := by decide +kernel
theorem dX9_kindIn_12 : decode cX9_kindIn 12 = .ok (.iload_n 2, 1) := by decide +kernel
theorem dX9_kindIn_13 : decode cX9_kindIn 13 = .ok (.ifCond .lt 23, 3) := by decide +kernel
theorem dX9_kindIn_16 : decode cX9_kindIn 16 = .ok (.iload_n 2, 1) := by decide +kernel
theorem dX9_kindIn_17 : decode cX9_kindIn 17 = .ok (.aload_n 0, 1) := by decide +kernel
theorem dX9_kindIn_18 : decode cX9_kindIn 18 = .ok (.getfield 34, 3) := by decide +kernel
theorem dX9_kindIn_21 : decode cX9_kindIn 21 = .ok (.if_icmp .ge 15, 3) := by decide +kernel
theorem dX9_kindIn_24 : decode cX9_kindIn 24 = .ok (.aload_n 0, 1) := by decide +kernel
theorem dX9_kindIn_25 : decode cX9_kindIn 25 = .ok (.getfield 9, 3) := by decide +kernel
theorem dX9_kindIn_28 : decode cX9_kindIn 28 = .ok (.iload_n 2, 1) := by decide +kernel
theorem dX9_kindIn_29 : decode cX9_kindIn 29 = .ok (.iaload, 1) := by decide +kernel
theorem dX9_kindIn_30 : decode cX9_kindIn 30 = .ok (.bipush 97, 2) := by decide +kernel
theorem dX9_kindIn_32 : decode cX9_kindIn 32 = .ok (.isub, 1) := by decide +kernel
theorem dX9_kindIn_33 : decode cX9_kindIn 33 = .ok (.goto 4, 3) := by decide +kernel
theorem dX9_kindIn_36 : decode cX9_kindIn 36 = .ok (.iconst (-1), 1) := by decide +kernel
theorem dX9_kindIn_37 : decode cX9_kindIn 37 = .ok (.istore_n 3, 1) := by decide +kernel
theorem dX9_kindIn_38 : decode cX9_kindIn 38 = .ok (.iload_n 3, 1) := by decide +kernel
theorem dX9_kindIn_39 : decode cX9_kindIn 39 = .ok (.ifCond .lt 13, 3) := by decide +kernel
theorem dX9_kindIn_42 : decode cX9_kindIn 42 = .ok (.iload_n 3, 1) := by decide +kernel
theorem dX9_kindIn_43 : decode cX9_kindIn 43 = .ok (.bipush 12, 2) := by decide +kernel
theorem dX9_kindIn_45 : decode cX9_kindIn 45 = .ok (.if_icmp .ge 7, 3) := by decide +kernel
theorem dX9_kindIn_48 : decode cX9_kindIn 48 = .ok (.iload_n 3, 1) := by decide +kernel
theorem dX9_kindIn_49 : decode cX9_kindIn 49 = .ok (.goto 4, 3) := by decide +kernel
theorem dX9_kindIn_52 : decode cX9_kindIn 52 = .ok (.iconst (-1), 1) := by decide +kernel
theorem dX9_kindIn_53 : decode cX9_kindIn 53 = .ok (.ireturn, 1) := by decide +kernel
theorem dX10_init_0 : decode cX10_init 0 = .ok (.aload_n 0, 1) := by decide +kernel
theorem dX10_init_1 : decode cX10_init 1 = .ok (.invokespecial 3, 3) := by decide +kernel
theorem dX10_init_4 : decode cX10_init 4 = .ok (.aload_n 0, 1) := by decide +kernel
theorem dX10_init_5 : decode cX10_init 5 = .ok (.new 9, 3) := by decide +kernel
theorem dX10_init_8 : decode cX10_init 8 = .ok (.dup, 1) := by decide +kernel
theorem dX10_init_9 : decode cX10_init 9 = .ok (.invokespecial 11, 3) := by decide +kernel
theorem dX10_init_12 : decode cX10_init 12 = .ok (.putfield 12, 3) := by decide +kernel
theorem dX10_init_15 : decode cX10_init 15 = .ok (.aload_n 0, 1) := by decide +kernel
theorem dX10_init_16 : decode cX10_init 16 = .ok (.new 18, 3) := by decide +kernel
theorem dX10_init_19 : decode cX10_init 19 = .ok (.dup, 1) := by decide +kernel
theorem dX10_init_20 : decode cX10_init 20 = .ok (.invokespecial 20, 3) := by decide +kernel
theorem dX10_init_23 : decode cX10_init 23 = .ok (.putfield 21, 3) := by decide +kernel
theorem dX10_init_26 : decode cX10_init 26 = .ok (.aload_n 0, 1) := by decide +kernel
theorem dX10_init_27 : decode cX10_init 27 = .ok (.bipush 12, 2) := by decide +kernel
theorem dX10_init_29 : decode cX10_init 29 = .ok (.newarray .int, 2) := by decide +kernel
theorem dX10_init_31 : decode cX10_init 31 = .ok (.putfield 25, 3) := by decide +kernel
theorem dX10_init_34 : decode cX10_init 34 = .ok (.aload_n 0, 1) := by decide +kernel
theorem dX10_init_35 : decode cX10_init 35 = .ok (.bipush 8, 2) := by decide +kernel
theorem dX10_init_37 : decode cX10_init 37 = .ok (.newarray .int, 2) := by decide +kernel
theorem dX10_init_39 : decode cX10_init 39 = .ok (.putfield 29, 3) := by decide +kernel
theorem dX10_init_42 : decode cX10_init 42 = .ok (.aload_n 0, 1) := by decide +kernel
theorem dX10_init_43 : decode cX10_init 43 = .ok (.bipush 8, 2) := by decide +kernel
theorem dX10_init_45 : decode cX10_init 45 = .ok (.newarray .int, 2) := by decide +kernel
theorem dX10_init_47 : decode cX10_init 47 = .ok (.putfield 32, 3) := by decide +kernel
theorem dX10_init_50 : decode cX10_init 50 = .ok (.iconst 0, 1) := by decide +kernel
theorem dX10_init_51 : decode cX10_init 51 = .ok (.istore_n 1, 1) := by decide +kernel
theorem dX10_init_52 : decode cX10_init 52 = .ok (.iload_n 1, 1) := by decide +kernel
theorem dX10_init_53 : decode cX10_init 53 = .ok (.bipush 12, 2) := by decide +kernel
theorem dX10_init_55 : decode cX10_init 55 = .ok (.if_icmp .ge 16, 3) := by decide +kernel
theorem dX10_init_58 : decode cX10_init 58 = .ok (.aload_n 0, 1) := by decide +kernel
theorem dX10_init_59 : decode cX10_init 59 = .ok (.getfield 25, 3) := by decide +kernel
theorem dX10_init_62 : decode cX10_init 62 = .ok (.iload_n 1, 1) := by decide +kernel
theorem dX10_init_63 : decode cX10_init 63 = .ok (.iconst 3, 1) := by decide +kernel
theorem dX10_init_64 : decode cX10_init 64 = .ok (.iastore, 1) := by decide +kernel
theorem dX10_init_65 : decode cX10_init 65 = .ok (.iinc 1 1, 3) := by decide +kernel
theorem dX10_init_68 : decode cX10_init 68 = .ok (.goto (-16), 3) := by decide +kernel
theorem dX10_init_71 : decode cX10_init 71 = .ok (.return_, 1) := by decide +kernel
theorem dX10_become_0 : decode cX10_become 0 = .ok (.aload_n 0, 1) := by decide +kernel
theorem dX10_become_1 : decode cX10_become 1 = .ok (.getfield 12, 3) := by decide +kernel
theorem dX10_become_4 : decode cX10_become 4 = .ok (.aload_n 1, 1) := by decide +kernel
theorem dX10_become_5 : decode cX10_become 5 = .ok (.getfield 12, 3) := by decide +kernel
theorem dX10_become_8 : decode cX10_become 8 = .ok (.invokevirtual 35, 3) := by decide +kernel
theorem dX10_become_11 : decode cX10_become 11 = .ok (.aload_n 0, 1) := by decide +kernel
theorem dX10_become_12 : decode cX10_become 12 = .ok (.getfield 21, 3) := by decide +kernel
theorem dX10_become_15 : decode cX10_become 15 = .ok (.aload_n 1, 1) := by decide +kernel
theorem dX10_become_16 : decode cX10_become 16 = .ok (.getfield 21, 3) := by decide +kernel
theorem dX10_become_19 : decode cX10_become 19 = .ok (.invokevirtual 39, 3) := by decide +kernel
theorem dX10_become_22 : decode cX10_become 22 = .ok (.aload_n 1, 1) := by decide +kernel
theorem dX10_become_23 : decode cX10_become 23 = .ok (.getfield 25, 3) := by decide +kernel
theorem dX10_become_26 : decode cX10_become 26 = .ok (.iconst 0, 1) := by decide +kernel
theorem dX10_become_27 : decode cX10_become 27 = .ok (.aload_n 0, 1) := by decide +kernel
theorem dX10_become_28 : decode cX10_become 28 = .ok (.getfield 25, 3) := by decide +kernel
theorem dX10_become_31 : decode cX10_become 31 = .ok (.iconst 0, 1) := by decide +kernel
theorem dX10_become_32 : decode cX10_become 32 = .ok (.bipush 12, 2) := by decide +kernel
theorem dX10_become_34 : decode cX10_become 34 = .ok (.invokestatic 42, 3) := by decide +kernel
theorem dX10_become_37 : decode cX10_become 37 = .ok (.aload_n 1, 1) := by decide +kernel
theorem dX10_become_38 : decode cX10_become 38 = .ok (.getfield 29, 3) := by decide +kernel
theorem dX10_become_41 : decode cX10_become 41 = .ok (.iconst 0, 1) := by decide +kernel
theorem dX10_become_42 : decode cX10_become 42 = .ok (.aload_n 0, 1) := by decide +kernel
theorem dX10_become_43 : decode cX10_become 43 = .ok (.getfield 29, 3) := by decide +kernel
theorem dX10_become_46 : decode cX10_become 46 = .ok (.iconst 0, 1) := by decide +kernel
theorem dX10_become_47 : decode cX10_become 47 = .ok (.bipush 8, 2) := by decide +kernel
theorem dX10_become_49 : decode cX10_become 49 = .ok (.invokestatic 42, 3) := by decide +kernel
theorem dX10_become_52 : decode cX10_become 52 = .ok (.aload_n 1, 1) := by decide +kernel
theorem dX10_become_53 : decode cX10_become 53 = .ok (.getfield 32, 3) := by decide +kernel
theorem dX10_become_56 : decode cX10_become 56 = .ok (.iconst 0, 1) := by decide +kernel
theorem dX10_become_57 : decode cX10_become 57 = .ok (.aload_n 0, 1) := by decide +kernel
theorem dX10_become_58 : decode cX10_become 58 = .ok (.getfield 32, 3) := by decide +kernel
theorem dX10_become_61 : decode cX10_become 61 = .ok (.iconst 0, 1) := by decide +kernel
theorem dX10_become_62 : decode cX10_become 62 = .ok (.bipush 8, 2) := by decide +kernel
theorem dX10_become_64 : decode cX10_become 64 = .ok (.invokestatic 42, 3) := by decide +kernel
theorem dX10_become_67 : decode cX10_become 67 = .ok (.aload_n 0, 1) := by decide +kernel
theorem dX10_become_68 : decode cX10_become 68 = .ok (.aload_n 1, 1) := by decide +kernel
theorem dX10_become_69 : decode cX10_become 69 = .ok (.getfield 48, 3) := by decide +kernel
theorem dX10_become_72 : decode cX10_become 72 = .ok (.putfield 48, 3) := by decide +kernel
theorem dX10_become_75 : decode cX10_become 75 = .ok (.aload_n 0, 1) := by decide +kernel
theorem dX10_become_76 : decode cX10_become 76 = .ok (.aload_n 1, 1) := by decide +kernel
theorem dX10_become_77 : decode cX10_become 77 = .ok (.getfield 52, 3) := by decide +kernel
theorem dX10_become_80 : decode cX10_become 80 = .ok (.putfield 52, 3) := by decide +kernel
theorem dX10_become_83 : decode cX10_become 83 = .ok (.aload_n 0, 1) := by decide +kernel
theorem dX10_become_84 : decode cX10_become 84 = .ok (.aload_n 1, 1) := by decide +kernel
theorem dX10_become_85 : decode cX10_become 85 = .ok (.getfield 55, 3) := by decide +kernel
theorem dX10_become_88 : decode cX10_become 88 = .ok (.putfield 55, 3) := by decide +kernel
theorem dX10_become_91 : decode cX10_become 91 = .ok (.return_, 1) := by decide +kernel
theorem dX10_setWords_0 : decode cX10_setWords 0 = .ok (.iload_n 1, 1) := by decide +kernel
theorem dX10_setWords_1 : decode cX10_setWords 1 = .ok (.ifCond .lt 16, 3) := by decide +kernel
theorem dX10_setWords_4 : decode cX10_setWords 4 = .ok (.iload_n 1, 1) := by decide +kernel
theorem dX10_setWords_5 : decode cX10_setWords 5 = .ok (.bipush 12, 2) := by decide +kernel
theorem dX10_setWords_7 : decode cX10_setWords 7 = .ok (.if_icmp .ge 10, 3) := by decide +kernel
theorem dX10_setWords_10 : decode cX10_setWords 10 = .ok (.aload_n 0, 1) := by decide +kernel
theorem dX10_setWords_11 : decode cX10_setWords 11 = .ok (.getfield 25, 3) := by decide +kernel
theorem dX10_setWords_14 : decode cX10_setWords 14 = .ok (.iload_n 1, 1) := by decide +kernel
theorem dX10_setWords_15 : decode cX10_setWords 15 = .ok (.iload_n 2, 1) := by decide +kernel
theorem dX10_setWords_16 : decode cX10_setWords 16 = .ok (.iastore, 1) := by decide +kernel
theorem dX10_setWords_17 : decode cX10_setWords 17 = .ok (.return_, 1) := by decide +kernel
theorem dX10_addPromise_0 : decode cX10_addPromise 0 = .ok (.aload_n 0, 1) := by decide +kernel
theorem dX10_addPromise_1 : decode cX10_addPromise 1 = .ok (.getfield 48, 3) := by decide +kernel
theorem dX10_addPromise_4 : decode cX10_addPromise 4 = .ok (.bipush 8, 2) := by decide +kernel
theorem dX10_addPromise_6 : decode cX10_addPromise 6 = .ok (.if_icmp .ge 33, 3) := by decide +kernel
theorem dX10_addPromise_9 : decode cX10_addPromise 9 = .ok (.aload_n 0, 1) := by decide +kernel
theorem dX10_addPromise_10 : decode cX10_addPromise 10 = .ok (.getfield 29, 3) := by decide +kernel
theorem dX10_addPromise_13 : decode cX10_addPromise 13 = .ok (.aload_n 0, 1) := by decide +kernel
theorem dX10_addPromise_14 : decode cX10_addPromise 14 = .ok (.getfield 48, 3) := by decide +kernel
theorem dX10_addPromise_17 : decode cX10_addPromise 17 = .ok (.iload_n 1, 1) := by decide +kernel
theorem dX10_addPromise_18 : decode cX10_addPromise 18 = .ok (.iastore, 1) := by decide +kernel
theorem dX10_addPromise_19 : decode cX10_addPromise 19 = .ok (.aload_n 0, 1) := by decide +kernel
theorem dX10_addPromise_20 : decode cX10_addPromise 20 = .ok (.getfield 32, 3) := by decide +kernel
theorem dX10_addPromise_23 : decode cX10_addPromise 23 = .ok (.aload_n 0, 1) := by decide +kernel
theorem dX10_addPromise_24 : decode cX10_addPromise 24 = .ok (.getfield 48, 3) := by decide +kernel
theorem dX10_addPromise_27 : decode cX10_addPromise 27 = .ok (.iload_n 2, 1) := by decide +kernel
theorem dX10_addPromise_28 : decode cX10_addPromise 28 = .ok (.iastore, 1) := by decide +kernel
theorem dX10_addPromise_29 : decode cX10_addPromise 29 = .ok (.aload_n 0, 1) := by decide +kernel
theorem dX10_addPromise_30 : decode cX10_addPromise 30 = .ok (.dup, 1) := by decide +kernel
theorem dX10_addPromise_31 : decode cX10_addPromise 31 = .ok (.getfield 48, 3) := by decide +kernel
theorem dX10_addPromise_34 : decode cX10_addPromise 34 = .ok (.iconst 1, 1) := by decide +kernel
theorem dX10_addPromise_35 : decode cX10_addPromise 35 = .ok (.iadd, 1) := by decide +kernel
theorem dX10_addPromise_36 : decode cX10_addPromise 36 = .ok (.putfield 48, 3) := by decide +kernel
theorem dX10_addPromise_39 : decode cX10_addPromise 39 = .ok (.return_, 1) := by decide +kernel
theorem dX10_promised_0 : decode cX10_promised 0 = .ok (.iload_n 1, 1) := by decide +kernel
theorem dX10_promised_1 : decode cX10_promised 1 = .ok (.ifCond .lt 11, 3) := by decide +kernel
theorem dX10_promised_4 : decode cX10_promised 4 = .ok (.iload_n 1, 1) := by decide +kernel
theorem dX10_promised_5 : decode cX10_promised 5 = .ok (.aload_n 0, 1) := by decide +kernel
theorem dX10_promised_6 : decode cX10_promised 6 = .ok (.getfield 48, 3) := by decide +kernel
theorem dX10_promised_9 : decode cX10_promised 9 = .ok (.if_icmp .lt 5, 3) := by decide +kernel
theorem dX10_promised_12 : decode cX10_promised 12 = .ok (.iconst (-1), 1) := by decide +kernel
theorem dX10_promised_13 : decode cX10_promised 13 = .ok (.ireturn, 1) := by decide +kernel
theorem dX10_promised_14 : decode cX10_promised 14 = .ok (.iload_n 2, 1) := by decide +kernel
theorem dX10_promised_15 : decode cX10_promised 15 = .ok (.ifCond .eq 12, 3) := by decide +kernel
theorem dX10_promised_18 : decode cX10_promised 18 = .ok (.aload_n 0, 1) := by decide +kernel
theorem dX10_promised_19 : decode cX10_promised 19 = .ok (.getfield 32, 3) := by decide +kernel
theorem dX10_promised_22 : decode cX10_promised 22 = .ok (.iload_n 1, 1) := by decide +kernel
theorem dX10_promised_23 : decode cX10_promised 23 = .ok (.iaload, 1) := by decide +kernel
theorem dX10_promised_24 : decode cX10_promised 24 = .ok (.goto 9, 3) := by decide +kernel
theorem dX10_promised_27 : decode cX10_promised 27 = .ok (.aload_n 0, 1) := by decide +kernel
theorem dX10_promised_28 : decode cX10_promised 28 = .ok (.getfield 29, 3) := by decide +kernel
theorem dX10_promised_31 : decode cX10_promised 31 = .ok (.iload_n 1, 1) := by decide +kernel
theorem dX10_promised_32 : decode cX10_promised 32 = .ok (.iaload, 1) := by decide +kernel
theorem dX10_promised_33 : decode cX10_promised 33 = .ok (.ireturn, 1) := by decide +kernel
theorem dX10_wordsFor_0 : decode cX10_wordsFor 0 = .ok (.iload_n 1, 1) := by decide +kernel
theorem dX10_wordsFor_1 : decode cX10_wordsFor 1 = .ok (.ifCond .lt 18, 3) := by decide +kernel
theorem dX10_wordsFor_4 : decode cX10_wordsFor 4 = .ok (.iload_n 1, 1) := by decide +kernel
theorem dX10_wordsFor_5 : decode cX10_wordsFor 5 = .ok (.bipush 12, 2) := by decide +kernel
theorem dX10_wordsFor_7 : decode cX10_wordsFor 7 = .ok (.if_icmp .ge 12, 3) := by decide +kernel
theorem dX10_wordsFor_10 : decode cX10_wordsFor 10 = .ok (.aload_n 0, 1) := by decide +kernel
theorem dX10_wordsFor_11 : decode cX10_wordsFor 11 = .ok (.getfield 25, 3) := by decide +kernel
theorem dX10_wordsFor_14 : decode cX10_wordsFor 14 = .ok (.iload_n 1, 1) := by decide +kernel
theorem dX10_wordsFor_15 : decode cX10_wordsFor 15 = .ok (.iaload, 1) := by decide +kernel
theorem dX10_wordsFor_16 : decode cX10_wordsFor 16 = .ok (.goto 4, 3) := by decide +kernel
theorem dX10_wordsFor_19 : decode cX10_wordsFor 19 = .ok (.iconst 0, 1) := by decide +kernel
theorem dX10_wordsFor_20 : decode cX10_wordsFor 20 = .ok (.ireturn, 1) := by decide +kernel
theorem dX10_wordsIn_0 : decode cX10_wordsIn 0 = .ok (.iconst 0, 1) := by decide +kernel
theorem dX10_wordsIn_1 : decode cX10_wordsIn 1 = .ok (.istore_n 2, 1) := by decide +kernel
theorem dX10_wordsIn_2 : decode cX10_wordsIn 2 = .ok (.iconst 0, 1) := by decide +kernel
theorem dX10_wordsIn_3 : decode cX10_wordsIn 3 = .ok (.istore_n 3, 1) := by decide +kernel
theorem dX10_wordsIn_4 : decode cX10_wordsIn 4 = .ok (.iload_n 3, 1) := by decide +kernel
theorem dX10_wordsIn_5 : decode cX10_wordsIn 5 = .ok (.aload_n 1, 1) := by decide +kernel
theorem dX10_wordsIn_6 : decode cX10_wordsIn 6 = .ok (.getfield 58, 3) := by decide +kernel
theorem dX10_wordsIn_9 : decode cX10_wordsIn 9 = .ok (.if_icmp .ge 22, 3) := by decide +kernel
theorem dX10_wordsIn_12 : decode cX10_wordsIn 12 = .ok (.iload_n 2, 1) := by decide +kernel
theorem dX10_wordsIn_13 : decode cX10_wordsIn 13 = .ok (.aload_n 0, 1) := by decide +kernel
theorem dX10_wordsIn_14 : decode cX10_wordsIn 14 = .ok (.aload_n 1, 1) := by decide +kernel
theorem dX10_wordsIn_15 : decode cX10_wordsIn 15 = .ok (.getfield 63, 3) := by decide +kernel
theorem dX10_wordsIn_18 : decode cX10_wordsIn 18 = .ok (.iload_n 3, 1) := by decide +kernel
theorem dX10_wordsIn_19 : decode cX10_wordsIn 19 = .ok (.iaload, 1) := by decide +kernel
theorem dX10_wordsIn_20 : decode cX10_wordsIn 20 = .ok (.invokevirtual 66, 3) := by decide +kernel
theorem dX10_wordsIn_23 : decode cX10_wordsIn 23 = .ok (.iadd, 1) := by decide +kernel
theorem dX10_wordsIn_24 : decode cX10_wordsIn 24 = .ok (.istore_n 2, 1) := by decide +kernel
theorem dX10_wordsIn_25 : decode cX10_wordsIn 25 = .ok (.iinc 3 1, 3) := by decide +kernel
theorem dX10_wordsIn_28 : decode cX10_wordsIn 28 = .ok (.goto (-24), 3) := by decide +kernel
theorem dX10_wordsIn_31 : decode cX10_wordsIn 31 = .ok (.iload_n 2, 1) := by decide +kernel
theorem dX10_wordsIn_32 : decode cX10_wordsIn 32 = .ok (.ireturn, 1) := by decide +kernel
theorem dX10_binding_0 : decode cX10_binding 0 = .ok (.iconst 0, 1) := by decide +kernel
theorem dX10_binding_1 : decode cX10_binding 1 = .ok (.istore_n 2, 1) := by decide +kernel
theorem dX10_binding_2 : decode cX10_binding 2 = .ok (.iconst 0, 1) := by decide +kernel
theorem dX10_binding_3 : decode cX10_binding 3 = .ok (.istore_n 3, 1) := by decide +kernel
theorem dX10_binding_4 : decode cX10_binding 4 = .ok (.iload_n 3, 1) := by decide +kernel
theorem dX10_binding_5 : decode cX10_binding 5 = .ok (.aload_n 0, 1) := by decide +kernel
theorem dX10_binding_6 : decode cX10_binding 6 = .ok (.getfield 48, 3) := by decide +kernel
theorem dX10_binding_9 : decode cX10_binding 9 = .ok (.if_icmp .ge 34, 3) := by decide +kernel
theorem dX10_binding_12 : decode cX10_binding 12 = .ok (.aload_n 1, 1) := by decide +kernel
theorem dX10_binding_13 : decode cX10_binding 13 = .ok (.aload_n 0, 1) := by decide +kernel
theorem dX10_binding_14 : decode cX10_binding 14 = .ok (.getfield 29, 3) := by decide +kernel
theorem dX10_binding_17 : decode cX10_binding 17 = .ok (.iload_n 3, 1) := by decide +kernel
theorem dX10_binding_18 : decode cX10_binding 18 = .ok (.iaload, 1) := by decide +kernel
theorem dX10_binding_19 : decode cX10_binding 19 = .ok (.aload_n 0, 1) := by decide +kernel
theorem dX10_binding_20 : decode cX10_binding 20 = .ok (.getfield 32, 3) := by decide +kernel
theorem dX10_binding_23 : decode cX10_binding 23 = .ok (.iload_n 3, 1) := by decide +kernel
theorem dX10_binding_24 : decode cX10_binding 24 = .ok (.iaload, 1) := by decide +kernel
theorem dX10_binding_25 : decode cX10_binding 25 = .ok (.invokevirtual 70, 3) := by decide +kernel
theorem dX10_binding_28 : decode cX10_binding 28 = .ok (.ifCond .eq 9, 3) := by decide +kernel
theorem dX10_binding_31 : decode cX10_binding 31 = .ok (.iload_n 2, 1) := by decide +kernel
theorem dX10_binding_32 : decode cX10_binding 32 = .ok (.iconst 1, 1) := by decide +kernel
theorem dX10_binding_33 : decode cX10_binding 33 = .ok (.iload_n 3, 1) := by decide +kernel
theorem dX10_binding_34 : decode cX10_binding 34 = .ok (.ishl, 1) := by decide +kernel
theorem dX10_binding_35 : decode cX10_binding 35 = .ok (.ior, 1) := by decide +kernel
theorem dX10_binding_36 : decode cX10_binding 36 = .ok (.istore_n 2, 1) := by decide +kernel
theorem dX10_binding_37 : decode cX10_binding 37 = .ok (.iinc 3 1, 3) := by decide +kernel
theorem dX10_binding_40 : decode cX10_binding 40 = .ok (.goto (-36), 3) := by decide +kernel
theorem dX10_binding_43 : decode cX10_binding 43 = .ok (.iload_n 2, 1) := by decide +kernel
theorem dX10_binding_44 : decode cX10_binding 44 = .ok (.ireturn, 1) := by decide +kernel
theorem dX10_postageFor_0 : decode cX10_postageFor 0 = .ok (.aload_n 0, 1) := by decide +kernel
theorem dX10_postageFor_1 : decode cX10_postageFor 1 = .ok (.aload_n 1, 1) := by decide +kernel
theorem dX10_postageFor_2 : decode cX10_postageFor 2 = .ok (.invokevirtual 74, 3) := by decide +kernel
theorem dX10_postageFor_5 : decode cX10_postageFor 5 = .ok (.bipush 9, 2) := by decide +kernel
theorem dX10_postageFor_7 : decode cX10_postageFor 7 = .ok (.iadd, 1) := by decide +kernel
theorem dX10_postageFor_8 : decode cX10_postageFor 8 = .ok (.bipush 10, 2) := by decide +kernel
theorem dX10_postageFor_10 : decode cX10_postageFor 10 = .ok (.idiv, 1) := by decide +kernel
theorem dX10_postageFor_11 : decode cX10_postageFor 11 = .ok (.iconst 2, 1) := by decide +kernel
theorem dX10_postageFor_12 : decode cX10_postageFor 12 = .ok (.aload_n 0, 1) := by decide +kernel
theorem dX10_postageFor_13 : decode cX10_postageFor 13 = .ok (.aload_n 1, 1) := by decide +kernel
theorem dX10_postageFor_14 : decode cX10_postageFor 14 = .ok (.invokevirtual 78, 3) := by decide +kernel
theorem dX10_postageFor_17 : decode cX10_postageFor 17 = .ok (.invokestatic 81, 3) := by decide +kernel
theorem dX10_postageFor_20 : decode cX10_postageFor 20 = .ok (.imul, 1) := by decide +kernel
theorem dX10_postageFor_21 : decode cX10_postageFor 21 = .ok (.iadd, 1) := by decide +kernel
theorem dX10_postageFor_22 : decode cX10_postageFor 22 = .ok (.ireturn, 1) := by decide +kernel
theorem dX11_init_0 : decode cX11_init 0 = .ok (.aload_n 0, 1) := by decide +kernel
theorem dX11_init_1 : decode cX11_init 1 = .ok (.invokespecial 3, 3) := by decide +kernel
theorem dX11_init_4 : decode cX11_init 4 = .ok (.aload_n 0, 1) := by decide +kernel
theorem dX11_init_5 : decode cX11_init 5 = .ok (.sipush 400, 3) := by decide +kernel
theorem dX11_init_8 : decode cX11_init 8 = .ok (.newarray .int, 2) := by decide +kernel
theorem dX11_init_10 : decode cX11_init 10 = .ok (.putfield 9, 3) := by decide +kernel
theorem dX11_init_13 : decode cX11_init 13 = .ok (.aload_n 0, 1) := by decide +kernel
theorem dX11_init_14 : decode cX11_init 14 = .ok (.iconst (-1), 1) := by decide +kernel
theorem dX11_init_15 : decode cX11_init 15 = .ok (.putfield 13, 3) := by decide +kernel
theorem dX11_init_18 : decode cX11_init 18 = .ok (.aload_n 0, 1) := by decide +kernel
theorem dX11_init_19 : decode cX11_init 19 = .ok (.new 17, 3) := by decide +kernel
theorem dX11_init_22 : decode cX11_init 22 = .ok (.dup, 1) := by decide +kernel
theorem dX11_init_23 : decode cX11_init 23 = .ok (.invokespecial 19, 3) := by decide +kernel
theorem dX11_init_26 : decode cX11_init 26 = .ok (.putfield 20, 3) := by decide +kernel
theorem dX11_init_29 : decode cX11_init 29 = .ok (.aload_n 0, 1) := by decide +kernel
theorem dX11_init_30 : decode cX11_init 30 = .ok (.new 17, 3) := by decide +kernel
theorem dX11_init_33 : decode cX11_init 33 = .ok (.dup, 1) := by decide +kernel
theorem dX11_init_34 : decode cX11_init 34 = .ok (.invokespecial 19, 3) := by decide +kernel
theorem dX11_init_37 : decode cX11_init 37 = .ok (.putfield 24, 3) := by decide +kernel
theorem dX11_init_40 : decode cX11_init 40 = .ok (.aload_n 0, 1) := by decide +kernel
theorem dX11_init_41 : decode cX11_init 41 = .ok (.new 27, 3) := by decide +kernel
theorem dX11_init_44 : decode cX11_init 44 = .ok (.dup, 1) := by decide +kernel
theorem dX11_init_45 : decode cX11_init 45 = .ok (.invokespecial 29, 3) := by decide +kernel
theorem dX11_init_48 : decode cX11_init 48 = .ok (.putfield 30, 3) := by decide +kernel
theorem dX11_init_51 : decode cX11_init 51 = .ok (.aload_n 0, 1) := by decide +kernel
theorem dX11_init_52 : decode cX11_init 52 = .ok (.new 34, 3) := by decide +kernel
theorem dX11_init_55 : decode cX11_init 55 = .ok (.dup, 1) := by decide +kernel
theorem dX11_init_56 : decode cX11_init 56 = .ok (.invokespecial 36, 3) := by decide +kernel
theorem dX11_init_59 : decode cX11_init 59 = .ok (.putfield 37, 3) := by decide +kernel
theorem dX11_init_62 : decode cX11_init 62 = .ok (.aload_n 0, 1) := by decide +kernel
theorem dX11_init_63 : decode cX11_init 63 = .ok (.new 41, 3) := by decide +kernel
theorem dX11_init_66 : decode cX11_init 66 = .ok (.dup, 1) := by decide +kernel
theorem dX11_init_67 : decode cX11_init 67 = .ok (.invokespecial 43, 3) := by decide +kernel
theorem dX11_init_70 : decode cX11_init 70 = .ok (.putfield 44, 3) := by decide +kernel
theorem dX11_init_73 : decode cX11_init 73 = .ok (.aload_n 0, 1) := by decide +kernel
theorem dX11_init_74 : decode cX11_init 74 = .ok (.new 48, 3) := by decide +kernel
theorem dX11_init_77 : decode cX11_init 77 = .ok (.dup, 1) := by decide +kernel
theorem dX11_init_78 : decode cX11_init 78 = .ok (.invokespecial 50, 3) := by decide +kernel
theorem dX11_init_81 : decode cX11_init 81 = .ok (.putfield 51, 3) := by decide +kernel
theorem dX11_init_84 : decode cX11_init 84 = .ok (.aload_n 0, 1) := by decide +kernel
theorem dX11_init_85 : decode cX11_init 85 = .ok (.new 48, 3) := by decide +kernel
theorem dX11_init_88 : decode cX11_init 88 = .ok (.dup, 1) := by decide +kernel
theorem dX11_init_89 : decode cX11_init 89 = .ok (.invokespecial 50, 3) := by decide +kernel
theorem dX11_init_92 : decode cX11_init 92 = .ok (.putfield 55, 3) := by decide +kernel
theorem dX11_init_95 : decode cX11_init 95 = .ok (.aload_n 0, 1) := by decide +kernel
theorem dX11_init_96 : decode cX11_init 96 = .ok (.new 58, 3) := by decide +kernel
theorem dX11_init_99 : decode cX11_init 99 = .ok (.dup, 1) := by decide +kernel
theorem dX11_init_100 : decode cX11_init 100 = .ok (.invokespecial 60, 3) := by decide +kernel
theorem dX11_init_103 : decode cX11_init 103 = .ok (.putfield 61, 3) := by decide +kernel
theorem dX11_init_106 : decode cX11_init 106 = .ok (.aload_n 0, 1) := by decide +kernel
theorem dX11_init_107 : decode cX11_init 107 = .ok (.new 65, 3) := by decide +kernel
theorem dX11_init_110 : decode cX11_init 110 = .ok (.dup, 1) := by decide +kernel
theorem dX11_init_111 : decode cX11_init 111 = .ok (.invokespecial 67, 3) := by decide +kernel
theorem dX11_init_114 : decode cX11_init 114 = .ok (.putfield 68, 3) := by decide +kernel
theorem dX11_init_117 : decode cX11_init 117 = .ok (.aload_n 0, 1) := by decide +kernel
theorem dX11_init_118 : decode cX11_init 118 = .ok (.bipush 8, 2) := by decide +kernel
theorem dX11_init_120 : decode cX11_init 120 = .ok (.bipush 41, 2) := by decide +kernel
theorem dX11_init_122 : decode cX11_init 122 = .ok (.multianewarray 72 2, 4) := by decide +kernel
theorem dX11_init_126 : decode cX11_init 126 = .ok (.putfield 74, 3) := by decide +kernel
theorem dX11_init_129 : decode cX11_init 129 = .ok (.aload_n 0, 1) := by decide +kernel
theorem dX11_init_130 : decode cX11_init 130 = .ok (.bipush 12, 2) := by decide +kernel
theorem dX11_init_132 : decode cX11_init 132 = .ok (.newarray .int, 2) := by decide +kernel
theorem dX11_init_134 : decode cX11_init 134 = .ok (.putfield 77, 3) := by decide +kernel
theorem dX11_init_137 : decode cX11_init 137 = .ok (.return_, 1) := by decide +kernel
theorem dX11_feed_0 : decode cX11_feed 0 = .ok (.aload_n 0, 1) := by decide +kernel
theorem dX11_feed_1 : decode cX11_feed 1 = .ok (.getfield 80, 3) := by decide +kernel
theorem dX11_feed_4 : decode cX11_feed 4 = .ok (.bipush 20, 2) := by decide +kernel
theorem dX11_feed_6 : decode cX11_feed 6 = .ok (.iadd, 1) := by decide +kernel
theorem dX11_feed_7 : decode cX11_feed 7 = .ok (.sipush 400, 3) := by decide +kernel
theorem dX11_feed_10 : decode cX11_feed 10 = .ok (.if_icmp .le 5, 3) := by decide +kernel
theorem dX11_feed_13 : decode cX11_feed 13 = .ok (.iconst (-1), 1) := by decide +kernel
theorem dX11_feed_14 : decode cX11_feed 14 = .ok (.ireturn, 1) := by decide +kernel
theorem dX11_feed_15 : decode cX11_feed 15 = .ok (.aload_n 0, 1) := by decide +kernel
theorem dX11_feed_16 : decode cX11_feed 16 = .ok (.iload_n 1, 1) := by decide +kernel
theorem dX11_feed_17 : decode cX11_feed 17 = .ok (.invokevirtual 83, 3) := by decide +kernel
theorem dX11_feed_20 : decode cX11_feed 20 = .ok (.aload_n 0, 1) := by decide +kernel
theorem dX11_feed_21 : decode cX11_feed 21 = .ok (.iload_n 2, 1) := by decide +kernel
theorem dX11_feed_22 : decode cX11_feed 22 = .ok (.invokevirtual 83, 3) := by decide +kernel
theorem dX11_feed_25 : decode cX11_feed 25 = .ok (.aload_n 0, 1) := by decide +kernel
theorem dX11_feed_26 : decode cX11_feed 26 = .ok (.iload_n 3, 1) := by decide +kernel
theorem dX11_feed_27 : decode cX11_feed 27 = .ok (.invokevirtual 83, 3) := by decide +kernel
theorem dX11_feed_30 : decode cX11_feed 30 = .ok (.aload_n 0, 1) := by decide +kernel
theorem dX11_feed_31 : decode cX11_feed 31 = .ok (.iload 4, 2) := by decide +kernel
theorem dX11_feed_33 : decode cX11_feed 33 = .ok (.invokevirtual 83, 3) := by decide +kernel
theorem dX11_feed_36 : decode cX11_feed 36 = .ok (.aload_n 0, 1) := by decide +kernel
theorem dX11_feed_37 : decode cX11_feed 37 = .ok (.iload 5, 2) := by decide +kernel
theorem dX11_feed_39 : decode cX11_feed 39 = .ok (.invokevirtual 83, 3) := by decide +kernel
theorem dX11_feed_42 : decode cX11_feed 42 = .ok (.aload_n 0, 1) := by decide +kernel
theorem dX11_feed_43 : decode cX11_feed 43 = .ok (.getfield 80, 3) := by decide +kernel
theorem dX11_feed_46 : decode cX11_feed 46 = .ok (.ireturn, 1) := by decide +kernel
theorem dX11_end_0 : decode cX11_end 0 = .ok (.iload_n 1, 1) := by decide +kernel
theorem dX11_end_1 : decode cX11_end 1 = .ok (.ifCond .lt 11, 3) := by decide +kernel
theorem dX11_end_4 : decode cX11_end 4 = .ok (.iload_n 1, 1) := by decide +kernel
theorem dX11_end_5 : decode cX11_end 5 = .ok (.aload_n 0, 1) := by decide +kernel
theorem dX11_end_6 : decode cX11_end 6 = .ok (.getfield 80, 3) := by decide +kernel
theorem dX11_end_9 : decode cX11_end 9 = .ok (.if_icmp .le 5, 3) := by decide +kernel
theorem dX11_end_12 : decode cX11_end 12 = .ok (.iconst 0, 1) := by decide +kernel
theorem dX11_end_13 : decode cX11_end 13 = .ok (.ireturn, 1) := by decide +kernel
theorem dX11_end_14 : decode cX11_end 14 = .ok (.aload_n 0, 1) := by decide +kernel
theorem dX11_end_15 : decode cX11_end 15 = .ok (.iload_n 1, 1) := by decide +kernel
theorem dX11_end_16 : decode cX11_end 16 = .ok (.putfield 80, 3) := by decide +kernel
theorem dX11_end_19 : decode cX11_end 19 = .ok (.iconst 1, 1) := by decide +kernel
theorem dX11_end_20 : decode cX11_end 20 = .ok (.ireturn, 1) := by decide +kernel
theorem dX11_post_0 : decode cX11_post 0 = .ok (.aload_n 0, 1) := by decide +kernel
theorem dX11_post_1 : decode cX11_post 1 = .ok (.getfield 37, 3) := by decide +kernel
theorem dX11_post_4 : decode cX11_post 4 = .ok (.getfield 87, 3) := by decide +kernel
theorem dX11_post_7 : decode cX11_post 7 = .ok (.aload_n 0, 1) := by decide +kernel
theorem dX11_post_8 : decode cX11_post 8 = .ok (.getfield 20, 3) := by decide +kernel
theorem dX11_post_11 : decode cX11_post 11 = .ok (.invokevirtual 90, 3) := by decide +kernel
theorem dX11_post_14 : decode cX11_post 14 = .ok (.aload_n 0, 1) := by decide +kernel
theorem dX11_post_15 : decode cX11_post 15 = .ok (.getfield 37, 3) := by decide +kernel
theorem dX11_post_18 : decode cX11_post 18 = .ok (.aload_n 0, 1) := by decide +kernel
theorem dX11_post_19 : decode cX11_post 19 = .ok (.getfield 9, 3) := by decide +kernel
theorem dX11_post_22 : decode cX11_post 22 = .ok (.aload_n 0, 1) := by decide +kernel
theorem dX11_post_23 : decode cX11_post 23 = .ok (.getfield 80, 3) := by decide +kernel
theorem dX11_post_26 : decode cX11_post 26 = .ok (.bipush 14, 2) := by decide +kernel
theorem dX11_post_28 : decode cX11_post 28 = .ok (.invokevirtual 94, 3) := by decide +kernel
theorem dX11_post_31 : decode cX11_post 31 = .ok (.istore_n 1, 1) := by decide +kernel
theorem dX11_post_32 : decode cX11_post 32 = .ok (.aload_n 0, 1) := by decide +kernel
theorem dX11_post_33 : decode cX11_post 33 = .ok (.aload_n 0, 1) := by decide +kernel
theorem dX11_post_34 : decode cX11_post 34 = .ok (.getfield 37, 3) := by decide +kernel
theorem dX11_post_37 : decode cX11_post 37 = .ok (.getfield 98, 3) := by decide +kernel
theorem dX11_post_40 : decode cX11_post 40 = .ok (.getfield 102, 3) := by decide +kernel
theorem dX11_post_43 : decode cX11_post 43 = .ok (.invokevirtual 107, 3) := by decide +kernel
theorem dX11_post_46 : decode cX11_post 46 = .ok (.iload_n 1, 1) := by decide +kernel
theorem dX11_post_47 : decode cX11_post 47 = .ok (.ifCond .ne 13, 3) := by decide +kernel
theorem dX11_post_50 : decode cX11_post 50 = .ok (.new 110, 3) := by decide +kernel
theorem dX11_post_53 : decode cX11_post 53 = .ok (.dup, 1) := by decide +kernel
theorem dX11_post_54 : decode cX11_post 54 = .ok (.ldc 112, 2) := by decide +kernel
theorem dX11_post_56 : decode cX11_post 56 = .ok (.invokespecial 114, 3) := by decide +kernel
theorem dX11_post_59 : decode cX11_post 59 = .ok (.athrow, 1) := by decide +kernel
theorem dX11_post_60 : decode cX11_post 60 = .ok (.aload_n 0, 1) := by decide +kernel
theorem dX11_post_61 : decode cX11_post 61 = .ok (.getfield 20, 3) := by decide +kernel
theorem dX11_post_64 : decode cX11_post 64 = .ok (.getfield 117, 3) := by decide +kernel
theorem dX11_post_67 : decode cX11_post 67 = .ok (.bipush 12, 2) := by decide +kernel
theorem dX11_post_69 : decode cX11_post 69 = .ok (.if_icmp .lt 13, 3) := by decide +kernel
theorem dX11_post_72 : decode cX11_post 72 = .ok (.new 120, 3) := by decide +kernel
theorem dX11_post_75 : decode cX11_post 75 = .ok (.dup, 1) := by decide +kernel
theorem dX11_post_76 : decode cX11_post 76 = .ok (.ldc 122, 2) := by decide +kernel
theorem dX11_post_78 : decode cX11_post 78 = .ok (.invokespecial 124, 3) := by decide +kernel
theorem dX11_post_81 : decode cX11_post 81 = .ok (.athrow, 1) := by decide +kernel
theorem dX11_post_82 : decode cX11_post 82 = .ok (.aload_n 0, 1) := by decide +kernel
theorem dX11_post_83 : decode cX11_post 83 = .ok (.getfield 37, 3) := by decide +kernel
theorem dX11_post_86 : decode cX11_post 86 = .ok (.getfield 87, 3) := by decide +kernel
theorem dX11_post_89 : decode cX11_post 89 = .ok (.dup, 1) := by decide +kernel
theorem dX11_post_90 : decode cX11_post 90 = .ok (.getfield 117, 3) := by decide +kernel
theorem dX11_post_93 : decode cX11_post 93 = .ok (.iconst 1, 1) := by decide +kernel
theorem dX11_post_94 : decode cX11_post 94 = .ok (.iadd, 1) := by decide +kernel
theorem dX11_post_95 : decode cX11_post 95 = .ok (.putfield 117, 3) := by decide +kernel
theorem dX11_post_98 : decode cX11_post 98 = .ok (.aload_n 0, 1) := by decide +kernel
theorem dX11_post_99 : decode cX11_post 99 = .ok (.getfield 20, 3) := by decide +kernel
theorem dX11_post_102 : decode cX11_post 102 = .ok (.aload_n 0, 1) := by decide +kernel
theorem dX11_post_103 : decode cX11_post 103 = .ok (.getfield 37, 3) := by decide +kernel
theorem dX11_post_106 : decode cX11_post 106 = .ok (.getfield 87, 3) := by decide +kernel
theorem dX11_post_109 : decode cX11_post 109 = .ok (.invokevirtual 90, 3) := by decide +kernel
theorem dX11_post_112 : decode cX11_post 112 = .ok (.aload_n 0, 1) := by decide +kernel
theorem dX11_post_113 : decode cX11_post 113 = .ok (.getfield 30, 3) := by decide +kernel
theorem dX11_post_116 : decode cX11_post 116 = .ok (.invokevirtual 125, 3) := by decide +kernel
theorem dX11_post_119 : decode cX11_post 119 = .ok (.aload_n 0, 1) := by decide +kernel
theorem dX11_post_120 : decode cX11_post 120 = .ok (.getfield 20, 3) := by decide +kernel
theorem dX11_post_123 : decode cX11_post 123 = .ok (.getfield 117, 3) := by decide +kernel
theorem dX11_post_126 : decode cX11_post 126 = .ok (.ireturn, 1) := by decide +kernel
theorem dX11_law_0 : decode cX11_law 0 = .ok (.aload_n 0, 1) := by decide +kernel
theorem dX11_law_1 : decode cX11_law 1 = .ok (.getfield 44, 3) := by decide +kernel
theorem dX11_law_4 : decode cX11_law 4 = .ok (.getfield 128, 3) := by decide +kernel
theorem dX11_law_7 : decode cX11_law 7 = .ok (.invokevirtual 131, 3) := by decide +kernel
theorem dX11_law_10 : decode cX11_law 10 = .ok (.aload_n 0, 1) := by decide +kernel
theorem dX11_law_11 : decode cX11_law 11 = .ok (.getfield 44, 3) := by decide +kernel
theorem dX11_law_14 : decode cX11_law 14 = .ok (.aload_n 0, 1) := by decide +kernel
theorem dX11_law_15 : decode cX11_law 15 = .ok (.getfield 9, 3) := by decide +kernel
theorem dX11_law_18 : decode cX11_law 18 = .ok (.aload_n 0, 1) := by decide +kernel
theorem dX11_law_19 : decode cX11_law 19 = .ok (.getfield 80, 3) := by decide +kernel
theorem dX11_law_22 : decode cX11_law 22 = .ok (.bipush 12, 2) := by decide +kernel
theorem dX11_law_24 : decode cX11_law 24 = .ok (.invokevirtual 136, 3) := by decide +kernel
theorem dX11_law_27 : decode cX11_law 27 = .ok (.istore_n 1, 1) := by decide +kernel
theorem dX11_law_28 : decode cX11_law 28 = .ok (.aload_n 0, 1) := by decide +kernel
theorem dX11_law_29 : decode cX11_law 29 = .ok (.aload_n 0, 1) := by decide +kernel
theorem dX11_law_30 : decode cX11_law 30 = .ok (.getfield 44, 3) := by decide +kernel
theorem dX11_law_33 : decode cX11_law 33 = .ok (.getfield 137, 3) := by decide +kernel
theorem dX11_law_36 : decode cX11_law 36 = .ok (.getfield 102, 3) := by decide +kernel
theorem dX11_law_39 : decode cX11_law 39 = .ok (.invokevirtual 107, 3) := by decide +kernel
theorem dX11_law_42 : decode cX11_law 42 = .ok (.iload_n 1, 1) := by decide +kernel
theorem dX11_law_43 : decode cX11_law 43 = .ok (.ifCond .ne 13, 3) := by decide +kernel
theorem dX11_law_46 : decode cX11_law 46 = .ok (.new 110, 3) := by decide +kernel
theorem dX11_law_49 : decode cX11_law 49 = .ok (.dup, 1) := by decide +kernel
theorem dX11_law_50 : decode cX11_law 50 = .ok (.ldc 138, 2) := by decide +kernel
theorem dX11_law_52 : decode cX11_law 52 = .ok (.invokespecial 114, 3) := by decide +kernel
theorem dX11_law_55 : decode cX11_law 55 = .ok (.athrow, 1) := by decide +kernel
theorem dX11_law_56 : decode cX11_law 56 = .ok (.aload_n 0, 1) := by decide +kernel
theorem dX11_law_57 : decode cX11_law 57 = .ok (.getfield 44, 3) := by decide +kernel
theorem dX11_law_60 : decode cX11_law 60 = .ok (.getfield 128, 3) := by decide +kernel
theorem dX11_law_63 : decode cX11_law 63 = .ok (.iconst 1, 1) := by decide +kernel
theorem dX11_law_64 : decode cX11_law 64 = .ok (.putfield 140, 3) := by decide +kernel
theorem dX11_law_67 : decode cX11_law 67 = .ok (.aload_n 0, 1) := by decide +kernel
theorem dX11_law_68 : decode cX11_law 68 = .ok (.getfield 20, 3) := by decide +kernel
theorem dX11_law_71 : decode cX11_law 71 = .ok (.getfield 144, 3) := by decide +kernel
theorem dX11_law_74 : decode cX11_law 74 = .ok (.aload_n 0, 1) := by decide +kernel
theorem dX11_law_75 : decode cX11_law 75 = .ok (.getfield 44, 3) := by decide +kernel
theorem dX11_law_78 : decode cX11_law 78 = .ok (.getfield 128, 3) := by decide +kernel
theorem dX11_law_81 : decode cX11_law 81 = .ok (.invokevirtual 147, 3) := by decide +kernel
theorem dX11_law_84 : decode cX11_law 84 = .ok (.aload_n 0, 1) := by decide +kernel
theorem dX11_law_85 : decode cX11_law 85 = .ok (.getfield 30, 3) := by decide +kernel
theorem dX11_law_88 : decode cX11_law 88 = .ok (.invokevirtual 125, 3) := by decide +kernel
theorem dX11_law_91 : decode cX11_law 91 = .ok (.aload_n 0, 1) := by decide +kernel
theorem dX11_law_92 : decode cX11_law 92 = .ok (.getfield 20, 3) := by decide +kernel
theorem dX11_law_95 : decode cX11_law 95 = .ok (.getfield 144, 3) := by decide +kernel
theorem dX11_law_98 : decode cX11_law 98 = .ok (.getfield 150, 3) := by decide +kernel
theorem dX11_law_101 : decode cX11_law 101 = .ok (.ireturn, 1) := by decide +kernel
theorem dX11_fault_0 : decode cX11_fault 0 = .ok (.aload_n 0, 1) := by decide +kernel
theorem dX11_fault_1 : decode cX11_fault 1 = .ok (.getfield 13, 3) := by decide +kernel
theorem dX11_fault_4 : decode cX11_fault 4 = .ok (.ireturn, 1) := by decide +kernel
theorem dX11_letter_0 : decode cX11_letter 0 = .ok (.aload_n 0, 1) := by decide +kernel
theorem dX11_letter_1 : decode cX11_letter 1 = .ok (.iload_n 1, 1) := by decide +kernel
theorem dX11_letter_2 : decode cX11_letter 2 = .ok (.invokevirtual 153, 3) := by decide +kernel
theorem dX11_letter_5 : decode cX11_letter 5 = .ok (.astore_n 3, 1) := by decide +kernel
theorem dX11_letter_6 : decode cX11_letter 6 = .ok (.iload_n 2, 1) := by decide +kernel
theorem dX11_letter_7 : decode cX11_letter 7 = .ok (.tableswitch 122 0 7 #[45, 50, 55, 60, 73, 86, 95, 100], 45) := by decide +kernel
theorem dX11_letter_52 : decode cX11_letter 52 = .ok (.aload_n 3, 1) := by decide +kernel
theorem dX11_letter_53 : decode cX11_letter 53 = .ok (.getfield 157, 3) := by decide +kernel
theorem dX11_letter_56 : decode cX11_letter 56 = .ok (.ireturn, 1) := by decide +kernel
theorem dX11_letter_57 : decode cX11_letter 57 = .ok (.aload_n 3, 1) := by decide +kernel
theorem dX11_letter_58 : decode cX11_letter 58 = .ok (.getfield 162, 3) := by decide +kernel
theorem dX11_letter_61 : decode cX11_letter 61 = .ok (.ireturn, 1) := by decide +kernel
theorem dX11_letter_62 : decode cX11_letter 62 = .ok (.aload_n 3, 1) := by decide +kernel
theorem dX11_letter_63 : decode cX11_letter 63 = .ok (.getfield 165, 3) := by decide +kernel
theorem dX11_letter_66 : decode cX11_letter 66 = .ok (.ireturn, 1) := by decide +kernel
theorem dX11_letter_67 : decode cX11_letter 67 = .ok (.aload_n 3, 1) := by decide +kernel
theorem dX11_letter_68 : decode cX11_letter 68 = .ok (.getfield 168, 3) := by decide +kernel
theorem dX11_letter_71 : decode cX11_letter 71 = .ok (.ifCond .eq 7, 3) := by decide +kernel
theorem dX11_letter_74 : decode cX11_letter 74 = .ok (.iconst 1, 1) := by decide +kernel
theorem dX11_letter_75 : decode cX11_letter 75 = .ok (.goto 4, 3) := by decide +kernel
theorem dX11_letter_78 : decode cX11_letter 78 = .ok (.iconst 0, 1) := by decide +kernel
theorem dX11_letter_79 : decode cX11_letter 79 = .ok (.ireturn, 1) := by decide +kernel
theorem dX11_letter_80 : decode cX11_letter 80 = .ok (.aload_n 3, 1) := by decide +kernel
theorem dX11_letter_81 : decode cX11_letter 81 = .ok (.getfield 171, 3) := by decide +kernel
theorem dX11_letter_84 : decode cX11_letter 84 = .ok (.ifCond .eq 7, 3) := by decide +kernel
theorem dX11_letter_87 : decode cX11_letter 87 = .ok (.iconst 1, 1) := by decide +kernel
theorem dX11_letter_88 : decode cX11_letter 88 = .ok (.goto 4, 3) := by decide +kernel
theorem dX11_letter_91 : decode cX11_letter 91 = .ok (.iconst 0, 1) := by decide +kernel
theorem dX11_letter_92 : decode cX11_letter 92 = .ok (.ireturn, 1) := by decide +kernel
theorem dX11_letter_93 : decode cX11_letter 93 = .ok (.aload_n 0, 1) := by decide +kernel
theorem dX11_letter_94 : decode cX11_letter 94 = .ok (.getfield 20, 3) := by decide +kernel
theorem dX11_letter_97 : decode cX11_letter 97 = .ok (.aload_n 3, 1) := by decide +kernel
theorem dX11_letter_98 : decode cX11_letter 98 = .ok (.invokevirtual 174, 3) := by decide +kernel
theorem dX11_letter_101 : decode cX11_letter 101 = .ok (.ireturn, 1) := by decide +kernel
theorem dX11_letter_102 : decode cX11_letter 102 = .ok (.aload_n 3, 1) := by decide +kernel
theorem dX11_letter_103 : decode cX11_letter 103 = .ok (.invokevirtual 178, 3) := by decide +kernel
theorem dX11_letter_106 : decode cX11_letter 106 = .ok (.ireturn, 1) := by decide +kernel
theorem dX11_letter_107 : decode cX11_letter 107 = .ok (.aload_n 0, 1) := by decide +kernel
theorem dX11_letter_108 : decode cX11_letter 108 = .ok (.getfield 20, 3) := by decide +kernel
theorem dX11_letter_111 : decode cX11_letter 111 = .ok (.getfield 144, 3) := by decide +kernel
theorem dX11_letter_114 : decode cX11_letter 114 = .ok (.aload_n 3, 1) := by decide +kernel
theorem dX11_letter_115 : decode cX11_letter 115 = .ok (.aload_n 0, 1) := by decide +kernel
theorem dX11_letter_116 : decode cX11_letter 116 = .ok (.getfield 20, 3) := by decide +kernel
theorem dX11_letter_119 : decode cX11_letter 119 = .ok (.getfield 182, 3) := by decide +kernel
theorem dX11_letter_122 : decode cX11_letter 122 = .ok (.getfield 185, 3) := by decide +kernel
theorem dX11_letter_125 : decode cX11_letter 125 = .ok (.invokevirtual 188, 3) := by decide +kernel
theorem dX11_letter_128 : decode cX11_letter 128 = .ok (.ireturn, 1) := by decide +kernel
theorem dX11_letter_129 : decode cX11_letter 129 = .ok (.new 192, 3) := by decide +kernel
theorem dX11_letter_132 : decode cX11_letter 132 = .ok (.dup, 1) := by decide +kernel
theorem dX11_letter_133 : decode cX11_letter 133 = .ok (.ldc 194, 2) := by decide +kernel
theorem dX11_letter_135 : decode cX11_letter 135 = .ok (.invokespecial 196, 3) := by decide +kernel
theorem dX11_letter_138 : decode cX11_letter 138 = .ok (.athrow, 1) := by decide +kernel
theorem dX11_line_0 : decode cX11_line 0 = .ok (.aload_n 0, 1) := by decide +kernel
theorem dX11_line_1 : decode cX11_line 1 = .ok (.iload_n 1, 1) := by decide +kernel
theorem dX11_line_2 : decode cX11_line 2 = .ok (.invokevirtual 153, 3) := by decide +kernel
theorem dX11_line_5 : decode cX11_line 5 = .ok (.astore 4, 2) := by decide +kernel
theorem dX11_line_7 : decode cX11_line 7 = .ok (.aload 4, 2) := by decide +kernel
theorem dX11_line_9 : decode cX11_line 9 = .ok (.iload_n 2, 1) := by decide +kernel
theorem dX11_line_10 : decode cX11_line 10 = .ok (.invokestatic 197, 3) := by decide +kernel
theorem dX11_line_13 : decode cX11_line 13 = .ok (.iload_n 3, 1) := by decide +kernel
theorem dX11_line_14 : decode cX11_line 14 = .ok (.ifCond .eq 12, 3) := by decide +kernel
theorem dX11_line_17 : decode cX11_line 17 = .ok (.aload 4, 2) := by decide +kernel
theorem dX11_line_19 : decode cX11_line 19 = .ok (.iload_n 2, 1) := by decide +kernel
theorem dX11_line_20 : decode cX11_line 20 = .ok (.invokevirtual 201, 3) := by decide +kernel
theorem dX11_line_23 : decode cX11_line 23 = .ok (.goto 9, 3) := by decide +kernel
theorem dX11_line_26 : decode cX11_line 26 = .ok (.aload 4, 2) := by decide +kernel
theorem dX11_line_28 : decode cX11_line 28 = .ok (.iload_n 2, 1) := by decide +kernel
theorem dX11_line_29 : decode cX11_line 29 = .ok (.invokevirtual 205, 3) := by decide +kernel
theorem dX11_line_32 : decode cX11_line 32 = .ok (.ireturn, 1) := by decide +kernel
theorem dX11_words_0 : decode cX11_words 0 = .ok (.iload_n 1, 1) := by decide +kernel
theorem dX11_words_1 : decode cX11_words 1 = .ok (.invokestatic 208, 3) := by decide +kernel
theorem dX11_words_4 : decode cX11_words 4 = .ok (.aload_n 0, 1) := by decide +kernel
theorem dX11_words_5 : decode cX11_words 5 = .ok (.getfield 20, 3) := by decide +kernel
theorem dX11_words_8 : decode cX11_words 8 = .ok (.iload_n 1, 1) := by decide +kernel
theorem dX11_words_9 : decode cX11_words 9 = .ok (.invokevirtual 211, 3) := by decide +kernel
theorem dX11_words_12 : decode cX11_words 12 = .ok (.ireturn, 1) := by decide +kernel
theorem dX11_promise_0 : decode cX11_promise 0 = .ok (.aload_n 0, 1) := by decide +kernel
theorem dX11_promise_1 : decode cX11_promise 1 = .ok (.iload_n 1, 1) := by decide +kernel
theorem dX11_promise_2 : decode cX11_promise 2 = .ok (.invokevirtual 214, 3) := by decide +kernel
theorem dX11_promise_5 : decode cX11_promise 5 = .ok (.aload_n 0, 1) := by decide +kernel
theorem dX11_promise_6 : decode cX11_promise 6 = .ok (.getfield 20, 3) := by decide +kernel
theorem dX11_promise_9 : decode cX11_promise 9 = .ok (.iload_n 1, 1) := by decide +kernel
theorem dX11_promise_10 : decode cX11_promise 10 = .ok (.iload_n 2, 1) := by decide +kernel
theorem dX11_promise_11 : decode cX11_promise 11 = .ok (.invokevirtual 217, 3) := by decide +kernel
theorem dX11_promise_14 : decode cX11_promise 14 = .ok (.ireturn, 1) := by decide +kernel
theorem dX11_season_0 : decode cX11_season 0 = .ok (.iload_n 1, 1) := by decide +kernel
theorem dX11_season_1 : decode cX11_season 1 = .ok (.ifCond .lt 10, 3) := by decide +kernel
theorem dX11_season_4 : decode cX11_season 4 = .ok (.iload_n 1, 1) := by decide +kernel
theorem dX11_season_5 : decode cX11_season 5 = .ok (.sipush 9999, 3) := by decide +kernel
theorem dX11_season_8 : decode cX11_season 8 = .ok (.if_icmp .le 13, 3) := by decide +kernel
theorem dX11_season_11 : decode cX11_season 11 = .ok (.new 110, 3) := by decide +kernel
theorem dX11_season_14 : decode cX11_season 14 = .ok (.dup, 1) := by decide +kernel
theorem dX11_season_15 : decode cX11_season 15 = .ok (.ldc 221, 2) := by decide +kernel
theorem dX11_season_17 : decode cX11_season 17 = .ok (.invokespecial 114, 3) := by decide +kernel
theorem dX11_season_20 : decode cX11_season 20 = .ok (.athrow, 1) := by decide +kernel
theorem dX11_season_21 : decode cX11_season 21 = .ok (.iload_n 1, 1) := by decide +kernel
theorem dX11_season_22 : decode cX11_season 22 = .ok (.invokestatic 223, 3) := by decide +kernel
theorem dX11_season_25 : decode cX11_season 25 = .ok (.ireturn, 1) := by decide +kernel
theorem dX11_write_0 : decode cX11_write 0 = .ok (.aload_n 0, 1) := by decide +kernel
theorem dX11_write_1 : decode cX11_write 1 = .ok (.getfield 80, 3) := by decide +kernel
theorem dX11_write_4 : decode cX11_write 4 = .ok (.istore_n 3, 1) := by decide +kernel
theorem dX11_write_5 : decode cX11_write 5 = .ok (.aload_n 0, 1) := by decide +kernel
theorem dX11_write_6 : decode cX11_write 6 = .ok (.iconst 0, 1) := by decide +kernel
theorem dX11_write_7 : decode cX11_write 7 = .ok (.putfield 80, 3) := by decide +kernel
theorem dX11_write_10 : decode cX11_write 10 = .ok (.aload_n 0, 1) := by decide +kernel
theorem dX11_write_11 : decode cX11_write 11 = .ok (.iload_n 3, 1) := by decide +kernel
theorem dX11_write_12 : decode cX11_write 12 = .ok (.invokevirtual 226, 3) := by decide +kernel
theorem dX11_write_15 : decode cX11_write 15 = .ok (.ifCond .eq 17, 3) := by decide +kernel
theorem dX11_write_18 : decode cX11_write 18 = .ok (.iload_n 1, 1) := by decide +kernel
theorem dX11_write_19 : decode cX11_write 19 = .ok (.invokestatic 230, 3) := by decide +kernel
theorem dX11_write_22 : decode cX11_write 22 = .ok (.ifCond .ne 10, 3) := by decide +kernel
theorem dX11_write_25 : decode cX11_write 25 = .ok (.iload_n 2, 1) := by decide +kernel
theorem dX11_write_26 : decode cX11_write 26 = .ok (.invokestatic 230, 3) := by decide +kernel
theorem dX11_write_29 : decode cX11_write 29 = .ok (.ifCond .eq 13, 3) := by decide +kernel
theorem dX11_write_32 : decode cX11_write 32 = .ok (.new 110, 3) := by decide +kernel
theorem dX11_write_35 : decode cX11_write 35 = .ok (.dup, 1) := by decide +kernel
theorem dX11_write_36 : decode cX11_write 36 = .ok (.ldc 233, 2) := by decide +kernel
theorem dX11_write_38 : decode cX11_write 38 = .ok (.invokespecial 114, 3) := by decide +kernel
theorem dX11_write_41 : decode cX11_write 41 = .ok (.athrow, 1) := by decide +kernel
theorem dX11_write_42 : decode cX11_write 42 = .ok (.aload_n 0, 1) := by decide +kernel
theorem dX11_write_43 : decode cX11_write 43 = .ok (.getfield 20, 3) := by decide +kernel
theorem dX11_write_46 : decode cX11_write 46 = .ok (.getfield 182, 3) := by decide +kernel
theorem dX11_write_49 : decode cX11_write 49 = .ok (.getfield 235, 3) := by decide +kernel
theorem dX11_write_52 : decode cX11_write 52 = .ok (.bipush 8, 2) := by decide +kernel
theorem dX11_write_54 : decode cX11_write 54 = .ok (.if_icmp .lt 13, 3) := by decide +kernel
theorem dX11_write_57 : decode cX11_write 57 = .ok (.new 120, 3) := by decide +kernel
theorem dX11_write_60 : decode cX11_write 60 = .ok (.dup, 1) := by decide +kernel
theorem dX11_write_61 : decode cX11_write 61 = .ok (.ldc 236, 2) := by decide +kernel
theorem dX11_write_63 : decode cX11_write 63 = .ok (.invokespecial 124, 3) := by decide +kernel
theorem dX11_write_66 : decode cX11_write 66 = .ok (.athrow, 1) := by decide +kernel
theorem dX11_write_67 : decode cX11_write 67 = .ok (.aload_n 0, 1) := by decide +kernel
theorem dX11_write_68 : decode cX11_write 68 = .ok (.getfield 30, 3) := by decide +kernel
theorem dX11_write_71 : decode cX11_write 71 = .ok (.aload_n 0, 1) := by decide +kernel
theorem dX11_write_72 : decode cX11_write 72 = .ok (.getfield 20, 3) := by decide +kernel
theorem dX11_write_75 : decode cX11_write 75 = .ok (.getfield 182, 3) := by decide +kernel
theorem dX11_write_78 : decode cX11_write 78 = .ok (.invokevirtual 238, 3) := by decide +kernel
theorem dX11_write_81 : decode cX11_write 81 = .ok (.aload_n 0, 1) := by decide +kernel
theorem dX11_write_82 : decode cX11_write 82 = .ok (.getfield 20, 3) := by decide +kernel
theorem dX11_write_85 : decode cX11_write 85 = .ok (.getfield 182, 3) := by decide +kernel
theorem dX11_write_88 : decode cX11_write 88 = .ok (.getfield 242, 3) := by decide +kernel
theorem dX11_write_91 : decode cX11_write 91 = .ok (.aload_n 0, 1) := by decide +kernel
theorem dX11_write_92 : decode cX11_write 92 = .ok (.getfield 20, 3) := by decide +kernel
theorem dX11_write_95 : decode cX11_write 95 = .ok (.getfield 182, 3) := by decide +kernel
theorem dX11_write_98 : decode cX11_write 98 = .ok (.getfield 235, 3) := by decide +kernel
theorem dX11_write_101 : decode cX11_write 101 = .ok (.aaload, 1) := by decide +kernel
theorem dX11_write_102 : decode cX11_write 102 = .ok (.astore 4, 2) := by decide +kernel
theorem dX11_write_104 : decode cX11_write 104 = .ok (.aload 4, 2) := by decide +kernel
theorem dX11_write_106 : decode cX11_write 106 = .ok (.iload_n 1, 1) := by decide +kernel
theorem dX11_write_107 : decode cX11_write 107 = .ok (.iload_n 2, 1) := by decide +kernel
theorem dX11_write_108 : decode cX11_write 108 = .ok (.invokevirtual 246, 3) := by decide +kernel
theorem dX11_write_111 : decode cX11_write 111 = .ok (.iconst 0, 1) := by decide +kernel
theorem dX11_write_112 : decode cX11_write 112 = .ok (.istore 5, 2) := by decide +kernel
theorem dX11_write_114 : decode cX11_write 114 = .ok (.iload 5, 2) := by decide +kernel
theorem dX11_write_116 : decode cX11_write 116 = .ok (.iload_n 3, 1) := by decide +kernel
theorem dX11_write_117 : decode cX11_write 117 = .ok (.if_icmp .ge 39, 3) := by decide +kernel
theorem dX11_write_120 : decode cX11_write 120 = .ok (.iload 5, 2) := by decide +kernel
theorem dX11_write_122 : decode cX11_write 122 = .ok (.sipush 400, 3) := by decide +kernel
theorem dX11_write_125 : decode cX11_write 125 = .ok (.if_icmp .ge 31, 3) := by decide +kernel
theorem dX11_write_128 : decode cX11_write 128 = .ok (.aload 4, 2) := by decide +kernel
theorem dX11_write_130 : decode cX11_write 130 = .ok (.aload_n 0, 1) := by decide +kernel
theorem dX11_write_131 : decode cX11_write 131 = .ok (.getfield 9, 3) := by decide +kernel
theorem dX11_write_134 : decode cX11_write 134 = .ok (.iload 5, 2) := by decide +kernel
theorem dX11_write_136 : decode cX11_write 136 = .ok (.iaload, 1) := by decide +kernel
theorem dX11_write_137 : decode cX11_write 137 = .ok (.aload_n 0, 1) := by decide +kernel
theorem dX11_write_138 : decode cX11_write 138 = .ok (.getfield 20, 3) := by decide +kernel
theorem dX11_write_141 : decode cX11_write 141 = .ok (.getfield 182, 3) := by decide +kernel
theorem dX11_write_144 : decode cX11_write 144 = .ok (.getfield 185, 3) := by decide +kernel
theorem dX11_write_147 : decode cX11_write 147 = .ok (.invokevirtual 250, 3) := by decide +kernel
theorem dX11_write_150 : decode cX11_write 150 = .ok (.iinc 5 1, 3) := by decide +kernel
theorem dX11_write_153 : decode cX11_write 153 = .ok (.goto (-39), 3) := by decide +kernel
theorem dX11_write_156 : decode cX11_write 156 = .ok (.aload_n 0, 1) := by decide +kernel
theorem dX11_write_157 : decode cX11_write 157 = .ok (.getfield 20, 3) := by decide +kernel
theorem dX11_write_160 : decode cX11_write 160 = .ok (.getfield 182, 3) := by decide +kernel
theorem dX11_write_163 : decode cX11_write 163 = .ok (.dup, 1) := by decide +kernel
theorem dX11_write_164 : decode cX11_write 164 = .ok (.getfield 235, 3) := by decide +kernel
theorem dX11_write_167 : decode cX11_write 167 = .ok (.iconst 1, 1) := by decide +kernel
theorem dX11_write_168 : decode cX11_write 168 = .ok (.iadd, 1) := by decide +kernel
theorem dX11_write_169 : decode cX11_write 169 = .ok (.putfield 235, 3) := by decide +kernel
theorem dX11_write_172 : decode cX11_write 172 = .ok (.aload_n 0, 1) := by decide +kernel
theorem dX11_write_173 : decode cX11_write 173 = .ok (.getfield 20, 3) := by decide +kernel
theorem dX11_write_176 : decode cX11_write 176 = .ok (.getfield 182, 3) := by decide +kernel
theorem dX11_write_179 : decode cX11_write 179 = .ok (.getfield 235, 3) := by decide +kernel
theorem dX11_write_182 : decode cX11_write 182 = .ok (.iconst 1, 1) := by decide +kernel
theorem dX11_write_183 : decode cX11_write 183 = .ok (.isub, 1) := by decide +kernel
theorem dX11_write_184 : decode cX11_write 184 = .ok (.ireturn, 1) := by decide +kernel
theorem dX11_open_0 : decode cX11_open 0 = .ok (.aload_n 0, 1) := by decide +kernel
theorem dX11_open_1 : decode cX11_open 1 = .ok (.iload_n 1, 1) := by decide +kernel
theorem dX11_open_2 : decode cX11_open 2 = .ok (.invokevirtual 153, 3) := by decide +kernel
theorem dX11_open_5 : decode cX11_open 5 = .ok (.astore_n 3, 1) := by decide +kernel
theorem dX11_open_6 : decode cX11_open 6 = .ok (.aload_n 0, 1) := by decide +kernel
theorem dX11_open_7 : decode cX11_open 7 = .ok (.getfield 30, 3) := by decide +kernel
theorem dX11_open_10 : decode cX11_open 10 = .ok (.aload_n 0, 1) := by decide +kernel
theorem dX11_open_11 : decode cX11_open 11 = .ok (.getfield 20, 3) := by decide +kernel
theorem dX11_open_14 : decode cX11_open 14 = .ok (.getfield 182, 3) := by decide +kernel
theorem dX11_open_17 : decode cX11_open 17 = .ok (.invokevirtual 238, 3) := by decide +kernel
theorem dX11_open_20 : decode cX11_open 20 = .ok (.aload_n 3, 1) := by decide +kernel
theorem dX11_open_21 : decode cX11_open 21 = .ok (.getfield 168, 3) := by decide +kernel
theorem dX11_open_24 : decode cX11_open 24 = .ok (.iload_n 2, 1) := by decide +kernel
theorem dX11_open_25 : decode cX11_open 25 = .ok (.if_icmp .eq 7, 3) := by decide +kernel
theorem dX11_open_28 : decode cX11_open 28 = .ok (.iconst 1, 1) := by decide +kernel
theorem dX11_open_29 : decode cX11_open 29 = .ok (.goto 4, 3) := by decide +kernel
theorem dX11_open_32 : decode cX11_open 32 = .ok (.iconst 0, 1) := by decide +kernel
theorem dX11_open_33 : decode cX11_open 33 = .ok (.istore 4, 2) := by decide +kernel
theorem dX11_open_35 : decode cX11_open 35 = .ok (.aload_n 3, 1) := by decide +kernel
theorem dX11_open_36 : decode cX11_open 36 = .ok (.iload_n 2, 1) := by decide +kernel
theorem dX11_open_37 : decode cX11_open 37 = .ok (.putfield 168, 3) := by decide +kernel
theorem dX11_open_40 : decode cX11_open 40 = .ok (.iload 4, 2) := by decide +kernel
theorem dX11_open_42 : decode cX11_open 42 = .ok (.ireturn, 1) := by decide +kernel
theorem dX11_copy_0 : decode cX11_copy 0 = .ok (.aload_n 0, 1) := by decide +kernel
theorem dX11_copy_1 : decode cX11_copy 1 = .ok (.iload_n 1, 1) := by decide +kernel
theorem dX11_copy_2 : decode cX11_copy 2 = .ok (.invokevirtual 153, 3) := by decide +kernel
theorem dX11_copy_5 : decode cX11_copy 5 = .ok (.astore_n 2, 1) := by decide +kernel
theorem dX11_copy_6 : decode cX11_copy 6 = .ok (.aload_n 0, 1) := by decide +kernel
theorem dX11_copy_7 : decode cX11_copy 7 = .ok (.getfield 20, 3) := by decide +kernel
theorem dX11_copy_10 : decode cX11_copy 10 = .ok (.getfield 182, 3) := by decide +kernel
theorem dX11_copy_13 : decode cX11_copy 13 = .ok (.getfield 235, 3) := by decide +kernel
theorem dX11_copy_16 : decode cX11_copy 16 = .ok (.bipush 8, 2) := by decide +kernel
theorem dX11_copy_18 : decode cX11_copy 18 = .ok (.if_icmp .lt 13, 3) := by decide +kernel
theorem dX11_copy_21 : decode cX11_copy 21 = .ok (.new 120, 3) := by decide +kernel
theorem dX11_copy_24 : decode cX11_copy 24 = .ok (.dup, 1) := by decide +kernel
theorem dX11_copy_25 : decode cX11_copy 25 = .ok (.ldc 236, 2) := by decide +kernel
theorem dX11_copy_27 : decode cX11_copy 27 = .ok (.invokespecial 124, 3) := by decide +kernel
theorem dX11_copy_30 : decode cX11_copy 30 = .ok (.athrow, 1) := by decide +kernel
theorem dX11_copy_31 : decode cX11_copy 31 = .ok (.aload_n 0, 1) := by decide +kernel
theorem dX11_copy_32 : decode cX11_copy 32 = .ok (.getfield 30, 3) := by decide +kernel
theorem dX11_copy_35 : decode cX11_copy 35 = .ok (.aload_n 0, 1) := by decide +kernel
theorem dX11_copy_36 : decode cX11_copy 36 = .ok (.getfield 20, 3) := by decide +kernel
theorem dX11_copy_39 : decode cX11_copy 39 = .ok (.getfield 182, 3) := by decide +kernel
theorem dX11_copy_42 : decode cX11_copy 42 = .ok (.invokevirtual 238, 3) := by decide +kernel
theorem dX11_copy_45 : decode cX11_copy 45 = .ok (.aload_n 0, 1) := by decide +kernel
theorem dX11_copy_46 : decode cX11_copy 46 = .ok (.getfield 20, 3) := by decide +kernel
theorem dX11_copy_49 : decode cX11_copy 49 = .ok (.getfield 182, 3) := by decide +kernel
theorem dX11_copy_52 : decode cX11_copy 52 = .ok (.getfield 242, 3) := by decide +kernel
theorem dX11_copy_55 : decode cX11_copy 55 = .ok (.aload_n 0, 1) := by decide +kernel
theorem dX11_copy_56 : decode cX11_copy 56 = .ok (.getfield 20, 3) := by decide +kernel
theorem dX11_copy_59 : decode cX11_copy 59 = .ok (.getfield 182, 3) := by decide +kernel
theorem dX11_copy_62 : decode cX11_copy 62 = .ok (.getfield 235, 3) := by decide +kernel
theorem dX11_copy_65 : decode cX11_copy 65 = .ok (.aaload, 1) := by decide +kernel
theorem dX11_copy_66 : decode cX11_copy 66 = .ok (.astore_n 3, 1) := by decide +kernel
theorem dX11_copy_67 : decode cX11_copy 67 = .ok (.aload_n 3, 1) := by decide +kernel
theorem dX11_copy_68 : decode cX11_copy 68 = .ok (.aload_n 2, 1) := by decide +kernel
theorem dX11_copy_69 : decode cX11_copy 69 = .ok (.invokevirtual 253, 3) := by decide +kernel
theorem dX11_copy_72 : decode cX11_copy 72 = .ok (.aload_n 3, 1) := by decide +kernel
theorem dX11_copy_73 : decode cX11_copy 73 = .ok (.iconst 0, 1) := by decide +kernel
theorem dX11_copy_74 : decode cX11_copy 74 = .ok (.putfield 168, 3) := by decide +kernel
theorem dX11_copy_77 : decode cX11_copy 77 = .ok (.aload_n 0, 1) := by decide +kernel
theorem dX11_copy_78 : decode cX11_copy 78 = .ok (.getfield 20, 3) := by decide +kernel
theorem dX11_copy_81 : decode cX11_copy 81 = .ok (.getfield 182, 3) := by decide +kernel
theorem dX11_copy_84 : decode cX11_copy 84 = .ok (.dup, 1) := by decide +kernel
theorem dX11_copy_85 : decode cX11_copy 85 = .ok (.getfield 235, 3) := by decide +kernel
theorem dX11_copy_88 : decode cX11_copy 88 = .ok (.iconst 1, 1) := by decide +kernel
theorem dX11_copy_89 : decode cX11_copy 89 = .ok (.iadd, 1) := by decide +kernel
theorem dX11_copy_90 : decode cX11_copy 90 = .ok (.putfield 235, 3) := by decide +kernel
theorem dX11_copy_93 : decode cX11_copy 93 = .ok (.aload_n 0, 1) := by decide +kernel
theorem dX11_copy_94 : decode cX11_copy 94 = .ok (.getfield 20, 3) := by decide +kernel
theorem dX11_copy_97 : decode cX11_copy 97 = .ok (.getfield 182, 3) := by decide +kernel
