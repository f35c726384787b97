theorem dX12_readAllOf_12 : decode cX12_readAllOf 12 = .ok (.invokevirtual 214, 3) := by decide +kernel
theorem dX12_readAllOf_15 : decode cX12_readAllOf 15 = .ok (.ifCond .eq 22, 3) := by decide +kernel
theorem dX12_readAllOf_18 : decode cX12_readAllOf 18 = .ok (.aload_n 0, 1) := by decide +kernel
theorem dX12_readAllOf_19 : decode cX12_readAllOf 19 = .ok (.invokevirtual 217, 3) := by decide +kernel
theorem dX12_readAllOf_22 : decode cX12_readAllOf 22 = .ok (.ifCond .ne 5, 3) := by decide +kernel
theorem dX12_readAllOf_25 : decode cX12_readAllOf 25 = .ok (.iconst 0, 1) := by decide +kernel
theorem dX12_readAllOf_26 : decode cX12_readAllOf 26 = .ok (.ireturn, 1) := by decide +kernel
theorem dX12_readAllOf_27 : decode cX12_readAllOf 27 = .ok (.aload_n 0, 1) := by decide +kernel
theorem dX12_readAllOf_28 : decode cX12_readAllOf 28 = .ok (.bipush 13, 2) := by decide +kernel
theorem dX12_readAllOf_30 : decode cX12_readAllOf 30 = .ok (.iconst 0, 1) := by decide +kernel
theorem dX12_readAllOf_31 : decode cX12_readAllOf 31 = .ok (.invokevirtual 189, 3) := by decide +kernel
theorem dX12_readAllOf_34 : decode cX12_readAllOf 34 = .ok (.goto (-25), 3) := by decide +kernel
theorem dX12_readAllOf_37 : decode cX12_readAllOf 37 = .ok (.iconst 1, 1) := by decide +kernel
theorem dX12_readAllOf_38 : decode cX12_readAllOf 38 = .ok (.ireturn, 1) := by decide +kernel
theorem dX12_readCond_0 : decode cX12_readCond 0 = .ok (.aload_n 0, 1) := by decide +kernel
theorem dX12_readCond_1 : decode cX12_readCond 1 = .ok (.invokevirtual 228, 3) := by decide +kernel
theorem dX12_readCond_4 : decode cX12_readCond 4 = .ok (.ifCond .ne 5, 3) := by decide +kernel
theorem dX12_readCond_7 : decode cX12_readCond 7 = .ok (.iconst 0, 1) := by decide +kernel
theorem dX12_readCond_8 : decode cX12_readCond 8 = .ok (.ireturn, 1) := by decide +kernel
theorem dX12_readCond_9 : decode cX12_readCond 9 = .ok (.aload_n 0, 1) := by decide +kernel
theorem dX12_readCond_10 : decode cX12_readCond 10 = .ok (.ldc 231, 2) := by decide +kernel
theorem dX12_readCond_12 : decode cX12_readCond 12 = .ok (.invokevirtual 214, 3) := by decide +kernel
theorem dX12_readCond_15 : decode cX12_readCond 15 = .ok (.ifCond .eq 22, 3) := by decide +kernel
theorem dX12_readCond_18 : decode cX12_readCond 18 = .ok (.aload_n 0, 1) := by decide +kernel
theorem dX12_readCond_19 : decode cX12_readCond 19 = .ok (.invokevirtual 228, 3) := by decide +kernel
theorem dX12_readCond_22 : decode cX12_readCond 22 = .ok (.ifCond .ne 5, 3) := by decide +kernel
theorem dX12_readCond_25 : decode cX12_readCond 25 = .ok (.iconst 0, 1) := by decide +kernel
theorem dX12_readCond_26 : decode cX12_readCond 26 = .ok (.ireturn, 1) := by decide +kernel
theorem dX12_readCond_27 : decode cX12_readCond 27 = .ok (.aload_n 0, 1) := by decide +kernel
theorem dX12_readCond_28 : decode cX12_readCond 28 = .ok (.bipush 14, 2) := by decide +kernel
theorem dX12_readCond_30 : decode cX12_readCond 30 = .ok (.iconst 0, 1) := by decide +kernel
theorem dX12_readCond_31 : decode cX12_readCond 31 = .ok (.invokevirtual 189, 3) := by decide +kernel
theorem dX12_readCond_34 : decode cX12_readCond 34 = .ok (.goto (-25), 3) := by decide +kernel
theorem dX12_readCond_37 : decode cX12_readCond 37 = .ok (.iconst 1, 1) := by decide +kernel
theorem dX12_readCond_38 : decode cX12_readCond 38 = .ok (.ireturn, 1) := by decide +kernel
theorem dX12_readLawLine_0 : decode cX12_readLawLine 0 = .ok (.sipush 1310, 3) := by decide +kernel
theorem dX12_readLawLine_3 : decode cX12_readLawLine 3 = .ok (.iconst 4, 1) := by decide +kernel
theorem dX12_readLawLine_4 : decode cX12_readLawLine 4 = .ok (.iload_n 1, 1) := by decide +kernel
theorem dX12_readLawLine_5 : decode cX12_readLawLine 5 = .ok (.imul, 1) := by decide +kernel
theorem dX12_readLawLine_6 : decode cX12_readLawLine 6 = .ok (.iadd, 1) := by decide +kernel
theorem dX12_readLawLine_7 : decode cX12_readLawLine 7 = .ok (.istore_n 2, 1) := by decide +kernel
theorem dX12_readLawLine_8 : decode cX12_readLawLine 8 = .ok (.aload_n 0, 1) := by decide +kernel
theorem dX12_readLawLine_9 : decode cX12_readLawLine 9 = .ok (.getfield 13, 3) := by decide +kernel
theorem dX12_readLawLine_12 : decode cX12_readLawLine 12 = .ok (.iload_n 2, 1) := by decide +kernel
theorem dX12_readLawLine_13 : decode cX12_readLawLine 13 = .ok (.aload_n 0, 1) := by decide +kernel
theorem dX12_readLawLine_14 : decode cX12_readLawLine 14 = .ok (.invokevirtual 135, 3) := by decide +kernel
theorem dX12_readLawLine_17 : decode cX12_readLawLine 17 = .ok (.iastore, 1) := by decide +kernel
theorem dX12_readLawLine_18 : decode cX12_readLawLine 18 = .ok (.aload_n 0, 1) := by decide +kernel
theorem dX12_readLawLine_19 : decode cX12_readLawLine 19 = .ok (.getfield 13, 3) := by decide +kernel
theorem dX12_readLawLine_22 : decode cX12_readLawLine 22 = .ok (.iload_n 2, 1) := by decide +kernel
theorem dX12_readLawLine_23 : decode cX12_readLawLine 23 = .ok (.iaload, 1) := by decide +kernel
theorem dX12_readLawLine_24 : decode cX12_readLawLine 24 = .ok (.ifCond .ge 5, 3) := by decide +kernel
theorem dX12_readLawLine_27 : decode cX12_readLawLine 27 = .ok (.iconst 0, 1) := by decide +kernel
theorem dX12_readLawLine_28 : decode cX12_readLawLine 28 = .ok (.ireturn, 1) := by decide +kernel
theorem dX12_readLawLine_29 : decode cX12_readLawLine 29 = .ok (.aload_n 0, 1) := by decide +kernel
theorem dX12_readLawLine_30 : decode cX12_readLawLine 30 = .ok (.invokevirtual 122, 3) := by decide +kernel
theorem dX12_readLawLine_33 : decode cX12_readLawLine 33 = .ok (.aload_n 0, 1) := by decide +kernel
theorem dX12_readLawLine_34 : decode cX12_readLawLine 34 = .ok (.ldc 233, 2) := by decide +kernel
theorem dX12_readLawLine_36 : decode cX12_readLawLine 36 = .ok (.invokevirtual 125, 3) := by decide +kernel
theorem dX12_readLawLine_39 : decode cX12_readLawLine 39 = .ok (.ifCond .ne 5, 3) := by decide +kernel
theorem dX12_readLawLine_42 : decode cX12_readLawLine 42 = .ok (.iconst 0, 1) := by decide +kernel
theorem dX12_readLawLine_43 : decode cX12_readLawLine 43 = .ok (.ireturn, 1) := by decide +kernel
theorem dX12_readLawLine_44 : decode cX12_readLawLine 44 = .ok (.aload_n 0, 1) := by decide +kernel
theorem dX12_readLawLine_45 : decode cX12_readLawLine 45 = .ok (.getfield 13, 3) := by decide +kernel
theorem dX12_readLawLine_48 : decode cX12_readLawLine 48 = .ok (.iload_n 2, 1) := by decide +kernel
theorem dX12_readLawLine_49 : decode cX12_readLawLine 49 = .ok (.iconst 1, 1) := by decide +kernel
theorem dX12_readLawLine_50 : decode cX12_readLawLine 50 = .ok (.iadd, 1) := by decide +kernel
theorem dX12_readLawLine_51 : decode cX12_readLawLine 51 = .ok (.aload_n 0, 1) := by decide +kernel
theorem dX12_readLawLine_52 : decode cX12_readLawLine 52 = .ok (.invokevirtual 153, 3) := by decide +kernel
theorem dX12_readLawLine_55 : decode cX12_readLawLine 55 = .ok (.iastore, 1) := by decide +kernel
theorem dX12_readLawLine_56 : decode cX12_readLawLine 56 = .ok (.aload_n 0, 1) := by decide +kernel
theorem dX12_readLawLine_57 : decode cX12_readLawLine 57 = .ok (.getfield 13, 3) := by decide +kernel
theorem dX12_readLawLine_60 : decode cX12_readLawLine 60 = .ok (.iload_n 2, 1) := by decide +kernel
theorem dX12_readLawLine_61 : decode cX12_readLawLine 61 = .ok (.iconst 1, 1) := by decide +kernel
theorem dX12_readLawLine_62 : decode cX12_readLawLine 62 = .ok (.iadd, 1) := by decide +kernel
theorem dX12_readLawLine_63 : decode cX12_readLawLine 63 = .ok (.iaload, 1) := by decide +kernel
theorem dX12_readLawLine_64 : decode cX12_readLawLine 64 = .ok (.ifCond .ge 5, 3) := by decide +kernel
theorem dX12_readLawLine_67 : decode cX12_readLawLine 67 = .ok (.iconst 0, 1) := by decide +kernel
theorem dX12_readLawLine_68 : decode cX12_readLawLine 68 = .ok (.ireturn, 1) := by decide +kernel
theorem dX12_readLawLine_69 : decode cX12_readLawLine 69 = .ok (.aload_n 0, 1) := by decide +kernel
theorem dX12_readLawLine_70 : decode cX12_readLawLine 70 = .ok (.getfield 13, 3) := by decide +kernel
theorem dX12_readLawLine_73 : decode cX12_readLawLine 73 = .ok (.iload_n 2, 1) := by decide +kernel
theorem dX12_readLawLine_74 : decode cX12_readLawLine 74 = .ok (.iconst 2, 1) := by decide +kernel
theorem dX12_readLawLine_75 : decode cX12_readLawLine 75 = .ok (.iadd, 1) := by decide +kernel
theorem dX12_readLawLine_76 : decode cX12_readLawLine 76 = .ok (.aload_n 0, 1) := by decide +kernel
theorem dX12_readLawLine_77 : decode cX12_readLawLine 77 = .ok (.getfield 186, 3) := by decide +kernel
theorem dX12_readLawLine_80 : decode cX12_readLawLine 80 = .ok (.iastore, 1) := by decide +kernel
theorem dX12_readLawLine_81 : decode cX12_readLawLine 81 = .ok (.aload_n 0, 1) := by decide +kernel
theorem dX12_readLawLine_82 : decode cX12_readLawLine 82 = .ok (.iconst 0, 1) := by decide +kernel
theorem dX12_readLawLine_83 : decode cX12_readLawLine 83 = .ok (.putfield 206, 3) := by decide +kernel
theorem dX12_readLawLine_86 : decode cX12_readLawLine 86 = .ok (.aload_n 0, 1) := by decide +kernel
theorem dX12_readLawLine_87 : decode cX12_readLawLine 87 = .ok (.ldc 235, 2) := by decide +kernel
theorem dX12_readLawLine_89 : decode cX12_readLawLine 89 = .ok (.invokevirtual 214, 3) := by decide +kernel
theorem dX12_readLawLine_92 : decode cX12_readLawLine 92 = .ok (.ifCond .eq 12, 3) := by decide +kernel
theorem dX12_readLawLine_95 : decode cX12_readLawLine 95 = .ok (.aload_n 0, 1) := by decide +kernel
theorem dX12_readLawLine_96 : decode cX12_readLawLine 96 = .ok (.invokevirtual 209, 3) := by decide +kernel
theorem dX12_readLawLine_99 : decode cX12_readLawLine 99 = .ok (.ifCond .ne 5, 3) := by decide +kernel
theorem dX12_readLawLine_102 : decode cX12_readLawLine 102 = .ok (.iconst 0, 1) := by decide +kernel
theorem dX12_readLawLine_103 : decode cX12_readLawLine 103 = .ok (.ireturn, 1) := by decide +kernel
theorem dX12_readLawLine_104 : decode cX12_readLawLine 104 = .ok (.aload_n 0, 1) := by decide +kernel
theorem dX12_readLawLine_105 : decode cX12_readLawLine 105 = .ok (.getfield 13, 3) := by decide +kernel
theorem dX12_readLawLine_108 : decode cX12_readLawLine 108 = .ok (.iload_n 2, 1) := by decide +kernel
theorem dX12_readLawLine_109 : decode cX12_readLawLine 109 = .ok (.iconst 3, 1) := by decide +kernel
theorem dX12_readLawLine_110 : decode cX12_readLawLine 110 = .ok (.iadd, 1) := by decide +kernel
theorem dX12_readLawLine_111 : decode cX12_readLawLine 111 = .ok (.aload_n 0, 1) := by decide +kernel
theorem dX12_readLawLine_112 : decode cX12_readLawLine 112 = .ok (.getfield 186, 3) := by decide +kernel
theorem dX12_readLawLine_115 : decode cX12_readLawLine 115 = .ok (.iastore, 1) := by decide +kernel
theorem dX12_readLawLine_116 : decode cX12_readLawLine 116 = .ok (.iconst 1, 1) := by decide +kernel
theorem dX12_readLawLine_117 : decode cX12_readLawLine 117 = .ok (.ireturn, 1) := by decide +kernel
theorem dX12_readLine_0 : decode cX12_readLine 0 = .ok (.aload_n 0, 1) := by decide +kernel
theorem dX12_readLine_1 : decode cX12_readLine 1 = .ok (.invokevirtual 122, 3) := by decide +kernel
theorem dX12_readLine_4 : decode cX12_readLine 4 = .ok (.iload_n 2, 1) := by decide +kernel
theorem dX12_readLine_5 : decode cX12_readLine 5 = .ok (.iload_n 1, 1) := by decide +kernel
theorem dX12_readLine_6 : decode cX12_readLine 6 = .ok (.ifCond .eq 8, 3) := by decide +kernel
theorem dX12_readLine_9 : decode cX12_readLine 9 = .ok (.bipush 14, 2) := by decide +kernel
theorem dX12_readLine_11 : decode cX12_readLine 11 = .ok (.goto 5, 3) := by decide +kernel
theorem dX12_readLine_14 : decode cX12_readLine 14 = .ok (.bipush 12, 2) := by decide +kernel
theorem dX12_readLine_16 : decode cX12_readLine 16 = .ok (.if_icmp .ge 29, 3) := by decide +kernel
theorem dX12_readLine_19 : decode cX12_readLine 19 = .ok (.iload_n 1, 1) := by decide +kernel
theorem dX12_readLine_20 : decode cX12_readLine 20 = .ok (.ifCond .eq 13, 3) := by decide +kernel
theorem dX12_readLine_23 : decode cX12_readLine 23 = .ok (.aload_n 0, 1) := by decide +kernel
theorem dX12_readLine_24 : decode cX12_readLine 24 = .ok (.invokevirtual 237, 3) := by decide +kernel
theorem dX12_readLine_27 : decode cX12_readLine 27 = .ok (.ifCond .eq 18, 3) := by decide +kernel
theorem dX12_readLine_30 : decode cX12_readLine 30 = .ok (.goto 11, 3) := by decide +kernel
theorem dX12_readLine_33 : decode cX12_readLine 33 = .ok (.aload_n 0, 1) := by decide +kernel
theorem dX12_readLine_34 : decode cX12_readLine 34 = .ok (.iload_n 2, 1) := by decide +kernel
theorem dX12_readLine_35 : decode cX12_readLine 35 = .ok (.invokevirtual 240, 3) := by decide +kernel
theorem dX12_readLine_38 : decode cX12_readLine 38 = .ok (.ifCond .eq 7, 3) := by decide +kernel
theorem dX12_readLine_41 : decode cX12_readLine 41 = .ok (.iconst 1, 1) := by decide +kernel
theorem dX12_readLine_42 : decode cX12_readLine 42 = .ok (.goto 4, 3) := by decide +kernel
theorem dX12_readLine_45 : decode cX12_readLine 45 = .ok (.iconst 0, 1) := by decide +kernel
theorem dX12_readLine_46 : decode cX12_readLine 46 = .ok (.ireturn, 1) := by decide +kernel
theorem dX12_readAll_0 : decode cX12_readAll 0 = .ok (.aload_n 0, 1) := by decide +kernel
theorem dX12_readAll_1 : decode cX12_readAll 1 = .ok (.invokevirtual 243, 3) := by decide +kernel
theorem dX12_readAll_4 : decode cX12_readAll 4 = .ok (.aload_n 0, 1) := by decide +kernel
theorem dX12_readAll_5 : decode cX12_readAll 5 = .ok (.iconst 0, 1) := by decide +kernel
theorem dX12_readAll_6 : decode cX12_readAll 6 = .ok (.putfield 186, 3) := by decide +kernel
theorem dX12_readAll_9 : decode cX12_readAll 9 = .ok (.aload_n 0, 1) := by decide +kernel
theorem dX12_readAll_10 : decode cX12_readAll 10 = .ok (.invokevirtual 110, 3) := by decide +kernel
theorem dX12_readAll_13 : decode cX12_readAll 13 = .ok (.aload_n 0, 1) := by decide +kernel
theorem dX12_readAll_14 : decode cX12_readAll 14 = .ok (.getfield 97, 3) := by decide +kernel
theorem dX12_readAll_17 : decode cX12_readAll 17 = .ok (.aload_n 0, 1) := by decide +kernel
theorem dX12_readAll_18 : decode cX12_readAll 18 = .ok (.getfield 100, 3) := by decide +kernel
theorem dX12_readAll_21 : decode cX12_readAll 21 = .ok (.if_icmp .ne 5, 3) := by decide +kernel
theorem dX12_readAll_24 : decode cX12_readAll 24 = .ok (.iconst 0, 1) := by decide +kernel
theorem dX12_readAll_25 : decode cX12_readAll 25 = .ok (.ireturn, 1) := by decide +kernel
theorem dX12_readAll_26 : decode cX12_readAll 26 = .ok (.iconst 0, 1) := by decide +kernel
theorem dX12_readAll_27 : decode cX12_readAll 27 = .ok (.istore_n 2, 1) := by decide +kernel
theorem dX12_readAll_28 : decode cX12_readAll 28 = .ok (.aload_n 0, 1) := by decide +kernel
theorem dX12_readAll_29 : decode cX12_readAll 29 = .ok (.iload_n 1, 1) := by decide +kernel
theorem dX12_readAll_30 : decode cX12_readAll 30 = .ok (.iload_n 2, 1) := by decide +kernel
theorem dX12_readAll_31 : decode cX12_readAll 31 = .ok (.invokevirtual 246, 3) := by decide +kernel
theorem dX12_readAll_34 : decode cX12_readAll 34 = .ok (.ifCond .ne 5, 3) := by decide +kernel
theorem dX12_readAll_37 : decode cX12_readAll 37 = .ok (.iconst (-1), 1) := by decide +kernel
theorem dX12_readAll_38 : decode cX12_readAll 38 = .ok (.ireturn, 1) := by decide +kernel
theorem dX12_readAll_39 : decode cX12_readAll 39 = .ok (.aload_n 0, 1) := by decide +kernel
theorem dX12_readAll_40 : decode cX12_readAll 40 = .ok (.invokevirtual 110, 3) := by decide +kernel
theorem dX12_readAll_43 : decode cX12_readAll 43 = .ok (.aload_n 0, 1) := by decide +kernel
theorem dX12_readAll_44 : decode cX12_readAll 44 = .ok (.getfield 97, 3) := by decide +kernel
theorem dX12_readAll_47 : decode cX12_readAll 47 = .ok (.aload_n 0, 1) := by decide +kernel
theorem dX12_readAll_48 : decode cX12_readAll 48 = .ok (.getfield 100, 3) := by decide +kernel
theorem dX12_readAll_51 : decode cX12_readAll 51 = .ok (.if_icmp .ne 7, 3) := by decide +kernel
theorem dX12_readAll_54 : decode cX12_readAll 54 = .ok (.iload_n 2, 1) := by decide +kernel
theorem dX12_readAll_55 : decode cX12_readAll 55 = .ok (.iconst 1, 1) := by decide +kernel
theorem dX12_readAll_56 : decode cX12_readAll 56 = .ok (.iadd, 1) := by decide +kernel
theorem dX12_readAll_57 : decode cX12_readAll 57 = .ok (.ireturn, 1) := by decide +kernel
theorem dX12_readAll_58 : decode cX12_readAll 58 = .ok (.aload_n 0, 1) := by decide +kernel
theorem dX12_readAll_59 : decode cX12_readAll 59 = .ok (.bipush 59, 2) := by decide +kernel
theorem dX12_readAll_61 : decode cX12_readAll 61 = .ok (.bipush 59, 2) := by decide +kernel
theorem dX12_readAll_63 : decode cX12_readAll 63 = .ok (.invokevirtual 103, 3) := by decide +kernel
theorem dX12_readAll_66 : decode cX12_readAll 66 = .ok (.ifCond .ne 5, 3) := by decide +kernel
theorem dX12_readAll_69 : decode cX12_readAll 69 = .ok (.iconst (-1), 1) := by decide +kernel
theorem dX12_readAll_70 : decode cX12_readAll 70 = .ok (.ireturn, 1) := by decide +kernel
theorem dX12_readAll_71 : decode cX12_readAll 71 = .ok (.aload_n 0, 1) := by decide +kernel
theorem dX12_readAll_72 : decode cX12_readAll 72 = .ok (.dup, 1) := by decide +kernel
theorem dX12_readAll_73 : decode cX12_readAll 73 = .ok (.getfield 97, 3) := by decide +kernel
theorem dX12_readAll_76 : decode cX12_readAll 76 = .ok (.iconst 1, 1) := by decide +kernel
theorem dX12_readAll_77 : decode cX12_readAll 77 = .ok (.iadd, 1) := by decide +kernel
theorem dX12_readAll_78 : decode cX12_readAll 78 = .ok (.putfield 97, 3) := by decide +kernel
theorem dX12_readAll_81 : decode cX12_readAll 81 = .ok (.iinc 2 1, 3) := by decide +kernel
theorem dX12_readAll_84 : decode cX12_readAll 84 = .ok (.goto (-56), 3) := by decide +kernel
theorem dX12_post_0 : decode cX12_post 0 = .ok (.iconst 0, 1) := by decide +kernel
theorem dX12_post_1 : decode cX12_post 1 = .ok (.istore_n 1, 1) := by decide +kernel
theorem dX12_post_2 : decode cX12_post 2 = .ok (.iload_n 1, 1) := by decide +kernel
theorem dX12_post_3 : decode cX12_post 3 = .ok (.sipush 1309, 3) := by decide +kernel
theorem dX12_post_6 : decode cX12_post 6 = .ok (.if_icmp .ge 21, 3) := by decide +kernel
theorem dX12_post_9 : decode cX12_post 9 = .ok (.aload_n 0, 1) := by decide +kernel
theorem dX12_post_10 : decode cX12_post 10 = .ok (.getfield 20, 3) := by decide +kernel
theorem dX12_post_13 : decode cX12_post 13 = .ok (.iload_n 1, 1) := by decide +kernel
theorem dX12_post_14 : decode cX12_post 14 = .ok (.aload_n 0, 1) := by decide +kernel
theorem dX12_post_15 : decode cX12_post 15 = .ok (.getfield 13, 3) := by decide +kernel
theorem dX12_post_18 : decode cX12_post 18 = .ok (.iload_n 1, 1) := by decide +kernel
theorem dX12_post_19 : decode cX12_post 19 = .ok (.iaload, 1) := by decide +kernel
theorem dX12_post_20 : decode cX12_post 20 = .ok (.iastore, 1) := by decide +kernel
theorem dX12_post_21 : decode cX12_post 21 = .ok (.iinc 1 1, 3) := by decide +kernel
theorem dX12_post_24 : decode cX12_post 24 = .ok (.goto (-22), 3) := by decide +kernel
theorem dX12_post_27 : decode cX12_post 27 = .ok (.aload_n 0, 1) := by decide +kernel
theorem dX12_post_28 : decode cX12_post 28 = .ok (.iconst 1, 1) := by decide +kernel
theorem dX12_post_29 : decode cX12_post 29 = .ok (.invokevirtual 250, 3) := by decide +kernel
theorem dX12_post_32 : decode cX12_post 32 = .ok (.istore_n 1, 1) := by decide +kernel
theorem dX12_post_33 : decode cX12_post 33 = .ok (.aload_n 0, 1) := by decide +kernel
theorem dX12_post_34 : decode cX12_post 34 = .ok (.iload_n 1, 1) := by decide +kernel
theorem dX12_post_35 : decode cX12_post 35 = .ok (.ifCond .ge 10, 3) := by decide +kernel
theorem dX12_post_38 : decode cX12_post 38 = .ok (.aload_n 0, 1) := by decide +kernel
theorem dX12_post_39 : decode cX12_post 39 = .ok (.getfield 107, 3) := by decide +kernel
theorem dX12_post_42 : decode cX12_post 42 = .ok (.goto 4, 3) := by decide +kernel
theorem dX12_post_45 : decode cX12_post 45 = .ok (.iconst (-1), 1) := by decide +kernel
theorem dX12_post_46 : decode cX12_post 46 = .ok (.putfield 33, 3) := by decide +kernel
theorem dX12_post_49 : decode cX12_post 49 = .ok (.aload_n 0, 1) := by decide +kernel
theorem dX12_post_50 : decode cX12_post 50 = .ok (.iload_n 1, 1) := by decide +kernel
theorem dX12_post_51 : decode cX12_post 51 = .ok (.ifCond .ge 7, 3) := by decide +kernel
theorem dX12_post_54 : decode cX12_post 54 = .ok (.iconst 1, 1) := by decide +kernel
theorem dX12_post_55 : decode cX12_post 55 = .ok (.goto 4, 3) := by decide +kernel
theorem dX12_post_58 : decode cX12_post 58 = .ok (.iconst 0, 1) := by decide +kernel
theorem dX12_post_59 : decode cX12_post 59 = .ok (.iconst 1, 1) := by decide +kernel
theorem dX12_post_60 : decode cX12_post 60 = .ok (.invokevirtual 254, 3) := by decide +kernel
theorem dX12_post_63 : decode cX12_post 63 = .ok (.ifCond .ne 27, 3) := by decide +kernel
theorem dX12_post_66 : decode cX12_post 66 = .ok (.aload_n 0, 1) := by decide +kernel
theorem dX12_post_67 : decode cX12_post 67 = .ok (.aload_n 0, 1) := by decide +kernel
theorem dX12_post_68 : decode cX12_post 68 = .ok (.getfield 13, 3) := by decide +kernel
theorem dX12_post_71 : decode cX12_post 71 = .ok (.iconst 2, 1) := by decide +kernel
theorem dX12_post_72 : decode cX12_post 72 = .ok (.iaload, 1) := by decide +kernel
theorem dX12_post_73 : decode cX12_post 73 = .ok (.bipush 12, 2) := by decide +kernel
theorem dX12_post_75 : decode cX12_post 75 = .ok (.if_icmp .ne 7, 3) := by decide +kernel
theorem dX12_post_78 : decode cX12_post 78 = .ok (.iconst 1, 1) := by decide +kernel
theorem dX12_post_79 : decode cX12_post 79 = .ok (.goto 4, 3) := by decide +kernel
theorem dX12_post_82 : decode cX12_post 82 = .ok (.iconst 0, 1) := by decide +kernel
theorem dX12_post_83 : decode cX12_post 83 = .ok (.iconst 2, 1) := by decide +kernel
theorem dX12_post_84 : decode cX12_post 84 = .ok (.invokevirtual 254, 3) := by decide +kernel
theorem dX12_post_87 : decode cX12_post 87 = .ok (.ifCond .eq 32, 3) := by decide +kernel
theorem dX12_post_90 : decode cX12_post 90 = .ok (.iconst 0, 1) := by decide +kernel
theorem dX12_post_91 : decode cX12_post 91 = .ok (.istore_n 2, 1) := by decide +kernel
theorem dX12_post_92 : decode cX12_post 92 = .ok (.iload_n 2, 1) := by decide +kernel
theorem dX12_post_93 : decode cX12_post 93 = .ok (.sipush 1309, 3) := by decide +kernel
theorem dX12_post_96 : decode cX12_post 96 = .ok (.if_icmp .ge 21, 3) := by decide +kernel
theorem dX12_post_99 : decode cX12_post 99 = .ok (.aload_n 0, 1) := by decide +kernel
theorem dX12_post_100 : decode cX12_post 100 = .ok (.getfield 13, 3) := by decide +kernel
theorem dX12_post_103 : decode cX12_post 103 = .ok (.iload_n 2, 1) := by decide +kernel
theorem dX12_post_104 : decode cX12_post 104 = .ok (.aload_n 0, 1) := by decide +kernel
theorem dX12_post_105 : decode cX12_post 105 = .ok (.getfield 20, 3) := by decide +kernel
theorem dX12_post_108 : decode cX12_post 108 = .ok (.iload_n 2, 1) := by decide +kernel
theorem dX12_post_109 : decode cX12_post 109 = .ok (.iaload, 1) := by decide +kernel
theorem dX12_post_110 : decode cX12_post 110 = .ok (.iastore, 1) := by decide +kernel
theorem dX12_post_111 : decode cX12_post 111 = .ok (.iinc 2 1, 3) := by decide +kernel
theorem dX12_post_114 : decode cX12_post 114 = .ok (.goto (-22), 3) := by decide +kernel
theorem dX12_post_117 : decode cX12_post 117 = .ok (.iconst 0, 1) := by decide +kernel
theorem dX12_post_118 : decode cX12_post 118 = .ok (.ireturn, 1) := by decide +kernel
theorem dX12_post_119 : decode cX12_post 119 = .ok (.aload_n 0, 1) := by decide +kernel
theorem dX12_post_120 : decode cX12_post 120 = .ok (.getfield 13, 3) := by decide +kernel
theorem dX12_post_123 : decode cX12_post 123 = .ok (.iconst 2, 1) := by decide +kernel
theorem dX12_post_124 : decode cX12_post 124 = .ok (.dup2, 1) := by decide +kernel
theorem dX12_post_125 : decode cX12_post 125 = .ok (.iaload, 1) := by decide +kernel
theorem dX12_post_126 : decode cX12_post 126 = .ok (.iconst 1, 1) := by decide +kernel
theorem dX12_post_127 : decode cX12_post 127 = .ok (.iadd, 1) := by decide +kernel
theorem dX12_post_128 : decode cX12_post 128 = .ok (.iastore, 1) := by decide +kernel
theorem dX12_post_129 : decode cX12_post 129 = .ok (.aload_n 0, 1) := by decide +kernel
theorem dX12_post_130 : decode cX12_post 130 = .ok (.iconst 0, 1) := by decide +kernel
theorem dX12_post_131 : decode cX12_post 131 = .ok (.putfield 64, 3) := by decide +kernel
theorem dX12_post_134 : decode cX12_post 134 = .ok (.aload_n 0, 1) := by decide +kernel
theorem dX12_post_135 : decode cX12_post 135 = .ok (.getfield 13, 3) := by decide +kernel
theorem dX12_post_138 : decode cX12_post 138 = .ok (.iconst 2, 1) := by decide +kernel
theorem dX12_post_139 : decode cX12_post 139 = .ok (.iaload, 1) := by decide +kernel
theorem dX12_post_140 : decode cX12_post 140 = .ok (.ireturn, 1) := by decide +kernel
theorem dX12_law_0 : decode cX12_law 0 = .ok (.aload_n 0, 1) := by decide +kernel
theorem dX12_law_1 : decode cX12_law 1 = .ok (.iconst 0, 1) := by decide +kernel
theorem dX12_law_2 : decode cX12_law 2 = .ok (.invokevirtual 250, 3) := by decide +kernel
theorem dX12_law_5 : decode cX12_law 5 = .ok (.istore_n 1, 1) := by decide +kernel
theorem dX12_law_6 : decode cX12_law 6 = .ok (.aload_n 0, 1) := by decide +kernel
theorem dX12_law_7 : decode cX12_law 7 = .ok (.iload_n 1, 1) := by decide +kernel
theorem dX12_law_8 : decode cX12_law 8 = .ok (.ifCond .ge 10, 3) := by decide +kernel
theorem dX12_law_11 : decode cX12_law 11 = .ok (.aload_n 0, 1) := by decide +kernel
theorem dX12_law_12 : decode cX12_law 12 = .ok (.getfield 107, 3) := by decide +kernel
theorem dX12_law_15 : decode cX12_law 15 = .ok (.goto 4, 3) := by decide +kernel
theorem dX12_law_18 : decode cX12_law 18 = .ok (.iconst (-1), 1) := by decide +kernel
theorem dX12_law_19 : decode cX12_law 19 = .ok (.putfield 33, 3) := by decide +kernel
theorem dX12_law_22 : decode cX12_law 22 = .ok (.aload_n 0, 1) := by decide +kernel
theorem dX12_law_23 : decode cX12_law 23 = .ok (.iload_n 1, 1) := by decide +kernel
theorem dX12_law_24 : decode cX12_law 24 = .ok (.ifCond .ge 7, 3) := by decide +kernel
theorem dX12_law_27 : decode cX12_law 27 = .ok (.iconst 1, 1) := by decide +kernel
theorem dX12_law_28 : decode cX12_law 28 = .ok (.goto 4, 3) := by decide +kernel
theorem dX12_law_31 : decode cX12_law 31 = .ok (.iconst 0, 1) := by decide +kernel
theorem dX12_law_32 : decode cX12_law 32 = .ok (.iconst 1, 1) := by decide +kernel
theorem dX12_law_33 : decode cX12_law 33 = .ok (.invokevirtual 254, 3) := by decide +kernel
theorem dX12_law_36 : decode cX12_law 36 = .ok (.ifCond .eq 5, 3) := by decide +kernel
theorem dX12_law_39 : decode cX12_law 39 = .ok (.iconst 0, 1) := by decide +kernel
theorem dX12_law_40 : decode cX12_law 40 = .ok (.ireturn, 1) := by decide +kernel
theorem dX12_law_41 : decode cX12_law 41 = .ok (.aload_n 0, 1) := by decide +kernel
theorem dX12_law_42 : decode cX12_law 42 = .ok (.getfield 13, 3) := by decide +kernel
theorem dX12_law_45 : decode cX12_law 45 = .ok (.sipush 1309, 3) := by decide +kernel
theorem dX12_law_48 : decode cX12_law 48 = .ok (.iload_n 1, 1) := by decide +kernel
theorem dX12_law_49 : decode cX12_law 49 = .ok (.iastore, 1) := by decide +kernel
theorem dX12_law_50 : decode cX12_law 50 = .ok (.iconst 0, 1) := by decide +kernel
theorem dX12_law_51 : decode cX12_law 51 = .ok (.istore_n 2, 1) := by decide +kernel
theorem dX12_law_52 : decode cX12_law 52 = .ok (.iload_n 2, 1) := by decide +kernel
theorem dX12_law_53 : decode cX12_law 53 = .ok (.sipush 849, 3) := by decide +kernel
theorem dX12_law_56 : decode cX12_law 56 = .ok (.if_icmp .ge 29, 3) := by decide +kernel
theorem dX12_law_59 : decode cX12_law 59 = .ok (.aload_n 0, 1) := by decide +kernel
theorem dX12_law_60 : decode cX12_law 60 = .ok (.getfield 13, 3) := by decide +kernel
theorem dX12_law_63 : decode cX12_law 63 = .ok (.sipush 460, 3) := by decide +kernel
theorem dX12_law_66 : decode cX12_law 66 = .ok (.iload_n 2, 1) := by decide +kernel
theorem dX12_law_67 : decode cX12_law 67 = .ok (.iadd, 1) := by decide +kernel
theorem dX12_law_68 : decode cX12_law 68 = .ok (.aload_n 0, 1) := by decide +kernel
theorem dX12_law_69 : decode cX12_law 69 = .ok (.getfield 13, 3) := by decide +kernel
theorem dX12_law_72 : decode cX12_law 72 = .ok (.sipush 1309, 3) := by decide +kernel
theorem dX12_law_75 : decode cX12_law 75 = .ok (.iload_n 2, 1) := by decide +kernel
theorem dX12_law_76 : decode cX12_law 76 = .ok (.iadd, 1) := by decide +kernel
theorem dX12_law_77 : decode cX12_law 77 = .ok (.iaload, 1) := by decide +kernel
theorem dX12_law_78 : decode cX12_law 78 = .ok (.iastore, 1) := by decide +kernel
theorem dX12_law_79 : decode cX12_law 79 = .ok (.iinc 2 1, 3) := by decide +kernel
theorem dX12_law_82 : decode cX12_law 82 = .ok (.goto (-30), 3) := by decide +kernel
theorem dX12_law_85 : decode cX12_law 85 = .ok (.aload_n 0, 1) := by decide +kernel
theorem dX12_law_86 : decode cX12_law 86 = .ok (.getfield 13, 3) := by decide +kernel
theorem dX12_law_89 : decode cX12_law 89 = .ok (.iconst 3, 1) := by decide +kernel
theorem dX12_law_90 : decode cX12_law 90 = .ok (.iconst 1, 1) := by decide +kernel
theorem dX12_law_91 : decode cX12_law 91 = .ok (.iastore, 1) := by decide +kernel
theorem dX12_law_92 : decode cX12_law 92 = .ok (.aload_n 0, 1) := by decide +kernel
theorem dX12_law_93 : decode cX12_law 93 = .ok (.iconst 0, 1) := by decide +kernel
theorem dX12_law_94 : decode cX12_law 94 = .ok (.putfield 64, 3) := by decide +kernel
theorem dX12_law_97 : decode cX12_law 97 = .ok (.iload_n 1, 1) := by decide +kernel
theorem dX12_law_98 : decode cX12_law 98 = .ok (.ireturn, 1) := by decide +kernel
theorem dX12_seasonOf_0 : decode cX12_seasonOf 0 = .ok (.iload_n 0, 1) := by decide +kernel
theorem dX12_seasonOf_1 : decode cX12_seasonOf 1 = .ok (.bipush 13, 2) := by decide +kernel
theorem dX12_seasonOf_3 : decode cX12_seasonOf 3 = .ok (.idiv, 1) := by decide +kernel
theorem dX12_seasonOf_4 : decode cX12_seasonOf 4 = .ok (.iconst 4, 1) := by decide +kernel
theorem dX12_seasonOf_5 : decode cX12_seasonOf 5 = .ok (.irem, 1) := by decide +kernel
theorem dX12_seasonOf_6 : decode cX12_seasonOf 6 = .ok (.ireturn, 1) := by decide +kernel
theorem dX12_factOf_0 : decode cX12_factOf 0 = .ok (.iload_n 1, 1) := by decide +kernel
theorem dX12_factOf_1 : decode cX12_factOf 1 = .ok (.tableswitch 130 0 7 #[47, 52, 57, 82, 87, 95, 100, 113], 47) := by decide +kernel
theorem dX12_factOf_48 : decode cX12_factOf 48 = .ok (.aload_n 0, 1) := by decide +kernel
theorem dX12_factOf_49 : decode cX12_factOf 49 = .ok (.getfield 257, 3) := by decide +kernel
theorem dX12_factOf_52 : decode cX12_factOf 52 = .ok (.ireturn, 1) := by decide +kernel
theorem dX12_factOf_53 : decode cX12_factOf 53 = .ok (.aload_n 0, 1) := by decide +kernel
theorem dX12_factOf_54 : decode cX12_factOf 54 = .ok (.getfield 260, 3) := by decide +kernel
theorem dX12_factOf_57 : decode cX12_factOf 57 = .ok (.ireturn, 1) := by decide +kernel
theorem dX12_factOf_58 : decode cX12_factOf 58 = .ok (.aload_n 0, 1) := by decide +kernel
theorem dX12_factOf_59 : decode cX12_factOf 59 = .ok (.getfield 257, 3) := by decide +kernel
theorem dX12_factOf_62 : decode cX12_factOf 62 = .ok (.iconst 2, 1) := by decide +kernel
theorem dX12_factOf_63 : decode cX12_factOf 63 = .ok (.if_icmp .ge 8, 3) := by decide +kernel
theorem dX12_factOf_66 : decode cX12_factOf 66 = .ok (.bipush 12, 2) := by decide +kernel
theorem dX12_factOf_68 : decode cX12_factOf 68 = .ok (.goto 14, 3) := by decide +kernel
theorem dX12_factOf_71 : decode cX12_factOf 71 = .ok (.aload_n 0, 1) := by decide +kernel
theorem dX12_factOf_72 : decode cX12_factOf 72 = .ok (.getfield 42, 3) := by decide +kernel
theorem dX12_factOf_75 : decode cX12_factOf 75 = .ok (.aload_n 0, 1) := by decide +kernel
theorem dX12_factOf_76 : decode cX12_factOf 76 = .ok (.getfield 257, 3) := by decide +kernel
theorem dX12_factOf_79 : decode cX12_factOf 79 = .ok (.iconst 2, 1) := by decide +kernel
theorem dX12_factOf_80 : decode cX12_factOf 80 = .ok (.isub, 1) := by decide +kernel
theorem dX12_factOf_81 : decode cX12_factOf 81 = .ok (.iaload, 1) := by decide +kernel
theorem dX12_factOf_82 : decode cX12_factOf 82 = .ok (.ireturn, 1) := by decide +kernel
theorem dX12_factOf_83 : decode cX12_factOf 83 = .ok (.aload_n 0, 1) := by decide +kernel
theorem dX12_factOf_84 : decode cX12_factOf 84 = .ok (.getfield 262, 3) := by decide +kernel
theorem dX12_factOf_87 : decode cX12_factOf 87 = .ok (.ireturn, 1) := by decide +kernel
theorem dX12_factOf_88 : decode cX12_factOf 88 = .ok (.aload_n 0, 1) := by decide +kernel
theorem dX12_factOf_89 : decode cX12_factOf 89 = .ok (.getfield 262, 3) := by decide +kernel
theorem dX12_factOf_92 : decode cX12_factOf 92 = .ok (.invokestatic 264, 3) := by decide +kernel
theorem dX12_factOf_95 : decode cX12_factOf 95 = .ok (.ireturn, 1) := by decide +kernel
theorem dX12_factOf_96 : decode cX12_factOf 96 = .ok (.aload_n 0, 1) := by decide +kernel
theorem dX12_factOf_97 : decode cX12_factOf 97 = .ok (.getfield 267, 3) := by decide +kernel
theorem dX12_factOf_100 : decode cX12_factOf 100 = .ok (.ireturn, 1) := by decide +kernel
theorem dX12_factOf_101 : decode cX12_factOf 101 = .ok (.aload_n 0, 1) := by decide +kernel
theorem dX12_factOf_102 : decode cX12_factOf 102 = .ok (.getfield 269, 3) := by decide +kernel
theorem dX12_factOf_105 : decode cX12_factOf 105 = .ok (.ifCond .eq 7, 3) := by decide +kernel
theorem dX12_factOf_108 : decode cX12_factOf 108 = .ok (.iconst 1, 1) := by decide +kernel
theorem dX12_factOf_109 : decode cX12_factOf 109 = .ok (.goto 4, 3) := by decide +kernel
theorem dX12_factOf_112 : decode cX12_factOf 112 = .ok (.iconst 0, 1) := by decide +kernel
theorem dX12_factOf_113 : decode cX12_factOf 113 = .ok (.ireturn, 1) := by decide +kernel
theorem dX12_factOf_114 : decode cX12_factOf 114 = .ok (.aload_n 0, 1) := by decide +kernel
theorem dX12_factOf_115 : decode cX12_factOf 115 = .ok (.getfield 262, 3) := by decide +kernel
theorem dX12_factOf_118 : decode cX12_factOf 118 = .ok (.invokestatic 264, 3) := by decide +kernel
theorem dX12_factOf_121 : decode cX12_factOf 121 = .ok (.iconst 3, 1) := by decide +kernel
theorem dX12_factOf_122 : decode cX12_factOf 122 = .ok (.if_icmp .ne 7, 3) := by decide +kernel
theorem dX12_factOf_125 : decode cX12_factOf 125 = .ok (.iconst 1, 1) := by decide +kernel
theorem dX12_factOf_126 : decode cX12_factOf 126 = .ok (.goto 4, 3) := by decide +kernel
theorem dX12_factOf_129 : decode cX12_factOf 129 = .ok (.iconst 0, 1) := by decide +kernel
theorem dX12_factOf_130 : decode cX12_factOf 130 = .ok (.ireturn, 1) := by decide +kernel
theorem dX12_factOf_131 : decode cX12_factOf 131 = .ok (.iload_n 2, 1) := by decide +kernel
theorem dX12_factOf_132 : decode cX12_factOf 132 = .ok (.ireturn, 1) := by decide +kernel
theorem dX12_holdsLine_0 : decode cX12_holdsLine 0 = .ok (.iconst 0, 1) := by decide +kernel
theorem dX12_holdsLine_1 : decode cX12_holdsLine 1 = .ok (.istore_n 2, 1) := by decide +kernel
theorem dX12_holdsLine_2 : decode cX12_holdsLine 2 = .ok (.sipush 461, 3) := by decide +kernel
theorem dX12_holdsLine_5 : decode cX12_holdsLine 5 = .ok (.iconst 4, 1) := by decide +kernel
theorem dX12_holdsLine_6 : decode cX12_holdsLine 6 = .ok (.iload_n 1, 1) := by decide +kernel
theorem dX12_holdsLine_7 : decode cX12_holdsLine 7 = .ok (.imul, 1) := by decide +kernel
theorem dX12_holdsLine_8 : decode cX12_holdsLine 8 = .ok (.iadd, 1) := by decide +kernel
theorem dX12_holdsLine_9 : decode cX12_holdsLine 9 = .ok (.istore_n 3, 1) := by decide +kernel
theorem dX12_holdsLine_10 : decode cX12_holdsLine 10 = .ok (.aload_n 0, 1) := by decide +kernel
theorem dX12_holdsLine_11 : decode cX12_holdsLine 11 = .ok (.getfield 13, 3) := by decide +kernel
theorem dX12_holdsLine_14 : decode cX12_holdsLine 14 = .ok (.iload_n 3, 1) := by decide +kernel
theorem dX12_holdsLine_15 : decode cX12_holdsLine 15 = .ok (.iconst 2, 1) := by decide +kernel
theorem dX12_holdsLine_16 : decode cX12_holdsLine 16 = .ok (.iadd, 1) := by decide +kernel
theorem dX12_holdsLine_17 : decode cX12_holdsLine 17 = .ok (.iaload, 1) := by decide +kernel
theorem dX12_holdsLine_18 : decode cX12_holdsLine 18 = .ok (.istore 4, 2) := by decide +kernel
theorem dX12_holdsLine_20 : decode cX12_holdsLine 20 = .ok (.iload 4, 2) := by decide +kernel
theorem dX12_holdsLine_22 : decode cX12_holdsLine 22 = .ok (.aload_n 0, 1) := by decide +kernel
theorem dX12_holdsLine_23 : decode cX12_holdsLine 23 = .ok (.getfield 13, 3) := by decide +kernel
theorem dX12_holdsLine_26 : decode cX12_holdsLine 26 = .ok (.iload_n 3, 1) := by decide +kernel
theorem dX12_holdsLine_27 : decode cX12_holdsLine 27 = .ok (.iconst 3, 1) := by decide +kernel
theorem dX12_holdsLine_28 : decode cX12_holdsLine 28 = .ok (.iadd, 1) := by decide +kernel
theorem dX12_holdsLine_29 : decode cX12_holdsLine 29 = .ok (.iaload, 1) := by decide +kernel
theorem dX12_holdsLine_30 : decode cX12_holdsLine 30 = .ok (.if_icmp .ge 229, 3) := by decide +kernel
theorem dX12_holdsLine_33 : decode cX12_holdsLine 33 = .ok (.aload_n 0, 1) := by decide +kernel
theorem dX12_holdsLine_34 : decode cX12_holdsLine 34 = .ok (.getfield 13, 3) := by decide +kernel
theorem dX12_holdsLine_37 : decode cX12_holdsLine 37 = .ok (.sipush 509, 3) := by decide +kernel
theorem dX12_holdsLine_40 : decode cX12_holdsLine 40 = .ok (.iconst 2, 1) := by decide +kernel
theorem dX12_holdsLine_41 : decode cX12_holdsLine 41 = .ok (.iload 4, 2) := by decide +kernel
theorem dX12_holdsLine_43 : decode cX12_holdsLine 43 = .ok (.imul, 1) := by decide +kernel
theorem dX12_holdsLine_44 : decode cX12_holdsLine 44 = .ok (.iadd, 1) := by decide +kernel
theorem dX12_holdsLine_45 : decode cX12_holdsLine 45 = .ok (.iaload, 1) := by decide +kernel
theorem dX12_holdsLine_46 : decode cX12_holdsLine 46 = .ok (.istore 5, 2) := by decide +kernel
theorem dX12_holdsLine_48 : decode cX12_holdsLine 48 = .ok (.iload 5, 2) := by decide +kernel
theorem dX12_holdsLine_50 : decode cX12_holdsLine 50 = .ok (.bipush 8, 2) := by decide +kernel
theorem dX12_holdsLine_52 : decode cX12_holdsLine 52 = .ok (.if_icmp .gt 36, 3) := by decide +kernel
theorem dX12_holdsLine_55 : decode cX12_holdsLine 55 = .ok (.aload_n 0, 1) := by decide +kernel
theorem dX12_holdsLine_56 : decode cX12_holdsLine 56 = .ok (.getfield 39, 3) := by decide +kernel
theorem dX12_holdsLine_59 : decode cX12_holdsLine 59 = .ok (.iload_n 2, 1) := by decide +kernel
theorem dX12_holdsLine_60 : decode cX12_holdsLine 60 = .ok (.aload_n 0, 1) := by decide +kernel
theorem dX12_holdsLine_61 : decode cX12_holdsLine 61 = .ok (.iload 5, 2) := by decide +kernel
theorem dX12_holdsLine_63 : decode cX12_holdsLine 63 = .ok (.aload_n 0, 1) := by decide +kernel
theorem dX12_holdsLine_64 : decode cX12_holdsLine 64 = .ok (.getfield 13, 3) := by decide +kernel
theorem dX12_holdsLine_67 : decode cX12_holdsLine 67 = .ok (.sipush 509, 3) := by decide +kernel
theorem dX12_holdsLine_70 : decode cX12_holdsLine 70 = .ok (.iconst 2, 1) := by decide +kernel
theorem dX12_holdsLine_71 : decode cX12_holdsLine 71 = .ok (.iload 4, 2) := by decide +kernel
theorem dX12_holdsLine_73 : decode cX12_holdsLine 73 = .ok (.imul, 1) := by decide +kernel
theorem dX12_holdsLine_74 : decode cX12_holdsLine 74 = .ok (.iadd, 1) := by decide +kernel
theorem dX12_holdsLine_75 : decode cX12_holdsLine 75 = .ok (.iconst 1, 1) := by decide +kernel
theorem dX12_holdsLine_76 : decode cX12_holdsLine 76 = .ok (.iadd, 1) := by decide +kernel
theorem dX12_holdsLine_77 : decode cX12_holdsLine 77 = .ok (.iaload, 1) := by decide +kernel
theorem dX12_holdsLine_78 : decode cX12_holdsLine 78 = .ok (.invokevirtual 271, 3) := by decide +kernel
theorem dX12_holdsLine_81 : decode cX12_holdsLine 81 = .ok (.iastore, 1) := by decide +kernel
theorem dX12_holdsLine_82 : decode cX12_holdsLine 82 = .ok (.iinc 2 1, 3) := by decide +kernel
theorem dX12_holdsLine_85 : decode cX12_holdsLine 85 = .ok (.goto 168, 3) := by decide +kernel
theorem dX12_holdsLine_88 : decode cX12_holdsLine 88 = .ok (.iload 5, 2) := by decide +kernel
theorem dX12_holdsLine_90 : decode cX12_holdsLine 90 = .ok (.bipush 12, 2) := by decide +kernel
theorem dX12_holdsLine_92 : decode cX12_holdsLine 92 = .ok (.if_icmp .ne 24, 3) := by decide +kernel
theorem dX12_holdsLine_95 : decode cX12_holdsLine 95 = .ok (.aload_n 0, 1) := by decide +kernel
theorem dX12_holdsLine_96 : decode cX12_holdsLine 96 = .ok (.getfield 39, 3) := by decide +kernel
theorem dX12_holdsLine_99 : decode cX12_holdsLine 99 = .ok (.iload_n 2, 1) := by decide +kernel
theorem dX12_holdsLine_100 : decode cX12_holdsLine 100 = .ok (.iconst 1, 1) := by decide +kernel
theorem dX12_holdsLine_101 : decode cX12_holdsLine 101 = .ok (.isub, 1) := by decide +kernel
theorem dX12_holdsLine_102 : decode cX12_holdsLine 102 = .ok (.iconst 1, 1) := by decide +kernel
theorem dX12_holdsLine_103 : decode cX12_holdsLine 103 = .ok (.aload_n 0, 1) := by decide +kernel
theorem dX12_holdsLine_104 : decode cX12_holdsLine 104 = .ok (.getfield 39, 3) := by decide +kernel
theorem dX12_holdsLine_107 : decode cX12_holdsLine 107 = .ok (.iload_n 2, 1) := by decide +kernel
theorem dX12_holdsLine_108 : decode cX12_holdsLine 108 = .ok (.iconst 1, 1) := by decide +kernel
theorem dX12_holdsLine_109 : decode cX12_holdsLine 109 = .ok (.isub, 1) := by decide +kernel
theorem dX12_holdsLine_110 : decode cX12_holdsLine 110 = .ok (.iaload, 1) := by decide +kernel
theorem dX12_holdsLine_111 : decode cX12_holdsLine 111 = .ok (.isub, 1) := by decide +kernel
theorem dX12_holdsLine_112 : decode cX12_holdsLine 112 = .ok (.iastore, 1) := by decide +kernel
theorem dX12_holdsLine_113 : decode cX12_holdsLine 113 = .ok (.goto 140, 3) := by decide +kernel
theorem dX12_holdsLine_116 : decode cX12_holdsLine 116 = .ok (.iinc 2 (-1), 3) := by decide +kernel
theorem dX12_holdsLine_119 : decode cX12_holdsLine 119 = .ok (.aload_n 0, 1) := by decide +kernel
theorem dX12_holdsLine_120 : decode cX12_holdsLine 120 = .ok (.getfield 39, 3) := by decide +kernel
theorem dX12_holdsLine_123 : decode cX12_holdsLine 123 = .ok (.iload_n 2, 1) := by decide +kernel
theorem dX12_holdsLine_124 : decode cX12_holdsLine 124 = .ok (.iconst 1, 1) := by decide +kernel
theorem dX12_holdsLine_125 : decode cX12_holdsLine 125 = .ok (.isub, 1) := by decide +kernel
theorem dX12_holdsLine_126 : decode cX12_holdsLine 126 = .ok (.iaload, 1) := by decide +kernel
theorem dX12_holdsLine_127 : decode cX12_holdsLine 127 = .ok (.istore 6, 2) := by decide +kernel
theorem dX12_holdsLine_129 : decode cX12_holdsLine 129 = .ok (.aload_n 0, 1) := by decide +kernel
theorem dX12_holdsLine_130 : decode cX12_holdsLine 130 = .ok (.getfield 39, 3) := by decide +kernel
theorem dX12_holdsLine_133 : decode cX12_holdsLine 133 = .ok (.iload_n 2, 1) := by decide +kernel
theorem dX12_holdsLine_134 : decode cX12_holdsLine 134 = .ok (.iaload, 1) := by decide +kernel
theorem dX12_holdsLine_135 : decode cX12_holdsLine 135 = .ok (.istore 7, 2) := by decide +kernel
theorem dX12_holdsLine_137 : decode cX12_holdsLine 137 = .ok (.iload 5, 2) := by decide +kernel
theorem dX12_holdsLine_139 : decode cX12_holdsLine 139 = .ok (.bipush 10, 2) := by decide +kernel
theorem dX12_holdsLine_141 : decode cX12_holdsLine 141 = .ok (.if_icmp .ne 18, 3) := by decide +kernel
theorem dX12_holdsLine_144 : decode cX12_holdsLine 144 = .ok (.iload 6, 2) := by decide +kernel
theorem dX12_holdsLine_146 : decode cX12_holdsLine 146 = .ok (.iload 7, 2) := by decide +kernel
theorem dX12_holdsLine_148 : decode cX12_holdsLine 148 = .ok (.if_icmp .ge 7, 3) := by decide +kernel
theorem dX12_holdsLine_151 : decode cX12_holdsLine 151 = .ok (.iconst 1, 1) := by decide +kernel
theorem dX12_holdsLine_152 : decode cX12_holdsLine 152 = .ok (.goto 66, 3) := by decide +kernel
theorem dX12_holdsLine_155 : decode cX12_holdsLine 155 = .ok (.iconst 0, 1) := by decide +kernel
theorem dX12_holdsLine_156 : decode cX12_holdsLine 156 = .ok (.goto 62, 3) := by decide +kernel
theorem dX12_holdsLine_159 : decode cX12_holdsLine 159 = .ok (.iload 5, 2) := by decide +kernel
theorem dX12_holdsLine_161 : decode cX12_holdsLine 161 = .ok (.bipush 11, 2) := by decide +kernel
theorem dX12_holdsLine_163 : decode cX12_holdsLine 163 = .ok (.if_icmp .ne 18, 3) := by decide +kernel
theorem dX12_holdsLine_166 : decode cX12_holdsLine 166 = .ok (.iload 6, 2) := by decide +kernel
theorem dX12_holdsLine_168 : decode cX12_holdsLine 168 = .ok (.iload 7, 2) := by decide +kernel
theorem dX12_holdsLine_170 : decode cX12_holdsLine 170 = .ok (.if_icmp .le 7, 3) := by decide +kernel
theorem dX12_holdsLine_173 : decode cX12_holdsLine 173 = .ok (.iconst 1, 1) := by decide +kernel
theorem dX12_holdsLine_174 : decode cX12_holdsLine 174 = .ok (.goto 44, 3) := by decide +kernel
theorem dX12_holdsLine_177 : decode cX12_holdsLine 177 = .ok (.iconst 0, 1) := by decide +kernel
theorem dX12_holdsLine_178 : decode cX12_holdsLine 178 = .ok (.goto 40, 3) := by decide +kernel
theorem dX12_holdsLine_181 : decode cX12_holdsLine 181 = .ok (.iload 5, 2) := by decide +kernel
theorem dX12_holdsLine_183 : decode cX12_holdsLine 183 = .ok (.bipush 13, 2) := by decide +kernel
theorem dX12_holdsLine_185 : decode cX12_holdsLine 185 = .ok (.if_icmp .ne 20, 3) := by decide +kernel
theorem dX12_holdsLine_188 : decode cX12_holdsLine 188 = .ok (.iload 6, 2) := by decide +kernel
theorem dX12_holdsLine_190 : decode cX12_holdsLine 190 = .ok (.iload 7, 2) := by decide +kernel
theorem dX12_holdsLine_192 : decode cX12_holdsLine 192 = .ok (.iadd, 1) := by decide +kernel
theorem dX12_holdsLine_193 : decode cX12_holdsLine 193 = .ok (.iconst 2, 1) := by decide +kernel
theorem dX12_holdsLine_194 : decode cX12_holdsLine 194 = .ok (.if_icmp .ne 7, 3) := by decide +kernel
theorem dX12_holdsLine_197 : decode cX12_holdsLine 197 = .ok (.iconst 1, 1) := by decide +kernel
theorem dX12_holdsLine_198 : decode cX12_holdsLine 198 = .ok (.goto 20, 3) := by decide +kernel
theorem dX12_holdsLine_201 : decode cX12_holdsLine 201 = .ok (.iconst 0, 1) := by decide +kernel
theorem dX12_holdsLine_202 : decode cX12_holdsLine 202 = .ok (.goto 16, 3) := by decide +kernel
theorem dX12_holdsLine_205 : decode cX12_holdsLine 205 = .ok (.iload 6, 2) := by decide +kernel
theorem dX12_holdsLine_207 : decode cX12_holdsLine 207 = .ok (.iload 7, 2) := by decide +kernel
theorem dX12_holdsLine_209 : decode cX12_holdsLine 209 = .ok (.iadd, 1) := by decide +kernel
theorem dX12_holdsLine_210 : decode cX12_holdsLine 210 = .ok (.ifCond .le 7, 3) := by decide +kernel
theorem dX12_holdsLine_213 : decode cX12_holdsLine 213 = .ok (.iconst 1, 1) := by decide +kernel
theorem dX12_holdsLine_214 : decode cX12_holdsLine 214 = .ok (.goto 4, 3) := by decide +kernel
theorem dX12_holdsLine_217 : decode cX12_holdsLine 217 = .ok (.iconst 0, 1) := by decide +kernel
theorem dX12_holdsLine_218 : decode cX12_holdsLine 218 = .ok (.istore 8, 2) := by decide +kernel
theorem dX12_holdsLine_220 : decode cX12_holdsLine 220 = .ok (.aload_n 0, 1) := by decide +kernel
theorem dX12_holdsLine_221 : decode cX12_holdsLine 221 = .ok (.getfield 39, 3) := by decide +kernel
theorem dX12_holdsLine_224 : decode cX12_holdsLine 224 = .ok (.iload_n 2, 1) := by decide +kernel
theorem dX12_holdsLine_225 : decode cX12_holdsLine 225 = .ok (.iconst 1, 1) := by decide +kernel
theorem dX12_holdsLine_226 : decode cX12_holdsLine 226 = .ok (.isub, 1) := by decide +kernel
theorem dX12_holdsLine_227 : decode cX12_holdsLine 227 = .ok (.iload 5, 2) := by decide +kernel
theorem dX12_holdsLine_229 : decode cX12_holdsLine 229 = .ok (.bipush 9, 2) := by decide +kernel
theorem dX12_holdsLine_231 : decode cX12_holdsLine 231 = .ok (.if_icmp .ne 11, 3) := by decide +kernel
theorem dX12_holdsLine_234 : decode cX12_holdsLine 234 = .ok (.iload 6, 2) := by decide +kernel
theorem dX12_holdsLine_236 : decode cX12_holdsLine 236 = .ok (.iload 7, 2) := by decide +kernel
theorem dX12_holdsLine_238 : decode cX12_holdsLine 238 = .ok (.iadd, 1) := by decide +kernel
theorem dX12_holdsLine_239 : decode cX12_holdsLine 239 = .ok (.goto 13, 3) := by decide +kernel
theorem dX12_holdsLine_242 : decode cX12_holdsLine 242 = .ok (.iload 8, 2) := by decide +kernel
theorem dX12_holdsLine_244 : decode cX12_holdsLine 244 = .ok (.ifCond .eq 7, 3) := by decide +kernel
theorem dX12_holdsLine_247 : decode cX12_holdsLine 247 = .ok (.iconst 1, 1) := by decide +kernel
theorem dX12_holdsLine_248 : decode cX12_holdsLine 248 = .ok (.goto 4, 3) := by decide +kernel
theorem dX12_holdsLine_251 : decode cX12_holdsLine 251 = .ok (.iconst 0, 1) := by decide +kernel
theorem dX12_holdsLine_252 : decode cX12_holdsLine 252 = .ok (.iastore, 1) := by decide +kernel
theorem dX12_holdsLine_253 : decode cX12_holdsLine 253 = .ok (.iinc 4 1, 3) := by decide +kernel
theorem dX12_holdsLine_256 : decode cX12_holdsLine 256 = .ok (.goto (-236), 3) := by decide +kernel
theorem dX12_holdsLine_259 : decode cX12_holdsLine 259 = .ok (.iload_n 2, 1) := by decide +kernel
theorem dX12_holdsLine_260 : decode cX12_holdsLine 260 = .ok (.ifCond .eq 13, 3) := by decide +kernel
theorem dX12_holdsLine_263 : decode cX12_holdsLine 263 = .ok (.aload_n 0, 1) := by decide +kernel
theorem dX12_holdsLine_264 : decode cX12_holdsLine 264 = .ok (.getfield 39, 3) := by decide +kernel
theorem dX12_holdsLine_267 : decode cX12_holdsLine 267 = .ok (.iconst 0, 1) := by decide +kernel
theorem dX12_holdsLine_268 : decode cX12_holdsLine 268 = .ok (.iaload, 1) := by decide +kernel
theorem dX12_holdsLine_269 : decode cX12_holdsLine 269 = .ok (.iconst 1, 1) := by decide +kernel
theorem dX12_holdsLine_270 : decode cX12_holdsLine 270 = .ok (.if_icmp .ne 7, 3) := by decide +kernel
theorem dX12_holdsLine_273 : decode cX12_holdsLine 273 = .ok (.iconst 1, 1) := by decide +kernel
theorem dX12_holdsLine_274 : decode cX12_holdsLine 274 = .ok (.goto 4, 3) := by decide +kernel
theorem dX12_holdsLine_277 : decode cX12_holdsLine 277 = .ok (.iconst 0, 1) := by decide +kernel
theorem dX12_holdsLine_278 : decode cX12_holdsLine 278 = .ok (.ireturn, 1) := by decide +kernel
theorem dX12_lawLines_0 : decode cX12_lawLines 0 = .ok (.aload_n 0, 1) := by decide +kernel
theorem dX12_lawLines_1 : decode cX12_lawLines 1 = .ok (.getfield 13, 3) := by decide +kernel
theorem dX12_lawLines_4 : decode cX12_lawLines 4 = .ok (.iconst 3, 1) := by decide +kernel
theorem dX12_lawLines_5 : decode cX12_lawLines 5 = .ok (.iaload, 1) := by decide +kernel
theorem dX12_lawLines_6 : decode cX12_lawLines 6 = .ok (.iconst 1, 1) := by decide +kernel
theorem dX12_lawLines_7 : decode cX12_lawLines 7 = .ok (.if_icmp .ne 14, 3) := by decide +kernel
theorem dX12_lawLines_10 : decode cX12_lawLines 10 = .ok (.aload_n 0, 1) := by decide +kernel
theorem dX12_lawLines_11 : decode cX12_lawLines 11 = .ok (.getfield 13, 3) := by decide +kernel
theorem dX12_lawLines_14 : decode cX12_lawLines 14 = .ok (.sipush 460, 3) := by decide +kernel
theorem dX12_lawLines_17 : decode cX12_lawLines 17 = .ok (.iaload, 1) := by decide +kernel
theorem dX12_lawLines_18 : decode cX12_lawLines 18 = .ok (.goto 4, 3) := by decide +kernel
theorem dX12_lawLines_21 : decode cX12_lawLines 21 = .ok (.iconst 0, 1) := by decide +kernel
theorem dX12_lawLines_22 : decode cX12_lawLines 22 = .ok (.ireturn, 1) := by decide +kernel
theorem dX12_lawFrom_0 : decode cX12_lawFrom 0 = .ok (.aload_n 0, 1) := by decide +kernel
theorem dX12_lawFrom_1 : decode cX12_lawFrom 1 = .ok (.getfield 13, 3) := by decide +kernel
theorem dX12_lawFrom_4 : decode cX12_lawFrom 4 = .ok (.sipush 461, 3) := by decide +kernel
theorem dX12_lawFrom_7 : decode cX12_lawFrom 7 = .ok (.iconst 4, 1) := by decide +kernel
theorem dX12_lawFrom_8 : decode cX12_lawFrom 8 = .ok (.iload_n 1, 1) := by decide +kernel
theorem dX12_lawFrom_9 : decode cX12_lawFrom 9 = .ok (.imul, 1) := by decide +kernel
theorem dX12_lawFrom_10 : decode cX12_lawFrom 10 = .ok (.iadd, 1) := by decide +kernel
theorem dX12_lawFrom_11 : decode cX12_lawFrom 11 = .ok (.iaload, 1) := by decide +kernel
theorem dX12_lawFrom_12 : decode cX12_lawFrom 12 = .ok (.ireturn, 1) := by decide +kernel
theorem dX12_lawTo_0 : decode cX12_lawTo 0 = .ok (.aload_n 0, 1) := by decide +kernel
theorem dX12_lawTo_1 : decode cX12_lawTo 1 = .ok (.getfield 13, 3) := by decide +kernel
theorem dX12_lawTo_4 : decode cX12_lawTo 4 = .ok (.sipush 461, 3) := by decide +kernel
theorem dX12_lawTo_7 : decode cX12_lawTo 7 = .ok (.iconst 4, 1) := by decide +kernel
theorem dX12_lawTo_8 : decode cX12_lawTo 8 = .ok (.iload_n 1, 1) := by decide +kernel
theorem dX12_lawTo_9 : decode cX12_lawTo 9 = .ok (.imul, 1) := by decide +kernel
theorem dX12_lawTo_10 : decode cX12_lawTo 10 = .ok (.iadd, 1) := by decide +kernel
theorem dX12_lawTo_11 : decode cX12_lawTo 11 = .ok (.iconst 1, 1) := by decide +kernel
theorem dX12_lawTo_12 : decode cX12_lawTo 12 = .ok (.iadd, 1) := by decide +kernel
theorem dX12_lawTo_13 : decode cX12_lawTo 13 = .ok (.iaload, 1) := by decide +kernel
theorem dX12_lawTo_14 : decode cX12_lawTo 14 = .ok (.ireturn, 1) := by decide +kernel
theorem dX12_follows_0 : decode cX12_follows 0 = .ok (.iconst 0, 1) := by decide +kernel
theorem dX12_follows_1 : decode cX12_follows 1 = .ok (.istore_n 1, 1) := by decide +kernel
theorem dX12_follows_2 : decode cX12_follows 2 = .ok (.iload_n 1, 1) := by decide +kernel
theorem dX12_follows_3 : decode cX12_follows 3 = .ok (.aload_n 0, 1) := by decide +kernel
theorem dX12_follows_4 : decode cX12_follows 4 = .ok (.invokevirtual 274, 3) := by decide +kernel
theorem dX12_follows_7 : decode cX12_follows 7 = .ok (.if_icmp .ge 42, 3) := by decide +kernel
theorem dX12_follows_10 : decode cX12_follows 10 = .ok (.aload_n 0, 1) := by decide +kernel
theorem dX12_follows_11 : decode cX12_follows 11 = .ok (.iload_n 1, 1) := by decide +kernel
theorem dX12_follows_12 : decode cX12_follows 12 = .ok (.invokevirtual 277, 3) := by decide +kernel
theorem dX12_follows_15 : decode cX12_follows 15 = .ok (.aload_n 0, 1) := by decide +kernel
theorem dX12_follows_16 : decode cX12_follows 16 = .ok (.getfield 42, 3) := by decide +kernel
theorem dX12_follows_19 : decode cX12_follows 19 = .ok (.aload_n 0, 1) := by decide +kernel
theorem dX12_follows_20 : decode cX12_follows 20 = .ok (.getfield 257, 3) := by decide +kernel
theorem dX12_follows_23 : decode cX12_follows 23 = .ok (.iconst 1, 1) := by decide +kernel
theorem dX12_follows_24 : decode cX12_follows 24 = .ok (.isub, 1) := by decide +kernel
theorem dX12_follows_25 : decode cX12_follows 25 = .ok (.iaload, 1) := by decide +kernel
theorem dX12_follows_26 : decode cX12_follows 26 = .ok (.if_icmp .ne 17, 3) := by decide +kernel
theorem dX12_follows_29 : decode cX12_follows 29 = .ok (.aload_n 0, 1) := by decide +kernel
theorem dX12_follows_30 : decode cX12_follows 30 = .ok (.iload_n 1, 1) := by decide +kernel
theorem dX12_follows_31 : decode cX12_follows 31 = .ok (.invokevirtual 280, 3) := by decide +kernel
theorem dX12_follows_34 : decode cX12_follows 34 = .ok (.ifCond .eq 9, 3) := by decide +kernel
theorem dX12_follows_37 : decode cX12_follows 37 = .ok (.aload_n 0, 1) := by decide +kernel
theorem dX12_follows_38 : decode cX12_follows 38 = .ok (.iload_n 1, 1) := by decide +kernel
theorem dX12_follows_39 : decode cX12_follows 39 = .ok (.invokevirtual 283, 3) := by decide +kernel
theorem dX12_follows_42 : decode cX12_follows 42 = .ok (.ireturn, 1) := by decide +kernel
theorem dX12_follows_43 : decode cX12_follows 43 = .ok (.iinc 1 1, 3) := by decide +kernel
theorem dX12_follows_46 : decode cX12_follows 46 = .ok (.goto (-44), 3) := by decide +kernel
theorem dX12_follows_49 : decode cX12_follows 49 = .ok (.iconst (-1), 1) := by decide +kernel
theorem dX12_follows_50 : decode cX12_follows 50 = .ok (.ireturn, 1) := by decide +kernel
theorem dX12_looksAt_0 : decode cX12_looksAt 0 = .ok (.aload_n 0, 1) := by decide +kernel
theorem dX12_looksAt_1 : decode cX12_looksAt 1 = .ok (.aload_n 0, 1) := by decide +kernel
theorem dX12_looksAt_2 : decode cX12_looksAt 2 = .ok (.iload_n 1, 1) := by decide +kernel
theorem dX12_looksAt_3 : decode cX12_looksAt 3 = .ok (.invokevirtual 86, 3) := by decide +kernel
theorem dX12_looksAt_6 : decode cX12_looksAt 6 = .ok (.putfield 257, 3) := by decide +kernel
theorem dX12_looksAt_9 : decode cX12_looksAt 9 = .ok (.iconst 0, 1) := by decide +kernel
theorem dX12_looksAt_10 : decode cX12_looksAt 10 = .ok (.istore_n 2, 1) := by decide +kernel
theorem dX12_looksAt_11 : decode cX12_looksAt 11 = .ok (.iload_n 2, 1) := by decide +kernel
theorem dX12_looksAt_12 : decode cX12_looksAt 12 = .ok (.aload_n 0, 1) := by decide +kernel
theorem dX12_looksAt_13 : decode cX12_looksAt 13 = .ok (.getfield 257, 3) := by decide +kernel
theorem dX12_looksAt_16 : decode cX12_looksAt 16 = .ok (.if_icmp .ge 21, 3) := by decide +kernel
theorem dX12_looksAt_19 : decode cX12_looksAt 19 = .ok (.aload_n 0, 1) := by decide +kernel
theorem dX12_looksAt_20 : decode cX12_looksAt 20 = .ok (.getfield 42, 3) := by decide +kernel
theorem dX12_looksAt_23 : decode cX12_looksAt 23 = .ok (.iload_n 2, 1) := by decide +kernel
theorem dX12_looksAt_24 : decode cX12_looksAt 24 = .ok (.aload_n 0, 1) := by decide +kernel
theorem dX12_looksAt_25 : decode cX12_looksAt 25 = .ok (.iload_n 1, 1) := by decide +kernel
theorem dX12_looksAt_26 : decode cX12_looksAt 26 = .ok (.iload_n 2, 1) := by decide +kernel
theorem dX12_looksAt_27 : decode cX12_looksAt 27 = .ok (.invokevirtual 286, 3) := by decide +kernel
theorem dX12_looksAt_30 : decode cX12_looksAt 30 = .ok (.iastore, 1) := by decide +kernel
theorem dX12_looksAt_31 : decode cX12_looksAt 31 = .ok (.iinc 2 1, 3) := by decide +kernel
theorem dX12_looksAt_34 : decode cX12_looksAt 34 = .ok (.goto (-23), 3) := by decide +kernel
theorem dX12_looksAt_37 : decode cX12_looksAt 37 = .ok (.aload_n 0, 1) := by decide +kernel
theorem dX12_looksAt_38 : decode cX12_looksAt 38 = .ok (.aload_n 0, 1) := by decide +kernel
theorem dX12_looksAt_39 : decode cX12_looksAt 39 = .ok (.iload_n 1, 1) := by decide +kernel
theorem dX12_looksAt_40 : decode cX12_looksAt 40 = .ok (.iconst 1, 1) := by decide +kernel
theorem dX12_looksAt_41 : decode cX12_looksAt 41 = .ok (.invokevirtual 71, 3) := by decide +kernel
theorem dX12_looksAt_44 : decode cX12_looksAt 44 = .ok (.putfield 260, 3) := by decide +kernel
theorem dX12_looksAt_47 : decode cX12_looksAt 47 = .ok (.aload_n 0, 1) := by decide +kernel
theorem dX12_looksAt_48 : decode cX12_looksAt 48 = .ok (.aload_n 0, 1) := by decide +kernel
theorem dX12_looksAt_49 : decode cX12_looksAt 49 = .ok (.iload_n 1, 1) := by decide +kernel
theorem dX12_looksAt_50 : decode cX12_looksAt 50 = .ok (.iconst 2, 1) := by decide +kernel
theorem dX12_looksAt_51 : decode cX12_looksAt 51 = .ok (.invokevirtual 71, 3) := by decide +kernel
theorem dX12_looksAt_54 : decode cX12_looksAt 54 = .ok (.putfield 267, 3) := by decide +kernel
theorem dX12_looksAt_57 : decode cX12_looksAt 57 = .ok (.aload_n 0, 1) := by decide +kernel
theorem dX12_looksAt_58 : decode cX12_looksAt 58 = .ok (.aload_n 0, 1) := by decide +kernel
theorem dX12_looksAt_59 : decode cX12_looksAt 59 = .ok (.iload_n 1, 1) := by decide +kernel
theorem dX12_looksAt_60 : decode cX12_looksAt 60 = .ok (.invokevirtual 289, 3) := by decide +kernel
theorem dX12_looksAt_63 : decode cX12_looksAt 63 = .ok (.putfield 292, 3) := by decide +kernel
theorem dX12_looksAt_66 : decode cX12_looksAt 66 = .ok (.aload_n 0, 1) := by decide +kernel
theorem dX12_looksAt_67 : decode cX12_looksAt 67 = .ok (.aload_n 0, 1) := by decide +kernel
theorem dX12_looksAt_68 : decode cX12_looksAt 68 = .ok (.iload_n 1, 1) := by decide +kernel
theorem dX12_looksAt_69 : decode cX12_looksAt 69 = .ok (.iconst 4, 1) := by decide +kernel
theorem dX12_looksAt_70 : decode cX12_looksAt 70 = .ok (.invokevirtual 71, 3) := by decide +kernel
theorem dX12_looksAt_73 : decode cX12_looksAt 73 = .ok (.iconst 1, 1) := by decide +kernel
theorem dX12_looksAt_74 : decode cX12_looksAt 74 = .ok (.if_icmp .ne 7, 3) := by decide +kernel
theorem dX12_looksAt_77 : decode cX12_looksAt 77 = .ok (.iconst 1, 1) := by decide +kernel
theorem dX12_looksAt_78 : decode cX12_looksAt 78 = .ok (.goto 4, 3) := by decide +kernel
theorem dX12_looksAt_81 : decode cX12_looksAt 81 = .ok (.iconst 0, 1) := by decide +kernel
theorem dX12_looksAt_82 : decode cX12_looksAt 82 = .ok (.putfield 269, 3) := by decide +kernel
theorem dX12_looksAt_85 : decode cX12_looksAt 85 = .ok (.aload_n 0, 1) := by decide +kernel
theorem dX12_looksAt_86 : decode cX12_looksAt 86 = .ok (.aload_n 0, 1) := by decide +kernel
theorem dX12_looksAt_87 : decode cX12_looksAt 87 = .ok (.getfield 13, 3) := by decide +kernel
theorem dX12_looksAt_90 : decode cX12_looksAt 90 = .ok (.iconst 4, 1) := by decide +kernel
theorem dX12_looksAt_91 : decode cX12_looksAt 91 = .ok (.iaload, 1) := by decide +kernel
theorem dX12_looksAt_92 : decode cX12_looksAt 92 = .ok (.putfield 262, 3) := by decide +kernel
theorem dX12_looksAt_95 : decode cX12_looksAt 95 = .ok (.return_, 1) := by decide +kernel
theorem dX12_canGrow_0 : decode cX12_canGrow 0 = .ok (.aload_n 0, 1) := by decide +kernel
theorem dX12_canGrow_1 : decode cX12_canGrow 1 = .ok (.getfield 292, 3) := by decide +kernel
theorem dX12_canGrow_4 : decode cX12_canGrow 4 = .ok (.ifCond .ne 23, 3) := by decide +kernel
theorem dX12_canGrow_7 : decode cX12_canGrow 7 = .ok (.aload_n 0, 1) := by decide +kernel
theorem dX12_canGrow_8 : decode cX12_canGrow 8 = .ok (.getfield 257, 3) := by decide +kernel
theorem dX12_canGrow_11 : decode cX12_canGrow 11 = .ok (.bipush 24, 2) := by decide +kernel
theorem dX12_canGrow_13 : decode cX12_canGrow 13 = .ok (.if_icmp .ge 14, 3) := by decide +kernel
theorem dX12_canGrow_16 : decode cX12_canGrow 16 = .ok (.aload_n 0, 1) := by decide +kernel
theorem dX12_canGrow_17 : decode cX12_canGrow 17 = .ok (.invokevirtual 294, 3) := by decide +kernel
theorem dX12_canGrow_20 : decode cX12_canGrow 20 = .ok (.ifCond .lt 7, 3) := by decide +kernel
theorem dX12_canGrow_23 : decode cX12_canGrow 23 = .ok (.iconst 1, 1) := by decide +kernel
theorem dX12_canGrow_24 : decode cX12_canGrow 24 = .ok (.goto 4, 3) := by decide +kernel
theorem dX12_canGrow_27 : decode cX12_canGrow 27 = .ok (.iconst 0, 1) := by decide +kernel
theorem dX12_canGrow_28 : decode cX12_canGrow 28 = .ok (.ireturn, 1) := by decide +kernel
theorem dX12_growsOnce_0 : decode cX12_growsOnce 0 = .ok (.aload_n 0, 1) := by decide +kernel
theorem dX12_growsOnce_1 : decode cX12_growsOnce 1 = .ok (.invokevirtual 297, 3) := by decide +kernel
theorem dX12_growsOnce_4 : decode cX12_growsOnce 4 = .ok (.ifCond .ne 4, 3) := by decide +kernel
theorem dX12_growsOnce_7 : decode cX12_growsOnce 7 = .ok (.return_, 1) := by decide +kernel
theorem dX12_growsOnce_8 : decode cX12_growsOnce 8 = .ok (.aload_n 0, 1) := by decide +kernel
theorem dX12_growsOnce_9 : decode cX12_growsOnce 9 = .ok (.getfield 42, 3) := by decide +kernel
theorem dX12_growsOnce_12 : decode cX12_growsOnce 12 = .ok (.aload_n 0, 1) := by decide +kernel
theorem dX12_growsOnce_13 : decode cX12_growsOnce 13 = .ok (.getfield 257, 3) := by decide +kernel
theorem dX12_growsOnce_16 : decode cX12_growsOnce 16 = .ok (.aload_n 0, 1) := by decide +kernel
theorem dX12_growsOnce_17 : decode cX12_growsOnce 17 = .ok (.invokevirtual 294, 3) := by decide +kernel
theorem dX12_growsOnce_20 : decode cX12_growsOnce 20 = .ok (.iastore, 1) := by decide +kernel
theorem dX12_growsOnce_21 : decode cX12_growsOnce 21 = .ok (.aload_n 0, 1) := by decide +kernel
theorem dX12_growsOnce_22 : decode cX12_growsOnce 22 = .ok (.dup, 1) := by decide +kernel
theorem dX12_growsOnce_23 : decode cX12_growsOnce 23 = .ok (.getfield 257, 3) := by decide +kernel
theorem dX12_growsOnce_26 : decode cX12_growsOnce 26 = .ok (.iconst 1, 1) := by decide +kernel
theorem dX12_growsOnce_27 : decode cX12_growsOnce 27 = .ok (.iadd, 1) := by decide +kernel
theorem dX12_growsOnce_28 : decode cX12_growsOnce 28 = .ok (.putfield 257, 3) := by decide +kernel
theorem dX12_growsOnce_31 : decode cX12_growsOnce 31 = .ok (.return_, 1) := by decide +kernel
theorem dX12_goesOn_0 : decode cX12_goesOn 0 = .ok (.aload_n 0, 1) := by decide +kernel
theorem dX12_goesOn_1 : decode cX12_goesOn 1 = .ok (.invokevirtual 300, 3) := by decide +kernel
theorem dX12_goesOn_4 : decode cX12_goesOn 4 = .ok (.aload_n 0, 1) := by decide +kernel
theorem dX12_goesOn_5 : decode cX12_goesOn 5 = .ok (.getfield 269, 3) := by decide +kernel
theorem dX12_goesOn_8 : decode cX12_goesOn 8 = .ok (.ifCond .eq 7, 3) := by decide +kernel
theorem dX12_goesOn_11 : decode cX12_goesOn 11 = .ok (.aload_n 0, 1) := by decide +kernel
theorem dX12_goesOn_12 : decode cX12_goesOn 12 = .ok (.invokevirtual 300, 3) := by decide +kernel
theorem dX12_goesOn_15 : decode cX12_goesOn 15 = .ok (.aload_n 0, 1) := by decide +kernel
theorem dX12_goesOn_16 : decode cX12_goesOn 16 = .ok (.sipush 9999, 3) := by decide +kernel
theorem dX12_goesOn_19 : decode cX12_goesOn 19 = .ok (.aload_n 0, 1) := by decide +kernel
theorem dX12_goesOn_20 : decode cX12_goesOn 20 = .ok (.getfield 262, 3) := by decide +kernel
theorem dX12_goesOn_23 : decode cX12_goesOn 23 = .ok (.iconst 1, 1) := by decide +kernel
theorem dX12_goesOn_24 : decode cX12_goesOn 24 = .ok (.iadd, 1) := by decide +kernel
theorem dX12_goesOn_25 : decode cX12_goesOn 25 = .ok (.invokestatic 303, 3) := by decide +kernel
theorem dX12_goesOn_28 : decode cX12_goesOn 28 = .ok (.putfield 262, 3) := by decide +kernel
theorem dX12_goesOn_31 : decode cX12_goesOn 31 = .ok (.return_, 1) := by decide +kernel
theorem dX12_goesFor_0 : decode cX12_goesFor 0 = .ok (.iconst 0, 1) := by decide +kernel
theorem dX12_goesFor_1 : decode cX12_goesFor 1 = .ok (.istore_n 2, 1) := by decide +kernel
theorem dX12_goesFor_2 : decode cX12_goesFor 2 = .ok (.iload_n 2, 1) := by decide +kernel
theorem dX12_goesFor_3 : decode cX12_goesFor 3 = .ok (.iload_n 1, 1) := by decide +kernel
theorem dX12_goesFor_4 : decode cX12_goesFor 4 = .ok (.if_icmp .ge 13, 3) := by decide +kernel
theorem dX12_goesFor_7 : decode cX12_goesFor 7 = .ok (.aload_n 0, 1) := by decide +kernel
theorem dX12_goesFor_8 : decode cX12_goesFor 8 = .ok (.invokevirtual 308, 3) := by decide +kernel
theorem dX12_goesFor_11 : decode cX12_goesFor 11 = .ok (.iinc 2 1, 3) := by decide +kernel
theorem dX12_goesFor_14 : decode cX12_goesFor 14 = .ok (.goto (-12), 3) := by decide +kernel
theorem dX12_goesFor_17 : decode cX12_goesFor 17 = .ok (.return_, 1) := by decide +kernel
theorem dX12_looksAhead_0 : decode cX12_looksAhead 0 = .ok (.aload_n 0, 1) := by decide +kernel
theorem dX12_looksAhead_1 : decode cX12_looksAhead 1 = .ok (.iload_n 1, 1) := by decide +kernel
theorem dX12_looksAhead_2 : decode cX12_looksAhead 2 = .ok (.invokevirtual 311, 3) := by decide +kernel
theorem dX12_looksAhead_5 : decode cX12_looksAhead 5 = .ok (.aload_n 0, 1) := by decide +kernel
theorem dX12_looksAhead_6 : decode cX12_looksAhead 6 = .ok (.iload_n 2, 1) := by decide +kernel
theorem dX12_looksAhead_7 : decode cX12_looksAhead 7 = .ok (.invokevirtual 315, 3) := by decide +kernel
theorem dX12_looksAhead_10 : decode cX12_looksAhead 10 = .ok (.return_, 1) := by decide +kernel
theorem dX12_last_0 : decode cX12_last 0 = .ok (.aload_n 0, 1) := by decide +kernel
theorem dX12_last_1 : decode cX12_last 1 = .ok (.getfield 42, 3) := by decide +kernel
theorem dX12_last_4 : decode cX12_last 4 = .ok (.aload_n 0, 1) := by decide +kernel
theorem dX12_last_5 : decode cX12_last 5 = .ok (.getfield 257, 3) := by decide +kernel
theorem dX12_last_8 : decode cX12_last 8 = .ok (.iconst 1, 1) := by decide +kernel
theorem dX12_last_9 : decode cX12_last 9 = .ok (.isub, 1) := by decide +kernel
theorem dX12_last_10 : decode cX12_last 10 = .ok (.iaload, 1) := by decide +kernel
theorem dX12_last_11 : decode cX12_last 11 = .ok (.ireturn, 1) := by decide +kernel
theorem dX12_wordsNow_0 : decode cX12_wordsNow 0 = .ok (.iconst 0, 1) := by decide +kernel
theorem dX12_wordsNow_1 : decode cX12_wordsNow 1 = .ok (.istore_n 1, 1) := by decide +kernel
theorem dX12_wordsNow_2 : decode cX12_wordsNow 2 = .ok (.iconst 0, 1) := by decide +kernel
theorem dX12_wordsNow_3 : decode cX12_wordsNow 3 = .ok (.istore_n 2, 1) := by decide +kernel
theorem dX12_wordsNow_4 : decode cX12_wordsNow 4 = .ok (.iload_n 2, 1) := by decide +kernel
theorem dX12_wordsNow_5 : decode cX12_wordsNow 5 = .ok (.aload_n 0, 1) := by decide +kernel
theorem dX12_wordsNow_6 : decode cX12_wordsNow 6 = .ok (.getfield 257, 3) := by decide +kernel
theorem dX12_wordsNow_9 : decode cX12_wordsNow 9 = .ok (.if_icmp .ge 26, 3) := by decide +kernel
theorem dX12_wordsNow_12 : decode cX12_wordsNow 12 = .ok (.iload_n 1, 1) := by decide +kernel
theorem dX12_wordsNow_13 : decode cX12_wordsNow 13 = .ok (.aload_n 0, 1) := by decide +kernel
theorem dX12_wordsNow_14 : decode cX12_wordsNow 14 = .ok (.getfield 13, 3) := by decide +kernel
theorem dX12_wordsNow_17 : decode cX12_wordsNow 17 = .ok (.bipush 8, 2) := by decide +kernel
theorem dX12_wordsNow_19 : decode cX12_wordsNow 19 = .ok (.aload_n 0, 1) := by decide +kernel
theorem dX12_wordsNow_20 : decode cX12_wordsNow 20 = .ok (.getfield 42, 3) := by decide +kernel
theorem dX12_wordsNow_23 : decode cX12_wordsNow 23 = .ok (.iload_n 2, 1) := by decide +kernel
theorem dX12_wordsNow_24 : decode cX12_wordsNow 24 = .ok (.iaload, 1) := by decide +kernel
theorem dX12_wordsNow_25 : decode cX12_wordsNow 25 = .ok (.iadd, 1) := by decide +kernel
theorem dX12_wordsNow_26 : decode cX12_wordsNow 26 = .ok (.iaload, 1) := by decide +kernel
theorem dX12_wordsNow_27 : decode cX12_wordsNow 27 = .ok (.iadd, 1) := by decide +kernel
theorem dX12_wordsNow_28 : decode cX12_wordsNow 28 = .ok (.istore_n 1, 1) := by decide +kernel
theorem dX12_wordsNow_29 : decode cX12_wordsNow 29 = .ok (.iinc 2 1, 3) := by decide +kernel
theorem dX12_wordsNow_32 : decode cX12_wordsNow 32 = .ok (.goto (-28), 3) := by decide +kernel
theorem dX12_wordsNow_35 : decode cX12_wordsNow 35 = .ok (.iload_n 1, 1) := by decide +kernel
theorem dX12_wordsNow_36 : decode cX12_wordsNow 36 = .ok (.ireturn, 1) := by decide +kernel
theorem dX12_letter_0 : decode cX12_letter 0 = .ok (.aload_n 0, 1) := by decide +kernel
theorem dX12_letter_1 : decode cX12_letter 1 = .ok (.iconst 0, 1) := by decide +kernel
theorem dX12_letter_2 : decode cX12_letter 2 = .ok (.putfield 3, 3) := by decide +kernel
theorem dX12_letter_5 : decode cX12_letter 5 = .ok (.aload_n 0, 1) := by decide +kernel
theorem dX12_letter_6 : decode cX12_letter 6 = .ok (.aload_n 0, 1) := by decide +kernel
theorem dX12_letter_7 : decode cX12_letter 7 = .ok (.iload_n 1, 1) := by decide +kernel
theorem dX12_letter_8 : decode cX12_letter 8 = .ok (.invokevirtual 82, 3) := by decide +kernel
theorem dX12_letter_11 : decode cX12_letter 11 = .ok (.iconst 1, 1) := by decide +kernel
theorem dX12_letter_12 : decode cX12_letter 12 = .ok (.invokevirtual 254, 3) := by decide +kernel
theorem dX12_letter_15 : decode cX12_letter 15 = .ok (.ifCond .ne 26, 3) := by decide +kernel
theorem dX12_letter_18 : decode cX12_letter 18 = .ok (.aload_n 0, 1) := by decide +kernel
theorem dX12_letter_19 : decode cX12_letter 19 = .ok (.iload_n 2, 1) := by decide +kernel
theorem dX12_letter_20 : decode cX12_letter 20 = .ok (.iconst 0, 1) := by decide +kernel
theorem dX12_letter_21 : decode cX12_letter 21 = .ok (.bipush 7, 2) := by decide +kernel
theorem dX12_letter_23 : decode cX12_letter 23 = .ok (.invokestatic 78, 3) := by decide +kernel
theorem dX12_letter_26 : decode cX12_letter 26 = .ok (.ifCond .ne 7, 3) := by decide +kernel
theorem dX12_letter_29 : decode cX12_letter 29 = .ok (.iconst 1, 1) := by decide +kernel
theorem dX12_letter_30 : decode cX12_letter 30 = .ok (.goto 4, 3) := by decide +kernel
theorem dX12_letter_33 : decode cX12_letter 33 = .ok (.iconst 0, 1) := by decide +kernel
theorem dX12_letter_34 : decode cX12_letter 34 = .ok (.iconst 2, 1) := by decide +kernel
theorem dX12_letter_35 : decode cX12_letter 35 = .ok (.invokevirtual 254, 3) := by decide +kernel
theorem dX12_letter_38 : decode cX12_letter 38 = .ok (.ifCond .eq 5, 3) := by decide +kernel
theorem dX12_letter_41 : decode cX12_letter 41 = .ok (.iconst 0, 1) := by decide +kernel
theorem dX12_letter_42 : decode cX12_letter 42 = .ok (.ireturn, 1) := by decide +kernel
theorem dX12_letter_43 : decode cX12_letter 43 = .ok (.aload_n 0, 1) := by decide +kernel
theorem dX12_letter_44 : decode cX12_letter 44 = .ok (.iload_n 1, 1) := by decide +kernel
theorem dX12_letter_45 : decode cX12_letter 45 = .ok (.invokevirtual 311, 3) := by decide +kernel
theorem dX12_letter_48 : decode cX12_letter 48 = .ok (.iload_n 2, 1) := by decide +kernel
theorem dX12_letter_49 : decode cX12_letter 49 = .ok (.tableswitch 53 5 7 #[27, 32, 37], 27) := by decide +kernel
theorem dX12_letter_76 : decode cX12_letter 76 = .ok (.aload_n 0, 1) := by decide +kernel
theorem dX12_letter_77 : decode cX12_letter 77 = .ok (.invokevirtual 318, 3) := by decide +kernel
theorem dX12_letter_80 : decode cX12_letter 80 = .ok (.ireturn, 1) := by decide +kernel
theorem dX12_letter_81 : decode cX12_letter 81 = .ok (.aload_n 0, 1) := by decide +kernel
theorem dX12_letter_82 : decode cX12_letter 82 = .ok (.invokevirtual 321, 3) := by decide +kernel
theorem dX12_letter_85 : decode cX12_letter 85 = .ok (.ireturn, 1) := by decide +kernel
theorem dX12_letter_86 : decode cX12_letter 86 = .ok (.aload_n 0, 1) := by decide +kernel
theorem dX12_letter_87 : decode cX12_letter 87 = .ok (.invokevirtual 297, 3) := by decide +kernel
theorem dX12_letter_90 : decode cX12_letter 90 = .ok (.ifCond .eq 10, 3) := by decide +kernel
theorem dX12_letter_93 : decode cX12_letter 93 = .ok (.aload_n 0, 1) := by decide +kernel
theorem dX12_letter_94 : decode cX12_letter 94 = .ok (.invokevirtual 294, 3) := by decide +kernel
theorem dX12_letter_97 : decode cX12_letter 97 = .ok (.goto 4, 3) := by decide +kernel
theorem dX12_letter_100 : decode cX12_letter 100 = .ok (.iconst (-1), 1) := by decide +kernel
theorem dX12_letter_101 : decode cX12_letter 101 = .ok (.ireturn, 1) := by decide +kernel
theorem dX12_letter_102 : decode cX12_letter 102 = .ok (.aload_n 0, 1) := by decide +kernel
theorem dX12_letter_103 : decode cX12_letter 103 = .ok (.iload_n 1, 1) := by decide +kernel
theorem dX12_letter_104 : decode cX12_letter 104 = .ok (.iload_n 2, 1) := by decide +kernel
theorem dX12_letter_105 : decode cX12_letter 105 = .ok (.invokevirtual 71, 3) := by decide +kernel
theorem dX12_letter_108 : decode cX12_letter 108 = .ok (.ireturn, 1) := by decide +kernel
theorem dX12_line_0 : decode cX12_line 0 = .ok (.aload_n 0, 1) := by decide +kernel
theorem dX12_line_1 : decode cX12_line 1 = .ok (.iconst 0, 1) := by decide +kernel
theorem dX12_line_2 : decode cX12_line 2 = .ok (.putfield 3, 3) := by decide +kernel
theorem dX12_line_5 : decode cX12_line 5 = .ok (.aload_n 0, 1) := by decide +kernel
theorem dX12_line_6 : decode cX12_line 6 = .ok (.aload_n 0, 1) := by decide +kernel
theorem dX12_line_7 : decode cX12_line 7 = .ok (.iload_n 1, 1) := by decide +kernel
theorem dX12_line_8 : decode cX12_line 8 = .ok (.iload_n 2, 1) := by decide +kernel
theorem dX12_line_9 : decode cX12_line 9 = .ok (.invokevirtual 324, 3) := by decide +kernel
theorem dX12_line_12 : decode cX12_line 12 = .ok (.iconst 1, 1) := by decide +kernel
theorem dX12_line_13 : decode cX12_line 13 = .ok (.invokevirtual 254, 3) := by decide +kernel
theorem dX12_line_16 : decode cX12_line 16 = .ok (.ifCond .eq 7, 3) := by decide +kernel
theorem dX12_line_19 : decode cX12_line 19 = .ok (.iconst 0, 1) := by decide +kernel
theorem dX12_line_20 : decode cX12_line 20 = .ok (.goto 20, 3) := by decide +kernel
theorem dX12_line_23 : decode cX12_line 23 = .ok (.aload_n 0, 1) := by decide +kernel
theorem dX12_line_24 : decode cX12_line 24 = .ok (.iload_n 1, 1) := by decide +kernel
theorem dX12_line_25 : decode cX12_line 25 = .ok (.iload_n 3, 1) := by decide +kernel
theorem dX12_line_26 : decode cX12_line 26 = .ok (.ifCond .eq 8, 3) := by decide +kernel
theorem dX12_line_29 : decode cX12_line 29 = .ok (.bipush 29, 2) := by decide +kernel
theorem dX12_line_31 : decode cX12_line 31 = .ok (.goto 4, 3) := by decide +kernel
theorem dX12_line_34 : decode cX12_line 34 = .ok (.iconst 5, 1) := by decide +kernel
theorem dX12_line_35 : decode cX12_line 35 = .ok (.iload_n 2, 1) := by decide +kernel
theorem dX12_line_36 : decode cX12_line 36 = .ok (.iadd, 1) := by decide +kernel
theorem dX12_line_37 : decode cX12_line 37 = .ok (.invokevirtual 71, 3) := by decide +kernel
theorem dX12_line_40 : decode cX12_line 40 = .ok (.ireturn, 1) := by decide +kernel
theorem dX12_words_0 : decode cX12_words 0 = .ok (.aload_n 0, 1) := by decide +kernel
theorem dX12_words_1 : decode cX12_words 1 = .ok (.iconst 0, 1) := by decide +kernel
theorem dX12_words_2 : decode cX12_words 2 = .ok (.putfield 3, 3) := by decide +kernel
theorem dX12_words_5 : decode cX12_words 5 = .ok (.aload_n 0, 1) := by decide +kernel
theorem dX12_words_6 : decode cX12_words 6 = .ok (.iload_n 1, 1) := by decide +kernel
theorem dX12_words_7 : decode cX12_words 7 = .ok (.invokestatic 327, 3) := by decide +kernel
theorem dX12_words_10 : decode cX12_words 10 = .ok (.iconst 1, 1) := by decide +kernel
theorem dX12_words_11 : decode cX12_words 11 = .ok (.invokevirtual 254, 3) := by decide +kernel
theorem dX12_words_14 : decode cX12_words 14 = .ok (.ifCond .eq 7, 3) := by decide +kernel
theorem dX12_words_17 : decode cX12_words 17 = .ok (.iconst 0, 1) := by decide +kernel
theorem dX12_words_18 : decode cX12_words 18 = .ok (.goto 12, 3) := by decide +kernel
theorem dX12_words_21 : decode cX12_words 21 = .ok (.aload_n 0, 1) := by decide +kernel
theorem dX12_words_22 : decode cX12_words 22 = .ok (.getfield 13, 3) := by decide +kernel
theorem dX12_words_25 : decode cX12_words 25 = .ok (.bipush 8, 2) := by decide +kernel
theorem dX12_words_27 : decode cX12_words 27 = .ok (.iload_n 1, 1) := by decide +kernel
theorem dX12_words_28 : decode cX12_words 28 = .ok (.iadd, 1) := by decide +kernel
theorem dX12_words_29 : decode cX12_words 29 = .ok (.iaload, 1) := by decide +kernel
theorem dX12_words_30 : decode cX12_words 30 = .ok (.ireturn, 1) := by decide +kernel
theorem dX12_ofPromise_0 : decode cX12_ofPromise 0 = .ok (.aload_n 0, 1) := by decide +kernel
theorem dX12_ofPromise_1 : decode cX12_ofPromise 1 = .ok (.getfield 13, 3) := by decide +kernel
theorem dX12_ofPromise_4 : decode cX12_ofPromise 4 = .ok (.bipush 20, 2) := by decide +kernel
theorem dX12_ofPromise_6 : decode cX12_ofPromise 6 = .ok (.iconst 2, 1) := by decide +kernel
theorem dX12_ofPromise_7 : decode cX12_ofPromise 7 = .ok (.iload_n 1, 1) := by decide +kernel
theorem dX12_ofPromise_8 : decode cX12_ofPromise 8 = .ok (.imul, 1) := by decide +kernel
theorem dX12_ofPromise_9 : decode cX12_ofPromise 9 = .ok (.iadd, 1) := by decide +kernel
theorem dX12_ofPromise_10 : decode cX12_ofPromise 10 = .ok (.iload_n 2, 1) := by decide +kernel
theorem dX12_ofPromise_11 : decode cX12_ofPromise 11 = .ok (.ifCond .eq 7, 3) := by decide +kernel
theorem dX12_ofPromise_14 : decode cX12_ofPromise 14 = .ok (.iconst 1, 1) := by decide +kernel
theorem dX12_ofPromise_15 : decode cX12_ofPromise 15 = .ok (.goto 4, 3) := by decide +kernel
theorem dX12_ofPromise_18 : decode cX12_ofPromise 18 = .ok (.iconst 0, 1) := by decide +kernel
theorem dX12_ofPromise_19 : decode cX12_ofPromise 19 = .ok (.iadd, 1) := by decide +kernel
theorem dX12_ofPromise_20 : decode cX12_ofPromise 20 = .ok (.iaload, 1) := by decide +kernel
theorem dX12_ofPromise_21 : decode cX12_ofPromise 21 = .ok (.ireturn, 1) := by decide +kernel
theorem dX12_promise_0 : decode cX12_promise 0 = .ok (.aload_n 0, 1) := by decide +kernel
theorem dX12_promise_1 : decode cX12_promise 1 = .ok (.iconst 0, 1) := by decide +kernel
theorem dX12_promise_2 : decode cX12_promise 2 = .ok (.putfield 3, 3) := by decide +kernel
theorem dX12_promise_5 : decode cX12_promise 5 = .ok (.aload_n 0, 1) := by decide +kernel
theorem dX12_promise_6 : decode cX12_promise 6 = .ok (.aload_n 0, 1) := by decide +kernel
theorem dX12_promise_7 : decode cX12_promise 7 = .ok (.iload_n 1, 1) := by decide +kernel
theorem dX12_promise_8 : decode cX12_promise 8 = .ok (.invokevirtual 330, 3) := by decide +kernel
theorem dX12_promise_11 : decode cX12_promise 11 = .ok (.iconst 1, 1) := by decide +kernel
theorem dX12_promise_12 : decode cX12_promise 12 = .ok (.invokevirtual 254, 3) := by decide +kernel
theorem dX12_promise_15 : decode cX12_promise 15 = .ok (.ifCond .eq 7, 3) := by decide +kernel
theorem dX12_promise_18 : decode cX12_promise 18 = .ok (.iconst 0, 1) := by decide +kernel
theorem dX12_promise_19 : decode cX12_promise 19 = .ok (.goto 9, 3) := by decide +kernel
theorem dX12_promise_22 : decode cX12_promise 22 = .ok (.aload_n 0, 1) := by decide +kernel
theorem dX12_promise_23 : decode cX12_promise 23 = .ok (.iload_n 1, 1) := by decide +kernel
theorem dX12_promise_24 : decode cX12_promise 24 = .ok (.iload_n 2, 1) := by decide +kernel
theorem dX12_promise_25 : decode cX12_promise 25 = .ok (.invokevirtual 333, 3) := by decide +kernel
theorem dX12_promise_28 : decode cX12_promise 28 = .ok (.ireturn, 1) := by decide +kernel
theorem dX12_season_0 : decode cX12_season 0 = .ok (.aload_n 0, 1) := by decide +kernel
theorem dX12_season_1 : decode cX12_season 1 = .ok (.iconst 0, 1) := by decide +kernel
theorem dX12_season_2 : decode cX12_season 2 = .ok (.putfield 3, 3) := by decide +kernel
theorem dX12_season_5 : decode cX12_season 5 = .ok (.aload_n 0, 1) := by decide +kernel
theorem dX12_season_6 : decode cX12_season 6 = .ok (.iload_n 1, 1) := by decide +kernel
theorem dX12_season_7 : decode cX12_season 7 = .ok (.iconst 0, 1) := by decide +kernel
theorem dX12_season_8 : decode cX12_season 8 = .ok (.sipush 9999, 3) := by decide +kernel
theorem dX12_season_11 : decode cX12_season 11 = .ok (.invokestatic 78, 3) := by decide +kernel
theorem dX12_season_14 : decode cX12_season 14 = .ok (.ifCond .ne 7, 3) := by decide +kernel
theorem dX12_season_17 : decode cX12_season 17 = .ok (.iconst 1, 1) := by decide +kernel
theorem dX12_season_18 : decode cX12_season 18 = .ok (.goto 4, 3) := by decide +kernel
theorem dX12_season_21 : decode cX12_season 21 = .ok (.iconst 0, 1) := by decide +kernel
theorem dX12_season_22 : decode cX12_season 22 = .ok (.iconst 1, 1) := by decide +kernel
theorem dX12_season_23 : decode cX12_season 23 = .ok (.invokevirtual 254, 3) := by decide +kernel
theorem dX12_season_26 : decode cX12_season 26 = .ok (.ifCond .eq 7, 3) := by decide +kernel
theorem dX12_season_29 : decode cX12_season 29 = .ok (.iconst 0, 1) := by decide +kernel
theorem dX12_season_30 : decode cX12_season 30 = .ok (.goto 7, 3) := by decide +kernel
theorem dX12_season_33 : decode cX12_season 33 = .ok (.iload_n 1, 1) := by decide +kernel
theorem dX12_season_34 : decode cX12_season 34 = .ok (.invokestatic 264, 3) := by decide +kernel
theorem dX12_season_37 : decode cX12_season 37 = .ok (.ireturn, 1) := by decide +kernel
theorem dX12_write_0 : decode cX12_write 0 = .ok (.aload_n 0, 1) := by decide +kernel
theorem dX12_write_1 : decode cX12_write 1 = .ok (.invokevirtual 243, 3) := by decide +kernel
theorem dX12_write_4 : decode cX12_write 4 = .ok (.iload_n 1, 1) := by decide +kernel
theorem dX12_write_5 : decode cX12_write 5 = .ok (.iload_n 2, 1) := by decide +kernel
theorem dX12_write_6 : decode cX12_write 6 = .ok (.invokestatic 337, 3) := by decide +kernel
theorem dX12_write_9 : decode cX12_write 9 = .ok (.ifCond .ne 20, 3) := by decide +kernel
theorem dX12_write_12 : decode cX12_write 12 = .ok (.aload_n 0, 1) := by decide +kernel
theorem dX12_write_13 : decode cX12_write 13 = .ok (.getfield 100, 3) := by decide +kernel
theorem dX12_write_16 : decode cX12_write 16 = .ok (.iconst 1, 1) := by decide +kernel
theorem dX12_write_17 : decode cX12_write 17 = .ok (.bipush 24, 2) := by decide +kernel
theorem dX12_write_19 : decode cX12_write 19 = .ok (.invokestatic 78, 3) := by decide +kernel
theorem dX12_write_22 : decode cX12_write 22 = .ok (.ifCond .eq 7, 3) := by decide +kernel
theorem dX12_write_25 : decode cX12_write 25 = .ok (.iconst 1, 1) := by decide +kernel
theorem dX12_write_26 : decode cX12_write 26 = .ok (.goto 4, 3) := by decide +kernel
theorem dX12_write_29 : decode cX12_write 29 = .ok (.iconst 0, 1) := by decide +kernel
theorem dX12_write_30 : decode cX12_write 30 = .ok (.istore_n 3, 1) := by decide +kernel
theorem dX12_write_31 : decode cX12_write 31 = .ok (.iconst 0, 1) := by decide +kernel
theorem dX12_write_32 : decode cX12_write 32 = .ok (.istore 4, 2) := by decide +kernel
theorem dX12_write_34 : decode cX12_write 34 = .ok (.iload 4, 2) := by decide +kernel
theorem dX12_write_36 : decode cX12_write 36 = .ok (.aload_n 0, 1) := by decide +kernel
theorem dX12_write_37 : decode cX12_write 37 = .ok (.getfield 100, 3) := by decide +kernel
theorem dX12_write_40 : decode cX12_write 40 = .ok (.if_icmp .ge 32, 3) := by decide +kernel
theorem dX12_write_43 : decode cX12_write 43 = .ok (.iload_n 3, 1) := by decide +kernel
theorem dX12_write_44 : decode cX12_write 44 = .ok (.ifCond .eq 28, 3) := by decide +kernel
theorem dX12_write_47 : decode cX12_write 47 = .ok (.aload_n 0, 1) := by decide +kernel
theorem dX12_write_48 : decode cX12_write 48 = .ok (.getfield 29, 3) := by decide +kernel
theorem dX12_write_51 : decode cX12_write 51 = .ok (.iload 4, 2) := by decide +kernel
theorem dX12_write_53 : decode cX12_write 53 = .ok (.baload, 1) := by decide +kernel
theorem dX12_write_54 : decode cX12_write 54 = .ok (.invokestatic 327, 3) := by decide +kernel
theorem dX12_write_57 : decode cX12_write 57 = .ok (.ifCond .ne 7, 3) := by decide +kernel
theorem dX12_write_60 : decode cX12_write 60 = .ok (.iconst 1, 1) := by decide +kernel
theorem dX12_write_61 : decode cX12_write 61 = .ok (.goto 4, 3) := by decide +kernel
theorem dX12_write_64 : decode cX12_write 64 = .ok (.iconst 0, 1) := by decide +kernel
theorem dX12_write_65 : decode cX12_write 65 = .ok (.istore_n 3, 1) := by decide +kernel
theorem dX12_write_66 : decode cX12_write 66 = .ok (.iinc 4 1, 3) := by decide +kernel
theorem dX12_write_69 : decode cX12_write 69 = .ok (.goto (-35), 3) := by decide +kernel
theorem dX12_write_72 : decode cX12_write 72 = .ok (.aload_n 0, 1) := by decide +kernel
theorem dX12_write_73 : decode cX12_write 73 = .ok (.iload_n 3, 1) := by decide +kernel
theorem dX12_write_74 : decode cX12_write 74 = .ok (.ifCond .ne 7, 3) := by decide +kernel
theorem dX12_write_77 : decode cX12_write 77 = .ok (.iconst 1, 1) := by decide +kernel
theorem dX12_write_78 : decode cX12_write 78 = .ok (.goto 4, 3) := by decide +kernel
theorem dX12_write_81 : decode cX12_write 81 = .ok (.iconst 0, 1) := by decide +kernel
theorem dX12_write_82 : decode cX12_write 82 = .ok (.iconst 1, 1) := by decide +kernel
theorem dX12_write_83 : decode cX12_write 83 = .ok (.invokevirtual 254, 3) := by decide +kernel
theorem dX12_write_86 : decode cX12_write 86 = .ok (.ifCond .ne 25, 3) := by decide +kernel
theorem dX12_write_89 : decode cX12_write 89 = .ok (.aload_n 0, 1) := by decide +kernel
theorem dX12_write_90 : decode cX12_write 90 = .ok (.aload_n 0, 1) := by decide +kernel
theorem dX12_write_91 : decode cX12_write 91 = .ok (.invokevirtual 74, 3) := by decide +kernel
theorem dX12_write_94 : decode cX12_write 94 = .ok (.bipush 8, 2) := by decide +kernel
theorem dX12_write_96 : decode cX12_write 96 = .ok (.if_icmp .ne 7, 3) := by decide +kernel
theorem dX12_write_99 : decode cX12_write 99 = .ok (.iconst 1, 1) := by decide +kernel
theorem dX12_write_100 : decode cX12_write 100 = .ok (.goto 4, 3) := by decide +kernel
theorem dX12_write_103 : decode cX12_write 103 = .ok (.iconst 0, 1) := by decide +kernel
theorem dX12_write_104 : decode cX12_write 104 = .ok (.iconst 2, 1) := by decide +kernel
theorem dX12_write_105 : decode cX12_write 105 = .ok (.invokevirtual 254, 3) := by decide +kernel
theorem dX12_write_108 : decode cX12_write 108 = .ok (.ifCond .eq 5, 3) := by decide +kernel
theorem dX12_write_111 : decode cX12_write 111 = .ok (.iconst 0, 1) := by decide +kernel
theorem dX12_write_112 : decode cX12_write 112 = .ok (.ireturn, 1) := by decide +kernel
theorem dX12_write_113 : decode cX12_write 113 = .ok (.aload_n 0, 1) := by decide +kernel
theorem dX12_write_114 : decode cX12_write 114 = .ok (.invokevirtual 340, 3) := by decide +kernel
theorem dX12_write_117 : decode cX12_write 117 = .ok (.aload_n 0, 1) := by decide +kernel
theorem dX12_write_118 : decode cX12_write 118 = .ok (.iload_n 1, 1) := by decide +kernel
theorem dX12_write_119 : decode cX12_write 119 = .ok (.iload_n 2, 1) := by decide +kernel
theorem dX12_write_120 : decode cX12_write 120 = .ok (.invokevirtual 146, 3) := by decide +kernel
theorem dX12_write_123 : decode cX12_write 123 = .ok (.istore 4, 2) := by decide +kernel
theorem dX12_write_125 : decode cX12_write 125 = .ok (.iconst 0, 1) := by decide +kernel
theorem dX12_write_126 : decode cX12_write 126 = .ok (.istore 5, 2) := by decide +kernel
theorem dX12_write_128 : decode cX12_write 128 = .ok (.iload 5, 2) := by decide +kernel
theorem dX12_write_130 : decode cX12_write 130 = .ok (.aload_n 0, 1) := by decide +kernel
theorem dX12_write_131 : decode cX12_write 131 = .ok (.getfield 100, 3) := by decide +kernel
theorem dX12_write_134 : decode cX12_write 134 = .ok (.if_icmp .ge 22, 3) := by decide +kernel
theorem dX12_write_137 : decode cX12_write 137 = .ok (.aload_n 0, 1) := by decide +kernel
theorem dX12_write_138 : decode cX12_write 138 = .ok (.iload 4, 2) := by decide +kernel
theorem dX12_write_140 : decode cX12_write 140 = .ok (.aload_n 0, 1) := by decide +kernel
theorem dX12_write_141 : decode cX12_write 141 = .ok (.getfield 29, 3) := by decide +kernel
theorem dX12_write_144 : decode cX12_write 144 = .ok (.iload 5, 2) := by decide +kernel
theorem dX12_write_146 : decode cX12_write 146 = .ok (.baload, 1) := by decide +kernel
theorem dX12_write_147 : decode cX12_write 147 = .ok (.invokevirtual 149, 3) := by decide +kernel
theorem dX12_write_150 : decode cX12_write 150 = .ok (.iinc 5 1, 3) := by decide +kernel
theorem dX12_write_153 : decode cX12_write 153 = .ok (.goto (-25), 3) := by decide +kernel
theorem dX12_write_156 : decode cX12_write 156 = .ok (.iload 4, 2) := by decide +kernel
theorem dX12_write_158 : decode cX12_write 158 = .ok (.ireturn, 1) := by decide +kernel
theorem dX12_turns_0 : decode cX12_turns 0 = .ok (.aload_n 0, 1) := by decide +kernel
theorem dX12_turns_1 : decode cX12_turns 1 = .ok (.invokevirtual 340, 3) := by decide +kernel
theorem dX12_turns_4 : decode cX12_turns 4 = .ok (.aload_n 0, 1) := by decide +kernel
theorem dX12_turns_5 : decode cX12_turns 5 = .ok (.iload_n 1, 1) := by decide +kernel
theorem dX12_turns_6 : decode cX12_turns 6 = .ok (.iload_n 2, 1) := by decide +kernel
theorem dX12_turns_7 : decode cX12_turns 7 = .ok (.invokevirtual 71, 3) := by decide +kernel
theorem dX12_turns_10 : decode cX12_turns 10 = .ok (.iconst 1, 1) := by decide +kernel
theorem dX12_turns_11 : decode cX12_turns 11 = .ok (.if_icmp .ne 7, 3) := by decide +kernel
theorem dX12_turns_14 : decode cX12_turns 14 = .ok (.iconst 1, 1) := by decide +kernel
theorem dX12_turns_15 : decode cX12_turns 15 = .ok (.goto 4, 3) := by decide +kernel
theorem dX12_turns_18 : decode cX12_turns 18 = .ok (.iconst 0, 1) := by decide +kernel
theorem dX12_turns_19 : decode cX12_turns 19 = .ok (.istore 4, 2) := by decide +kernel
theorem dX12_turns_21 : decode cX12_turns 21 = .ok (.aload_n 0, 1) := by decide +kernel
theorem dX12_turns_22 : decode cX12_turns 22 = .ok (.getfield 13, 3) := by decide +kernel
theorem dX12_turns_25 : decode cX12_turns 25 = .ok (.iload_n 1, 1) := by decide +kernel
theorem dX12_turns_26 : decode cX12_turns 26 = .ok (.iload_n 2, 1) := by decide +kernel
theorem dX12_turns_27 : decode cX12_turns 27 = .ok (.invokestatic 67, 3) := by decide +kernel
theorem dX12_turns_30 : decode cX12_turns 30 = .ok (.iload_n 3, 1) := by decide +kernel
theorem dX12_turns_31 : decode cX12_turns 31 = .ok (.ifCond .eq 7, 3) := by decide +kernel
theorem dX12_turns_34 : decode cX12_turns 34 = .ok (.iconst 1, 1) := by decide +kernel
theorem dX12_turns_35 : decode cX12_turns 35 = .ok (.goto 4, 3) := by decide +kernel
theorem dX12_turns_38 : decode cX12_turns 38 = .ok (.iconst 0, 1) := by decide +kernel
theorem dX12_turns_39 : decode cX12_turns 39 = .ok (.iastore, 1) := by decide +kernel
theorem dX12_turns_40 : decode cX12_turns 40 = .ok (.iload 4, 2) := by decide +kernel
theorem dX12_turns_42 : decode cX12_turns 42 = .ok (.iload_n 3, 1) := by decide +kernel
theorem dX12_turns_43 : decode cX12_turns 43 = .ok (.if_icmp .eq 7, 3) := by decide +kernel
theorem dX12_turns_46 : decode cX12_turns 46 = .ok (.iconst 1, 1) := by decide +kernel
theorem dX12_turns_47 : decode cX12_turns 47 = .ok (.goto 4, 3) := by decide +kernel
theorem dX12_turns_50 : decode cX12_turns 50 = .ok (.iconst 0, 1) := by decide +kernel
theorem dX12_turns_51 : decode cX12_turns 51 = .ok (.ireturn, 1) := by decide +kernel
theorem dX12_open_0 : decode cX12_open 0 = .ok (.aload_n 0, 1) := by decide +kernel
theorem dX12_open_1 : decode cX12_open 1 = .ok (.iconst 0, 1) := by decide +kernel
theorem dX12_open_2 : decode cX12_open 2 = .ok (.putfield 3, 3) := by decide +kernel
theorem dX12_open_5 : decode cX12_open 5 = .ok (.aload_n 0, 1) := by decide +kernel
theorem dX12_open_6 : decode cX12_open 6 = .ok (.aload_n 0, 1) := by decide +kernel
theorem dX12_open_7 : decode cX12_open 7 = .ok (.iload_n 1, 1) := by decide +kernel
theorem dX12_open_8 : decode cX12_open 8 = .ok (.invokevirtual 82, 3) := by decide +kernel
theorem dX12_open_11 : decode cX12_open 11 = .ok (.iconst 1, 1) := by decide +kernel
theorem dX12_open_12 : decode cX12_open 12 = .ok (.invokevirtual 254, 3) := by decide +kernel
theorem dX12_open_15 : decode cX12_open 15 = .ok (.ifCond .ne 17, 3) := by decide +kernel
theorem dX12_open_18 : decode cX12_open 18 = .ok (.aload_n 0, 1) := by decide +kernel
theorem dX12_open_19 : decode cX12_open 19 = .ok (.iload_n 1, 1) := by decide +kernel
theorem dX12_open_20 : decode cX12_open 20 = .ok (.iconst 3, 1) := by decide +kernel
theorem dX12_open_21 : decode cX12_open 21 = .ok (.iload_n 2, 1) := by decide +kernel
theorem dX12_open_22 : decode cX12_open 22 = .ok (.invokevirtual 343, 3) := by decide +kernel
theorem dX12_open_25 : decode cX12_open 25 = .ok (.ifCond .eq 7, 3) := by decide +kernel
theorem dX12_open_28 : decode cX12_open 28 = .ok (.iconst 1, 1) := by decide +kernel
theorem dX12_open_29 : decode cX12_open 29 = .ok (.goto 4, 3) := by decide +kernel
theorem dX12_open_32 : decode cX12_open 32 = .ok (.iconst 0, 1) := by decide +kernel
theorem dX12_open_33 : decode cX12_open 33 = .ok (.ireturn, 1) := by decide +kernel
theorem dX12_heat_0 : decode cX12_heat 0 = .ok (.aload_n 0, 1) := by decide +kernel
theorem dX12_heat_1 : decode cX12_heat 1 = .ok (.iconst 0, 1) := by decide +kernel
theorem dX12_heat_2 : decode cX12_heat 2 = .ok (.putfield 3, 3) := by decide +kernel
theorem dX12_heat_5 : decode cX12_heat 5 = .ok (.aload_n 0, 1) := by decide +kernel
theorem dX12_heat_6 : decode cX12_heat 6 = .ok (.aload_n 0, 1) := by decide +kernel
theorem dX12_heat_7 : decode cX12_heat 7 = .ok (.iload_n 1, 1) := by decide +kernel
theorem dX12_heat_8 : decode cX12_heat 8 = .ok (.invokevirtual 82, 3) := by decide +kernel
theorem dX12_heat_11 : decode cX12_heat 11 = .ok (.iconst 1, 1) := by decide +kernel
theorem dX12_heat_12 : decode cX12_heat 12 = .ok (.invokevirtual 254, 3) := by decide +kernel
theorem dX12_heat_15 : decode cX12_heat 15 = .ok (.ifCond .ne 17, 3) := by decide +kernel
theorem dX12_heat_18 : decode cX12_heat 18 = .ok (.aload_n 0, 1) := by decide +kernel
theorem dX12_heat_19 : decode cX12_heat 19 = .ok (.iload_n 1, 1) := by decide +kernel
theorem dX12_heat_20 : decode cX12_heat 20 = .ok (.iconst 4, 1) := by decide +kernel
theorem dX12_heat_21 : decode cX12_heat 21 = .ok (.iload_n 2, 1) := by decide +kernel
theorem dX12_heat_22 : decode cX12_heat 22 = .ok (.invokevirtual 343, 3) := by decide +kernel
theorem dX12_heat_25 : decode cX12_heat 25 = .ok (.ifCond .eq 7, 3) := by decide +kernel
theorem dX12_heat_28 : decode cX12_heat 28 = .ok (.iconst 1, 1) := by decide +kernel
theorem dX12_heat_29 : decode cX12_heat 29 = .ok (.goto 4, 3) := by decide +kernel
theorem dX12_heat_32 : decode cX12_heat 32 = .ok (.iconst 0, 1) := by decide +kernel
theorem dX12_heat_33 : decode cX12_heat 33 = .ok (.ireturn, 1) := by decide +kernel
theorem dX12_copy_0 : decode cX12_copy 0 = .ok (.aload_n 0, 1) := by decide +kernel
theorem dX12_copy_1 : decode cX12_copy 1 = .ok (.iconst 0, 1) := by decide +kernel
theorem dX12_copy_2 : decode cX12_copy 2 = .ok (.putfield 3, 3) := by decide +kernel
theorem dX12_copy_5 : decode cX12_copy 5 = .ok (.aload_n 0, 1) := by decide +kernel
theorem dX12_copy_6 : decode cX12_copy 6 = .ok (.aload_n 0, 1) := by decide +kernel
theorem dX12_copy_7 : decode cX12_copy 7 = .ok (.iload_n 1, 1) := by decide +kernel
theorem dX12_copy_8 : decode cX12_copy 8 = .ok (.invokevirtual 82, 3) := by decide +kernel
theorem dX12_copy_11 : decode cX12_copy 11 = .ok (.iconst 1, 1) := by decide +kernel
