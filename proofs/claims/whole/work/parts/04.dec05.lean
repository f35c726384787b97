theorem dX12_of_4 : decode cX12_of 4 = .ok (.iload_n 1, 1) := by decide +kernel
theorem dX12_of_5 : decode cX12_of 5 = .ok (.iload_n 2, 1) := by decide +kernel
theorem dX12_of_6 : decode cX12_of 6 = .ok (.invokestatic 67, 3) := by decide +kernel
theorem dX12_of_9 : decode cX12_of 9 = .ok (.iaload, 1) := by decide +kernel
theorem dX12_of_10 : decode cX12_of 10 = .ok (.ireturn, 1) := by decide +kernel
theorem dX12_lines_0 : decode cX12_lines 0 = .ok (.aload_n 0, 1) := by decide +kernel
theorem dX12_lines_1 : decode cX12_lines 1 = .ok (.iload_n 1, 1) := by decide +kernel
theorem dX12_lines_2 : decode cX12_lines 2 = .ok (.iconst 0, 1) := by decide +kernel
theorem dX12_lines_3 : decode cX12_lines 3 = .ok (.invokevirtual 71, 3) := by decide +kernel
theorem dX12_lines_6 : decode cX12_lines 6 = .ok (.ireturn, 1) := by decide +kernel
theorem dX12_kindOf_0 : decode cX12_kindOf 0 = .ok (.aload_n 0, 1) := by decide +kernel
theorem dX12_kindOf_1 : decode cX12_kindOf 1 = .ok (.iload_n 1, 1) := by decide +kernel
theorem dX12_kindOf_2 : decode cX12_kindOf 2 = .ok (.iconst 5, 1) := by decide +kernel
theorem dX12_kindOf_3 : decode cX12_kindOf 3 = .ok (.iload_n 2, 1) := by decide +kernel
theorem dX12_kindOf_4 : decode cX12_kindOf 4 = .ok (.iadd, 1) := by decide +kernel
theorem dX12_kindOf_5 : decode cX12_kindOf 5 = .ok (.invokevirtual 71, 3) := by decide +kernel
theorem dX12_kindOf_8 : decode cX12_kindOf 8 = .ok (.ireturn, 1) := by decide +kernel
theorem dX12_isOpen_0 : decode cX12_isOpen 0 = .ok (.aload_n 0, 1) := by decide +kernel
theorem dX12_isOpen_1 : decode cX12_isOpen 1 = .ok (.iload_n 1, 1) := by decide +kernel
theorem dX12_isOpen_2 : decode cX12_isOpen 2 = .ok (.iconst 3, 1) := by decide +kernel
theorem dX12_isOpen_3 : decode cX12_isOpen 3 = .ok (.invokevirtual 71, 3) := by decide +kernel
theorem dX12_isOpen_6 : decode cX12_isOpen 6 = .ok (.iconst 1, 1) := by decide +kernel
theorem dX12_isOpen_7 : decode cX12_isOpen 7 = .ok (.if_icmp .ne 7, 3) := by decide +kernel
theorem dX12_isOpen_10 : decode cX12_isOpen 10 = .ok (.iconst 1, 1) := by decide +kernel
theorem dX12_isOpen_11 : decode cX12_isOpen 11 = .ok (.goto 4, 3) := by decide +kernel
theorem dX12_isOpen_14 : decode cX12_isOpen 14 = .ok (.iconst 0, 1) := by decide +kernel
theorem dX12_isOpen_15 : decode cX12_isOpen 15 = .ok (.ireturn, 1) := by decide +kernel
theorem dX12_noLetter_0 : decode cX12_noLetter 0 = .ok (.iload_n 1, 1) := by decide +kernel
theorem dX12_noLetter_1 : decode cX12_noLetter 1 = .ok (.iconst 0, 1) := by decide +kernel
theorem dX12_noLetter_2 : decode cX12_noLetter 2 = .ok (.aload_n 0, 1) := by decide +kernel
theorem dX12_noLetter_3 : decode cX12_noLetter 3 = .ok (.invokevirtual 74, 3) := by decide +kernel
theorem dX12_noLetter_6 : decode cX12_noLetter 6 = .ok (.iconst 1, 1) := by decide +kernel
theorem dX12_noLetter_7 : decode cX12_noLetter 7 = .ok (.isub, 1) := by decide +kernel
theorem dX12_noLetter_8 : decode cX12_noLetter 8 = .ok (.invokestatic 78, 3) := by decide +kernel
theorem dX12_noLetter_11 : decode cX12_noLetter 11 = .ok (.ifCond .ne 7, 3) := by decide +kernel
theorem dX12_noLetter_14 : decode cX12_noLetter 14 = .ok (.iconst 1, 1) := by decide +kernel
theorem dX12_noLetter_15 : decode cX12_noLetter 15 = .ok (.goto 4, 3) := by decide +kernel
theorem dX12_noLetter_18 : decode cX12_noLetter 18 = .ok (.iconst 0, 1) := by decide +kernel
theorem dX12_noLetter_19 : decode cX12_noLetter 19 = .ok (.ireturn, 1) := by decide +kernel
theorem dX12_noLine_0 : decode cX12_noLine 0 = .ok (.aload_n 0, 1) := by decide +kernel
theorem dX12_noLine_1 : decode cX12_noLine 1 = .ok (.iload_n 1, 1) := by decide +kernel
theorem dX12_noLine_2 : decode cX12_noLine 2 = .ok (.invokevirtual 82, 3) := by decide +kernel
theorem dX12_noLine_5 : decode cX12_noLine 5 = .ok (.ifCond .ne 18, 3) := by decide +kernel
theorem dX12_noLine_8 : decode cX12_noLine 8 = .ok (.iload_n 2, 1) := by decide +kernel
theorem dX12_noLine_9 : decode cX12_noLine 9 = .ok (.iconst 0, 1) := by decide +kernel
theorem dX12_noLine_10 : decode cX12_noLine 10 = .ok (.aload_n 0, 1) := by decide +kernel
theorem dX12_noLine_11 : decode cX12_noLine 11 = .ok (.iload_n 1, 1) := by decide +kernel
theorem dX12_noLine_12 : decode cX12_noLine 12 = .ok (.invokevirtual 86, 3) := by decide +kernel
theorem dX12_noLine_15 : decode cX12_noLine 15 = .ok (.iconst 1, 1) := by decide +kernel
theorem dX12_noLine_16 : decode cX12_noLine 16 = .ok (.isub, 1) := by decide +kernel
theorem dX12_noLine_17 : decode cX12_noLine 17 = .ok (.invokestatic 78, 3) := by decide +kernel
theorem dX12_noLine_20 : decode cX12_noLine 20 = .ok (.ifCond .ne 7, 3) := by decide +kernel
theorem dX12_noLine_23 : decode cX12_noLine 23 = .ok (.iconst 1, 1) := by decide +kernel
theorem dX12_noLine_24 : decode cX12_noLine 24 = .ok (.goto 4, 3) := by decide +kernel
theorem dX12_noLine_27 : decode cX12_noLine 27 = .ok (.iconst 0, 1) := by decide +kernel
theorem dX12_noLine_28 : decode cX12_noLine 28 = .ok (.ireturn, 1) := by decide +kernel
theorem dX12_noPromise_0 : decode cX12_noPromise 0 = .ok (.iload_n 1, 1) := by decide +kernel
theorem dX12_noPromise_1 : decode cX12_noPromise 1 = .ok (.iconst 0, 1) := by decide +kernel
theorem dX12_noPromise_2 : decode cX12_noPromise 2 = .ok (.aload_n 0, 1) := by decide +kernel
theorem dX12_noPromise_3 : decode cX12_noPromise 3 = .ok (.invokevirtual 90, 3) := by decide +kernel
theorem dX12_noPromise_6 : decode cX12_noPromise 6 = .ok (.iconst 1, 1) := by decide +kernel
theorem dX12_noPromise_7 : decode cX12_noPromise 7 = .ok (.isub, 1) := by decide +kernel
theorem dX12_noPromise_8 : decode cX12_noPromise 8 = .ok (.invokestatic 78, 3) := by decide +kernel
theorem dX12_noPromise_11 : decode cX12_noPromise 11 = .ok (.ifCond .ne 7, 3) := by decide +kernel
theorem dX12_noPromise_14 : decode cX12_noPromise 14 = .ok (.iconst 1, 1) := by decide +kernel
theorem dX12_noPromise_15 : decode cX12_noPromise 15 = .ok (.goto 4, 3) := by decide +kernel
theorem dX12_noPromise_18 : decode cX12_noPromise 18 = .ok (.iconst 0, 1) := by decide +kernel
theorem dX12_noPromise_19 : decode cX12_noPromise 19 = .ok (.ireturn, 1) := by decide +kernel
theorem dX12_noKind_0 : decode cX12_noKind 0 = .ok (.iload_n 0, 1) := by decide +kernel
theorem dX12_noKind_1 : decode cX12_noKind 1 = .ok (.iconst 0, 1) := by decide +kernel
theorem dX12_noKind_2 : decode cX12_noKind 2 = .ok (.bipush 11, 2) := by decide +kernel
theorem dX12_noKind_4 : decode cX12_noKind 4 = .ok (.invokestatic 78, 3) := by decide +kernel
theorem dX12_noKind_7 : decode cX12_noKind 7 = .ok (.ifCond .ne 7, 3) := by decide +kernel
theorem dX12_noKind_10 : decode cX12_noKind 10 = .ok (.iconst 1, 1) := by decide +kernel
theorem dX12_noKind_11 : decode cX12_noKind 11 = .ok (.goto 4, 3) := by decide +kernel
theorem dX12_noKind_14 : decode cX12_noKind 14 = .ok (.iconst 0, 1) := by decide +kernel
theorem dX12_noKind_15 : decode cX12_noKind 15 = .ok (.ireturn, 1) := by decide +kernel
theorem dX12_noAhead_0 : decode cX12_noAhead 0 = .ok (.iload_n 0, 1) := by decide +kernel
theorem dX12_noAhead_1 : decode cX12_noAhead 1 = .ok (.iconst 0, 1) := by decide +kernel
theorem dX12_noAhead_2 : decode cX12_noAhead 2 = .ok (.bipush 40, 2) := by decide +kernel
theorem dX12_noAhead_4 : decode cX12_noAhead 4 = .ok (.invokestatic 78, 3) := by decide +kernel
theorem dX12_noAhead_7 : decode cX12_noAhead 7 = .ok (.ifCond .ne 7, 3) := by decide +kernel
theorem dX12_noAhead_10 : decode cX12_noAhead 10 = .ok (.iconst 1, 1) := by decide +kernel
theorem dX12_noAhead_11 : decode cX12_noAhead 11 = .ok (.goto 4, 3) := by decide +kernel
theorem dX12_noAhead_14 : decode cX12_noAhead 14 = .ok (.iconst 0, 1) := by decide +kernel
theorem dX12_noAhead_15 : decode cX12_noAhead 15 = .ok (.ireturn, 1) := by decide +kernel
theorem dX12_noSender_0 : decode cX12_noSender 0 = .ok (.iload_n 0, 1) := by decide +kernel
theorem dX12_noSender_1 : decode cX12_noSender 1 = .ok (.iconst 0, 1) := by decide +kernel
theorem dX12_noSender_2 : decode cX12_noSender 2 = .ok (.bipush 9, 2) := by decide +kernel
theorem dX12_noSender_4 : decode cX12_noSender 4 = .ok (.invokestatic 78, 3) := by decide +kernel
theorem dX12_noSender_7 : decode cX12_noSender 7 = .ok (.ifCond .eq 13, 3) := by decide +kernel
theorem dX12_noSender_10 : decode cX12_noSender 10 = .ok (.iload_n 1, 1) := by decide +kernel
theorem dX12_noSender_11 : decode cX12_noSender 11 = .ok (.iconst 0, 1) := by decide +kernel
theorem dX12_noSender_12 : decode cX12_noSender 12 = .ok (.bipush 9, 2) := by decide +kernel
theorem dX12_noSender_14 : decode cX12_noSender 14 = .ok (.invokestatic 78, 3) := by decide +kernel
theorem dX12_noSender_17 : decode cX12_noSender 17 = .ok (.ifCond .ne 7, 3) := by decide +kernel
theorem dX12_noSender_20 : decode cX12_noSender 20 = .ok (.iconst 1, 1) := by decide +kernel
theorem dX12_noSender_21 : decode cX12_noSender 21 = .ok (.goto 4, 3) := by decide +kernel
theorem dX12_noSender_24 : decode cX12_noSender 24 = .ok (.iconst 0, 1) := by decide +kernel
theorem dX12_noSender_25 : decode cX12_noSender 25 = .ok (.ireturn, 1) := by decide +kernel
theorem dX12_draw_0 : decode cX12_draw 0 = .ok (.aload_n 0, 1) := by decide +kernel
theorem dX12_draw_1 : decode cX12_draw 1 = .ok (.getfield 13, 3) := by decide +kernel
theorem dX12_draw_4 : decode cX12_draw 4 = .ok (.bipush 7, 2) := by decide +kernel
theorem dX12_draw_6 : decode cX12_draw 6 = .ok (.ldc 93, 2) := by decide +kernel
theorem dX12_draw_8 : decode cX12_draw 8 = .ok (.aload_n 0, 1) := by decide +kernel
theorem dX12_draw_9 : decode cX12_draw 9 = .ok (.getfield 13, 3) := by decide +kernel
theorem dX12_draw_12 : decode cX12_draw 12 = .ok (.bipush 7, 2) := by decide +kernel
theorem dX12_draw_14 : decode cX12_draw 14 = .ok (.iaload, 1) := by decide +kernel
theorem dX12_draw_15 : decode cX12_draw 15 = .ok (.imul, 1) := by decide +kernel
theorem dX12_draw_16 : decode cX12_draw 16 = .ok (.sipush 12345, 3) := by decide +kernel
theorem dX12_draw_19 : decode cX12_draw 19 = .ok (.iadd, 1) := by decide +kernel
theorem dX12_draw_20 : decode cX12_draw 20 = .ok (.iastore, 1) := by decide +kernel
theorem dX12_draw_21 : decode cX12_draw 21 = .ok (.aload_n 0, 1) := by decide +kernel
theorem dX12_draw_22 : decode cX12_draw 22 = .ok (.getfield 13, 3) := by decide +kernel
theorem dX12_draw_25 : decode cX12_draw 25 = .ok (.bipush 7, 2) := by decide +kernel
theorem dX12_draw_27 : decode cX12_draw 27 = .ok (.iaload, 1) := by decide +kernel
theorem dX12_draw_28 : decode cX12_draw 28 = .ok (.bipush 16, 2) := by decide +kernel
theorem dX12_draw_30 : decode cX12_draw 30 = .ok (.ishr, 1) := by decide +kernel
theorem dX12_draw_31 : decode cX12_draw 31 = .ok (.sipush 32767, 3) := by decide +kernel
theorem dX12_draw_34 : decode cX12_draw 34 = .ok (.iand, 1) := by decide +kernel
theorem dX12_draw_35 : decode cX12_draw 35 = .ok (.iload_n 1, 1) := by decide +kernel
theorem dX12_draw_36 : decode cX12_draw 36 = .ok (.irem, 1) := by decide +kernel
theorem dX12_draw_37 : decode cX12_draw 37 = .ok (.ireturn, 1) := by decide +kernel
theorem dX12_feed_0 : decode cX12_feed 0 = .ok (.aload_n 0, 1) := by decide +kernel
theorem dX12_feed_1 : decode cX12_feed 1 = .ok (.iconst 0, 1) := by decide +kernel
theorem dX12_feed_2 : decode cX12_feed 2 = .ok (.putfield 3, 3) := by decide +kernel
theorem dX12_feed_5 : decode cX12_feed 5 = .ok (.aload_n 0, 1) := by decide +kernel
theorem dX12_feed_6 : decode cX12_feed 6 = .ok (.getfield 94, 3) := by decide +kernel
theorem dX12_feed_9 : decode cX12_feed 9 = .ok (.bipush 20, 2) := by decide +kernel
theorem dX12_feed_11 : decode cX12_feed 11 = .ok (.iadd, 1) := by decide +kernel
theorem dX12_feed_12 : decode cX12_feed 12 = .ok (.sipush 400, 3) := by decide +kernel
theorem dX12_feed_15 : decode cX12_feed 15 = .ok (.if_icmp .le 5, 3) := by decide +kernel
theorem dX12_feed_18 : decode cX12_feed 18 = .ok (.iconst (-1), 1) := by decide +kernel
theorem dX12_feed_19 : decode cX12_feed 19 = .ok (.ireturn, 1) := by decide +kernel
theorem dX12_feed_20 : decode cX12_feed 20 = .ok (.aload_n 0, 1) := by decide +kernel
theorem dX12_feed_21 : decode cX12_feed 21 = .ok (.getfield 36, 3) := by decide +kernel
theorem dX12_feed_24 : decode cX12_feed 24 = .ok (.iconst 0, 1) := by decide +kernel
theorem dX12_feed_25 : decode cX12_feed 25 = .ok (.iload_n 1, 1) := by decide +kernel
theorem dX12_feed_26 : decode cX12_feed 26 = .ok (.iastore, 1) := by decide +kernel
theorem dX12_feed_27 : decode cX12_feed 27 = .ok (.aload_n 0, 1) := by decide +kernel
theorem dX12_feed_28 : decode cX12_feed 28 = .ok (.getfield 36, 3) := by decide +kernel
theorem dX12_feed_31 : decode cX12_feed 31 = .ok (.iconst 1, 1) := by decide +kernel
theorem dX12_feed_32 : decode cX12_feed 32 = .ok (.iload_n 2, 1) := by decide +kernel
theorem dX12_feed_33 : decode cX12_feed 33 = .ok (.iastore, 1) := by decide +kernel
theorem dX12_feed_34 : decode cX12_feed 34 = .ok (.aload_n 0, 1) := by decide +kernel
theorem dX12_feed_35 : decode cX12_feed 35 = .ok (.getfield 36, 3) := by decide +kernel
theorem dX12_feed_38 : decode cX12_feed 38 = .ok (.iconst 2, 1) := by decide +kernel
theorem dX12_feed_39 : decode cX12_feed 39 = .ok (.iload_n 3, 1) := by decide +kernel
theorem dX12_feed_40 : decode cX12_feed 40 = .ok (.iastore, 1) := by decide +kernel
theorem dX12_feed_41 : decode cX12_feed 41 = .ok (.aload_n 0, 1) := by decide +kernel
theorem dX12_feed_42 : decode cX12_feed 42 = .ok (.getfield 36, 3) := by decide +kernel
theorem dX12_feed_45 : decode cX12_feed 45 = .ok (.iconst 3, 1) := by decide +kernel
theorem dX12_feed_46 : decode cX12_feed 46 = .ok (.iload 4, 2) := by decide +kernel
theorem dX12_feed_48 : decode cX12_feed 48 = .ok (.iastore, 1) := by decide +kernel
theorem dX12_feed_49 : decode cX12_feed 49 = .ok (.aload_n 0, 1) := by decide +kernel
theorem dX12_feed_50 : decode cX12_feed 50 = .ok (.getfield 36, 3) := by decide +kernel
theorem dX12_feed_53 : decode cX12_feed 53 = .ok (.iconst 4, 1) := by decide +kernel
theorem dX12_feed_54 : decode cX12_feed 54 = .ok (.iload 5, 2) := by decide +kernel
theorem dX12_feed_56 : decode cX12_feed 56 = .ok (.iastore, 1) := by decide +kernel
theorem dX12_feed_57 : decode cX12_feed 57 = .ok (.iconst 0, 1) := by decide +kernel
theorem dX12_feed_58 : decode cX12_feed 58 = .ok (.istore 6, 2) := by decide +kernel
theorem dX12_feed_60 : decode cX12_feed 60 = .ok (.iload 6, 2) := by decide +kernel
theorem dX12_feed_62 : decode cX12_feed 62 = .ok (.bipush 20, 2) := by decide +kernel
theorem dX12_feed_64 : decode cX12_feed 64 = .ok (.if_icmp .ge 42, 3) := by decide +kernel
theorem dX12_feed_67 : decode cX12_feed 67 = .ok (.aload_n 0, 1) := by decide +kernel
theorem dX12_feed_68 : decode cX12_feed 68 = .ok (.getfield 29, 3) := by decide +kernel
theorem dX12_feed_71 : decode cX12_feed 71 = .ok (.aload_n 0, 1) := by decide +kernel
theorem dX12_feed_72 : decode cX12_feed 72 = .ok (.getfield 94, 3) := by decide +kernel
theorem dX12_feed_75 : decode cX12_feed 75 = .ok (.iload 6, 2) := by decide +kernel
theorem dX12_feed_77 : decode cX12_feed 77 = .ok (.iadd, 1) := by decide +kernel
theorem dX12_feed_78 : decode cX12_feed 78 = .ok (.aload_n 0, 1) := by decide +kernel
theorem dX12_feed_79 : decode cX12_feed 79 = .ok (.getfield 36, 3) := by decide +kernel
theorem dX12_feed_82 : decode cX12_feed 82 = .ok (.iload 6, 2) := by decide +kernel
theorem dX12_feed_84 : decode cX12_feed 84 = .ok (.iconst 4, 1) := by decide +kernel
theorem dX12_feed_85 : decode cX12_feed 85 = .ok (.idiv, 1) := by decide +kernel
theorem dX12_feed_86 : decode cX12_feed 86 = .ok (.iaload, 1) := by decide +kernel
theorem dX12_feed_87 : decode cX12_feed 87 = .ok (.bipush 24, 2) := by decide +kernel
theorem dX12_feed_89 : decode cX12_feed 89 = .ok (.bipush 8, 2) := by decide +kernel
theorem dX12_feed_91 : decode cX12_feed 91 = .ok (.iload 6, 2) := by decide +kernel
theorem dX12_feed_93 : decode cX12_feed 93 = .ok (.iconst 4, 1) := by decide +kernel
theorem dX12_feed_94 : decode cX12_feed 94 = .ok (.irem, 1) := by decide +kernel
theorem dX12_feed_95 : decode cX12_feed 95 = .ok (.imul, 1) := by decide +kernel
theorem dX12_feed_96 : decode cX12_feed 96 = .ok (.isub, 1) := by decide +kernel
theorem dX12_feed_97 : decode cX12_feed 97 = .ok (.ishr, 1) := by decide +kernel
theorem dX12_feed_98 : decode cX12_feed 98 = .ok (.i2b, 1) := by decide +kernel
theorem dX12_feed_99 : decode cX12_feed 99 = .ok (.bastore, 1) := by decide +kernel
theorem dX12_feed_100 : decode cX12_feed 100 = .ok (.iinc 6 1, 3) := by decide +kernel
theorem dX12_feed_103 : decode cX12_feed 103 = .ok (.goto (-43), 3) := by decide +kernel
theorem dX12_feed_106 : decode cX12_feed 106 = .ok (.aload_n 0, 1) := by decide +kernel
theorem dX12_feed_107 : decode cX12_feed 107 = .ok (.dup, 1) := by decide +kernel
theorem dX12_feed_108 : decode cX12_feed 108 = .ok (.getfield 94, 3) := by decide +kernel
theorem dX12_feed_111 : decode cX12_feed 111 = .ok (.bipush 20, 2) := by decide +kernel
theorem dX12_feed_113 : decode cX12_feed 113 = .ok (.iadd, 1) := by decide +kernel
theorem dX12_feed_114 : decode cX12_feed 114 = .ok (.putfield 94, 3) := by decide +kernel
theorem dX12_feed_117 : decode cX12_feed 117 = .ok (.aload_n 0, 1) := by decide +kernel
theorem dX12_feed_118 : decode cX12_feed 118 = .ok (.getfield 94, 3) := by decide +kernel
theorem dX12_feed_121 : decode cX12_feed 121 = .ok (.ireturn, 1) := by decide +kernel
theorem dX12_end_0 : decode cX12_end 0 = .ok (.aload_n 0, 1) := by decide +kernel
theorem dX12_end_1 : decode cX12_end 1 = .ok (.iconst 0, 1) := by decide +kernel
theorem dX12_end_2 : decode cX12_end 2 = .ok (.putfield 3, 3) := by decide +kernel
theorem dX12_end_5 : decode cX12_end 5 = .ok (.iload_n 1, 1) := by decide +kernel
theorem dX12_end_6 : decode cX12_end 6 = .ok (.ifCond .lt 11, 3) := by decide +kernel
theorem dX12_end_9 : decode cX12_end 9 = .ok (.iload_n 1, 1) := by decide +kernel
theorem dX12_end_10 : decode cX12_end 10 = .ok (.aload_n 0, 1) := by decide +kernel
theorem dX12_end_11 : decode cX12_end 11 = .ok (.getfield 94, 3) := by decide +kernel
theorem dX12_end_14 : decode cX12_end 14 = .ok (.if_icmp .le 5, 3) := by decide +kernel
theorem dX12_end_17 : decode cX12_end 17 = .ok (.iconst 0, 1) := by decide +kernel
theorem dX12_end_18 : decode cX12_end 18 = .ok (.ireturn, 1) := by decide +kernel
theorem dX12_end_19 : decode cX12_end 19 = .ok (.aload_n 0, 1) := by decide +kernel
theorem dX12_end_20 : decode cX12_end 20 = .ok (.iload_n 1, 1) := by decide +kernel
theorem dX12_end_21 : decode cX12_end 21 = .ok (.putfield 94, 3) := by decide +kernel
theorem dX12_end_24 : decode cX12_end 24 = .ok (.iconst 1, 1) := by decide +kernel
theorem dX12_end_25 : decode cX12_end 25 = .ok (.ireturn, 1) := by decide +kernel
theorem dX12_isAt_0 : decode cX12_isAt 0 = .ok (.aload_n 0, 1) := by decide +kernel
theorem dX12_isAt_1 : decode cX12_isAt 1 = .ok (.getfield 97, 3) := by decide +kernel
theorem dX12_isAt_4 : decode cX12_isAt 4 = .ok (.aload_n 0, 1) := by decide +kernel
theorem dX12_isAt_5 : decode cX12_isAt 5 = .ok (.getfield 100, 3) := by decide +kernel
theorem dX12_isAt_8 : decode cX12_isAt 8 = .ok (.if_icmp .ge 33, 3) := by decide +kernel
theorem dX12_isAt_11 : decode cX12_isAt 11 = .ok (.aload_n 0, 1) := by decide +kernel
theorem dX12_isAt_12 : decode cX12_isAt 12 = .ok (.getfield 29, 3) := by decide +kernel
theorem dX12_isAt_15 : decode cX12_isAt 15 = .ok (.aload_n 0, 1) := by decide +kernel
theorem dX12_isAt_16 : decode cX12_isAt 16 = .ok (.getfield 97, 3) := by decide +kernel
theorem dX12_isAt_19 : decode cX12_isAt 19 = .ok (.baload, 1) := by decide +kernel
theorem dX12_isAt_20 : decode cX12_isAt 20 = .ok (.iload_n 1, 1) := by decide +kernel
theorem dX12_isAt_21 : decode cX12_isAt 21 = .ok (.if_icmp .lt 20, 3) := by decide +kernel
theorem dX12_isAt_24 : decode cX12_isAt 24 = .ok (.aload_n 0, 1) := by decide +kernel
theorem dX12_isAt_25 : decode cX12_isAt 25 = .ok (.getfield 29, 3) := by decide +kernel
theorem dX12_isAt_28 : decode cX12_isAt 28 = .ok (.aload_n 0, 1) := by decide +kernel
theorem dX12_isAt_29 : decode cX12_isAt 29 = .ok (.getfield 97, 3) := by decide +kernel
theorem dX12_isAt_32 : decode cX12_isAt 32 = .ok (.baload, 1) := by decide +kernel
theorem dX12_isAt_33 : decode cX12_isAt 33 = .ok (.iload_n 2, 1) := by decide +kernel
theorem dX12_isAt_34 : decode cX12_isAt 34 = .ok (.if_icmp .gt 7, 3) := by decide +kernel
theorem dX12_isAt_37 : decode cX12_isAt 37 = .ok (.iconst 1, 1) := by decide +kernel
theorem dX12_isAt_38 : decode cX12_isAt 38 = .ok (.goto 4, 3) := by decide +kernel
theorem dX12_isAt_41 : decode cX12_isAt 41 = .ok (.iconst 0, 1) := by decide +kernel
theorem dX12_isAt_42 : decode cX12_isAt 42 = .ok (.ireturn, 1) := by decide +kernel
theorem dX12_blanks_0 : decode cX12_blanks 0 = .ok (.aload_n 0, 1) := by decide +kernel
theorem dX12_blanks_1 : decode cX12_blanks 1 = .ok (.bipush 32, 2) := by decide +kernel
theorem dX12_blanks_3 : decode cX12_blanks 3 = .ok (.bipush 32, 2) := by decide +kernel
theorem dX12_blanks_5 : decode cX12_blanks 5 = .ok (.invokevirtual 103, 3) := by decide +kernel
theorem dX12_blanks_8 : decode cX12_blanks 8 = .ok (.ifCond .eq 16, 3) := by decide +kernel
theorem dX12_blanks_11 : decode cX12_blanks 11 = .ok (.aload_n 0, 1) := by decide +kernel
theorem dX12_blanks_12 : decode cX12_blanks 12 = .ok (.dup, 1) := by decide +kernel
theorem dX12_blanks_13 : decode cX12_blanks 13 = .ok (.getfield 97, 3) := by decide +kernel
theorem dX12_blanks_16 : decode cX12_blanks 16 = .ok (.iconst 1, 1) := by decide +kernel
theorem dX12_blanks_17 : decode cX12_blanks 17 = .ok (.iadd, 1) := by decide +kernel
theorem dX12_blanks_18 : decode cX12_blanks 18 = .ok (.putfield 97, 3) := by decide +kernel
theorem dX12_blanks_21 : decode cX12_blanks 21 = .ok (.goto (-21), 3) := by decide +kernel
theorem dX12_blanks_24 : decode cX12_blanks 24 = .ok (.aload_n 0, 1) := by decide +kernel
theorem dX12_blanks_25 : decode cX12_blanks 25 = .ok (.aload_n 0, 1) := by decide +kernel
theorem dX12_blanks_26 : decode cX12_blanks 26 = .ok (.getfield 97, 3) := by decide +kernel
theorem dX12_blanks_29 : decode cX12_blanks 29 = .ok (.putfield 107, 3) := by decide +kernel
theorem dX12_blanks_32 : decode cX12_blanks 32 = .ok (.return_, 1) := by decide +kernel
theorem dX12_lettersPass_0 : decode cX12_lettersPass 0 = .ok (.aload_n 0, 1) := by decide +kernel
theorem dX12_lettersPass_1 : decode cX12_lettersPass 1 = .ok (.invokevirtual 110, 3) := by decide +kernel
theorem dX12_lettersPass_4 : decode cX12_lettersPass 4 = .ok (.aload_n 0, 1) := by decide +kernel
theorem dX12_lettersPass_5 : decode cX12_lettersPass 5 = .ok (.bipush 97, 2) := by decide +kernel
theorem dX12_lettersPass_7 : decode cX12_lettersPass 7 = .ok (.bipush 122, 2) := by decide +kernel
theorem dX12_lettersPass_9 : decode cX12_lettersPass 9 = .ok (.invokevirtual 103, 3) := by decide +kernel
theorem dX12_lettersPass_12 : decode cX12_lettersPass 12 = .ok (.ifCond .eq 16, 3) := by decide +kernel
theorem dX12_lettersPass_15 : decode cX12_lettersPass 15 = .ok (.aload_n 0, 1) := by decide +kernel
theorem dX12_lettersPass_16 : decode cX12_lettersPass 16 = .ok (.dup, 1) := by decide +kernel
theorem dX12_lettersPass_17 : decode cX12_lettersPass 17 = .ok (.getfield 97, 3) := by decide +kernel
theorem dX12_lettersPass_20 : decode cX12_lettersPass 20 = .ok (.iconst 1, 1) := by decide +kernel
theorem dX12_lettersPass_21 : decode cX12_lettersPass 21 = .ok (.iadd, 1) := by decide +kernel
theorem dX12_lettersPass_22 : decode cX12_lettersPass 22 = .ok (.putfield 97, 3) := by decide +kernel
theorem dX12_lettersPass_25 : decode cX12_lettersPass 25 = .ok (.goto (-21), 3) := by decide +kernel
theorem dX12_lettersPass_28 : decode cX12_lettersPass 28 = .ok (.return_, 1) := by decide +kernel
theorem dX12_isWord_0 : decode cX12_isWord 0 = .ok (.aload_n 0, 1) := by decide +kernel
theorem dX12_isWord_1 : decode cX12_isWord 1 = .ok (.getfield 97, 3) := by decide +kernel
theorem dX12_isWord_4 : decode cX12_isWord 4 = .ok (.aload_n 0, 1) := by decide +kernel
theorem dX12_isWord_5 : decode cX12_isWord 5 = .ok (.getfield 107, 3) := by decide +kernel
theorem dX12_isWord_8 : decode cX12_isWord 8 = .ok (.isub, 1) := by decide +kernel
theorem dX12_isWord_9 : decode cX12_isWord 9 = .ok (.aload_n 1, 1) := by decide +kernel
theorem dX12_isWord_10 : decode cX12_isWord 10 = .ok (.invokevirtual 113, 3) := by decide +kernel
theorem dX12_isWord_13 : decode cX12_isWord 13 = .ok (.if_icmp .ne 7, 3) := by decide +kernel
theorem dX12_isWord_16 : decode cX12_isWord 16 = .ok (.iconst 1, 1) := by decide +kernel
theorem dX12_isWord_17 : decode cX12_isWord 17 = .ok (.goto 4, 3) := by decide +kernel
theorem dX12_isWord_20 : decode cX12_isWord 20 = .ok (.iconst 0, 1) := by decide +kernel
theorem dX12_isWord_21 : decode cX12_isWord 21 = .ok (.istore_n 2, 1) := by decide +kernel
theorem dX12_isWord_22 : decode cX12_isWord 22 = .ok (.iconst 0, 1) := by decide +kernel
theorem dX12_isWord_23 : decode cX12_isWord 23 = .ok (.istore_n 3, 1) := by decide +kernel
theorem dX12_isWord_24 : decode cX12_isWord 24 = .ok (.iload_n 2, 1) := by decide +kernel
theorem dX12_isWord_25 : decode cX12_isWord 25 = .ok (.ifCond .eq 42, 3) := by decide +kernel
theorem dX12_isWord_28 : decode cX12_isWord 28 = .ok (.iload_n 3, 1) := by decide +kernel
theorem dX12_isWord_29 : decode cX12_isWord 29 = .ok (.aload_n 1, 1) := by decide +kernel
theorem dX12_isWord_30 : decode cX12_isWord 30 = .ok (.invokevirtual 113, 3) := by decide +kernel
theorem dX12_isWord_33 : decode cX12_isWord 33 = .ok (.if_icmp .ge 34, 3) := by decide +kernel
theorem dX12_isWord_36 : decode cX12_isWord 36 = .ok (.aload_n 0, 1) := by decide +kernel
theorem dX12_isWord_37 : decode cX12_isWord 37 = .ok (.getfield 29, 3) := by decide +kernel
theorem dX12_isWord_40 : decode cX12_isWord 40 = .ok (.aload_n 0, 1) := by decide +kernel
theorem dX12_isWord_41 : decode cX12_isWord 41 = .ok (.getfield 107, 3) := by decide +kernel
theorem dX12_isWord_44 : decode cX12_isWord 44 = .ok (.iload_n 3, 1) := by decide +kernel
theorem dX12_isWord_45 : decode cX12_isWord 45 = .ok (.iadd, 1) := by decide +kernel
theorem dX12_isWord_46 : decode cX12_isWord 46 = .ok (.baload, 1) := by decide +kernel
theorem dX12_isWord_47 : decode cX12_isWord 47 = .ok (.aload_n 1, 1) := by decide +kernel
theorem dX12_isWord_48 : decode cX12_isWord 48 = .ok (.iload_n 3, 1) := by decide +kernel
theorem dX12_isWord_49 : decode cX12_isWord 49 = .ok (.invokevirtual 118, 3) := by decide +kernel
theorem dX12_isWord_52 : decode cX12_isWord 52 = .ok (.if_icmp .ne 7, 3) := by decide +kernel
theorem dX12_isWord_55 : decode cX12_isWord 55 = .ok (.iconst 1, 1) := by decide +kernel
theorem dX12_isWord_56 : decode cX12_isWord 56 = .ok (.goto 4, 3) := by decide +kernel
theorem dX12_isWord_59 : decode cX12_isWord 59 = .ok (.iconst 0, 1) := by decide +kernel
theorem dX12_isWord_60 : decode cX12_isWord 60 = .ok (.istore_n 2, 1) := by decide +kernel
theorem dX12_isWord_61 : decode cX12_isWord 61 = .ok (.iinc 3 1, 3) := by decide +kernel
theorem dX12_isWord_64 : decode cX12_isWord 64 = .ok (.goto (-40), 3) := by decide +kernel
theorem dX12_isWord_67 : decode cX12_isWord 67 = .ok (.iload_n 2, 1) := by decide +kernel
theorem dX12_isWord_68 : decode cX12_isWord 68 = .ok (.ireturn, 1) := by decide +kernel
theorem dX12_passes_0 : decode cX12_passes 0 = .ok (.aload_n 0, 1) := by decide +kernel
theorem dX12_passes_1 : decode cX12_passes 1 = .ok (.invokevirtual 122, 3) := by decide +kernel
theorem dX12_passes_4 : decode cX12_passes 4 = .ok (.aload_n 0, 1) := by decide +kernel
theorem dX12_passes_5 : decode cX12_passes 5 = .ok (.aload_n 1, 1) := by decide +kernel
theorem dX12_passes_6 : decode cX12_passes 6 = .ok (.invokevirtual 125, 3) := by decide +kernel
theorem dX12_passes_9 : decode cX12_passes 9 = .ok (.ifCond .eq 5, 3) := by decide +kernel
theorem dX12_passes_12 : decode cX12_passes 12 = .ok (.iconst 1, 1) := by decide +kernel
theorem dX12_passes_13 : decode cX12_passes 13 = .ok (.ireturn, 1) := by decide +kernel
theorem dX12_passes_14 : decode cX12_passes 14 = .ok (.aload_n 0, 1) := by decide +kernel
theorem dX12_passes_15 : decode cX12_passes 15 = .ok (.aload_n 0, 1) := by decide +kernel
theorem dX12_passes_16 : decode cX12_passes 16 = .ok (.getfield 107, 3) := by decide +kernel
theorem dX12_passes_19 : decode cX12_passes 19 = .ok (.putfield 97, 3) := by decide +kernel
theorem dX12_passes_22 : decode cX12_passes 22 = .ok (.iconst 0, 1) := by decide +kernel
theorem dX12_passes_23 : decode cX12_passes 23 = .ok (.ireturn, 1) := by decide +kernel
theorem dX12_sign_0 : decode cX12_sign 0 = .ok (.aload_n 0, 1) := by decide +kernel
theorem dX12_sign_1 : decode cX12_sign 1 = .ok (.invokevirtual 110, 3) := by decide +kernel
theorem dX12_sign_4 : decode cX12_sign 4 = .ok (.aload_n 0, 1) := by decide +kernel
theorem dX12_sign_5 : decode cX12_sign 5 = .ok (.iload_n 1, 1) := by decide +kernel
theorem dX12_sign_6 : decode cX12_sign 6 = .ok (.iload_n 1, 1) := by decide +kernel
theorem dX12_sign_7 : decode cX12_sign 7 = .ok (.invokevirtual 103, 3) := by decide +kernel
theorem dX12_sign_10 : decode cX12_sign 10 = .ok (.ifCond .ne 5, 3) := by decide +kernel
theorem dX12_sign_13 : decode cX12_sign 13 = .ok (.iconst 0, 1) := by decide +kernel
theorem dX12_sign_14 : decode cX12_sign 14 = .ok (.ireturn, 1) := by decide +kernel
theorem dX12_sign_15 : decode cX12_sign 15 = .ok (.aload_n 0, 1) := by decide +kernel
theorem dX12_sign_16 : decode cX12_sign 16 = .ok (.dup, 1) := by decide +kernel
theorem dX12_sign_17 : decode cX12_sign 17 = .ok (.getfield 97, 3) := by decide +kernel
theorem dX12_sign_20 : decode cX12_sign 20 = .ok (.iconst 1, 1) := by decide +kernel
theorem dX12_sign_21 : decode cX12_sign 21 = .ok (.iadd, 1) := by decide +kernel
theorem dX12_sign_22 : decode cX12_sign 22 = .ok (.putfield 97, 3) := by decide +kernel
theorem dX12_sign_25 : decode cX12_sign 25 = .ok (.iconst 1, 1) := by decide +kernel
theorem dX12_sign_26 : decode cX12_sign 26 = .ok (.ireturn, 1) := by decide +kernel
theorem dX12_number_0 : decode cX12_number 0 = .ok (.aload_n 0, 1) := by decide +kernel
theorem dX12_number_1 : decode cX12_number 1 = .ok (.invokevirtual 110, 3) := by decide +kernel
theorem dX12_number_4 : decode cX12_number 4 = .ok (.iconst 0, 1) := by decide +kernel
theorem dX12_number_5 : decode cX12_number 5 = .ok (.istore_n 3, 1) := by decide +kernel
theorem dX12_number_6 : decode cX12_number 6 = .ok (.aload_n 0, 1) := by decide +kernel
theorem dX12_number_7 : decode cX12_number 7 = .ok (.bipush 48, 2) := by decide +kernel
theorem dX12_number_9 : decode cX12_number 9 = .ok (.bipush 57, 2) := by decide +kernel
theorem dX12_number_11 : decode cX12_number 11 = .ok (.invokevirtual 103, 3) := by decide +kernel
theorem dX12_number_14 : decode cX12_number 14 = .ok (.ifCond .eq 51, 3) := by decide +kernel
theorem dX12_number_17 : decode cX12_number 17 = .ok (.aload_n 0, 1) := by decide +kernel
theorem dX12_number_18 : decode cX12_number 18 = .ok (.getfield 97, 3) := by decide +kernel
theorem dX12_number_21 : decode cX12_number 21 = .ok (.aload_n 0, 1) := by decide +kernel
theorem dX12_number_22 : decode cX12_number 22 = .ok (.getfield 107, 3) := by decide +kernel
theorem dX12_number_25 : decode cX12_number 25 = .ok (.isub, 1) := by decide +kernel
theorem dX12_number_26 : decode cX12_number 26 = .ok (.iconst 3, 1) := by decide +kernel
theorem dX12_number_27 : decode cX12_number 27 = .ok (.if_icmp .ge 23, 3) := by decide +kernel
theorem dX12_number_30 : decode cX12_number 30 = .ok (.bipush 10, 2) := by decide +kernel
theorem dX12_number_32 : decode cX12_number 32 = .ok (.iload_n 3, 1) := by decide +kernel
theorem dX12_number_33 : decode cX12_number 33 = .ok (.imul, 1) := by decide +kernel
theorem dX12_number_34 : decode cX12_number 34 = .ok (.aload_n 0, 1) := by decide +kernel
theorem dX12_number_35 : decode cX12_number 35 = .ok (.getfield 29, 3) := by decide +kernel
theorem dX12_number_38 : decode cX12_number 38 = .ok (.aload_n 0, 1) := by decide +kernel
theorem dX12_number_39 : decode cX12_number 39 = .ok (.getfield 97, 3) := by decide +kernel
theorem dX12_number_42 : decode cX12_number 42 = .ok (.baload, 1) := by decide +kernel
theorem dX12_number_43 : decode cX12_number 43 = .ok (.iadd, 1) := by decide +kernel
theorem dX12_number_44 : decode cX12_number 44 = .ok (.bipush 48, 2) := by decide +kernel
theorem dX12_number_46 : decode cX12_number 46 = .ok (.isub, 1) := by decide +kernel
theorem dX12_number_47 : decode cX12_number 47 = .ok (.goto 4, 3) := by decide +kernel
theorem dX12_number_50 : decode cX12_number 50 = .ok (.iload_n 3, 1) := by decide +kernel
theorem dX12_number_51 : decode cX12_number 51 = .ok (.istore_n 3, 1) := by decide +kernel
theorem dX12_number_52 : decode cX12_number 52 = .ok (.aload_n 0, 1) := by decide +kernel
theorem dX12_number_53 : decode cX12_number 53 = .ok (.dup, 1) := by decide +kernel
theorem dX12_number_54 : decode cX12_number 54 = .ok (.getfield 97, 3) := by decide +kernel
theorem dX12_number_57 : decode cX12_number 57 = .ok (.iconst 1, 1) := by decide +kernel
theorem dX12_number_58 : decode cX12_number 58 = .ok (.iadd, 1) := by decide +kernel
theorem dX12_number_59 : decode cX12_number 59 = .ok (.putfield 97, 3) := by decide +kernel
theorem dX12_number_62 : decode cX12_number 62 = .ok (.goto (-56), 3) := by decide +kernel
theorem dX12_number_65 : decode cX12_number 65 = .ok (.aload_n 0, 1) := by decide +kernel
theorem dX12_number_66 : decode cX12_number 66 = .ok (.getfield 97, 3) := by decide +kernel
theorem dX12_number_69 : decode cX12_number 69 = .ok (.aload_n 0, 1) := by decide +kernel
theorem dX12_number_70 : decode cX12_number 70 = .ok (.getfield 107, 3) := by decide +kernel
theorem dX12_number_73 : decode cX12_number 73 = .ok (.if_icmp .eq 26, 3) := by decide +kernel
theorem dX12_number_76 : decode cX12_number 76 = .ok (.aload_n 0, 1) := by decide +kernel
theorem dX12_number_77 : decode cX12_number 77 = .ok (.getfield 97, 3) := by decide +kernel
theorem dX12_number_80 : decode cX12_number 80 = .ok (.aload_n 0, 1) := by decide +kernel
theorem dX12_number_81 : decode cX12_number 81 = .ok (.getfield 107, 3) := by decide +kernel
theorem dX12_number_84 : decode cX12_number 84 = .ok (.isub, 1) := by decide +kernel
theorem dX12_number_85 : decode cX12_number 85 = .ok (.iconst 3, 1) := by decide +kernel
theorem dX12_number_86 : decode cX12_number 86 = .ok (.if_icmp .gt 13, 3) := by decide +kernel
theorem dX12_number_89 : decode cX12_number 89 = .ok (.iload_n 3, 1) := by decide +kernel
theorem dX12_number_90 : decode cX12_number 90 = .ok (.iload_n 1, 1) := by decide +kernel
theorem dX12_number_91 : decode cX12_number 91 = .ok (.if_icmp .lt 8, 3) := by decide +kernel
theorem dX12_number_94 : decode cX12_number 94 = .ok (.iload_n 3, 1) := by decide +kernel
theorem dX12_number_95 : decode cX12_number 95 = .ok (.iload_n 2, 1) := by decide +kernel
theorem dX12_number_96 : decode cX12_number 96 = .ok (.if_icmp .le 7, 3) := by decide +kernel
theorem dX12_number_99 : decode cX12_number 99 = .ok (.iconst (-1), 1) := by decide +kernel
theorem dX12_number_100 : decode cX12_number 100 = .ok (.goto 4, 3) := by decide +kernel
theorem dX12_number_103 : decode cX12_number 103 = .ok (.iload_n 3, 1) := by decide +kernel
theorem dX12_number_104 : decode cX12_number 104 = .ok (.ireturn, 1) := by decide +kernel
theorem dX12_after_0 : decode cX12_after 0 = .ok (.aload_n 0, 1) := by decide +kernel
theorem dX12_after_1 : decode cX12_after 1 = .ok (.invokevirtual 122, 3) := by decide +kernel
theorem dX12_after_4 : decode cX12_after 4 = .ok (.aload_n 0, 1) := by decide +kernel
theorem dX12_after_5 : decode cX12_after 5 = .ok (.aload_n 1, 1) := by decide +kernel
theorem dX12_after_6 : decode cX12_after 6 = .ok (.invokevirtual 125, 3) := by decide +kernel
theorem dX12_after_9 : decode cX12_after 9 = .ok (.ifCond .eq 12, 3) := by decide +kernel
theorem dX12_after_12 : decode cX12_after 12 = .ok (.aload_n 0, 1) := by decide +kernel
theorem dX12_after_13 : decode cX12_after 13 = .ok (.iload_n 2, 1) := by decide +kernel
theorem dX12_after_14 : decode cX12_after 14 = .ok (.iload_n 3, 1) := by decide +kernel
theorem dX12_after_15 : decode cX12_after 15 = .ok (.invokevirtual 129, 3) := by decide +kernel
theorem dX12_after_18 : decode cX12_after 18 = .ok (.goto 4, 3) := by decide +kernel
theorem dX12_after_21 : decode cX12_after 21 = .ok (.iconst (-1), 1) := by decide +kernel
theorem dX12_after_22 : decode cX12_after 22 = .ok (.ireturn, 1) := by decide +kernel
theorem dX12_kindBy_0 : decode cX12_kindBy 0 = .ok (.iload_n 0, 1) := by decide +kernel
theorem dX12_kindBy_1 : decode cX12_kindBy 1 = .ok (.bipush 97, 2) := by decide +kernel
theorem dX12_kindBy_3 : decode cX12_kindBy 3 = .ok (.bipush 108, 2) := by decide +kernel
theorem dX12_kindBy_5 : decode cX12_kindBy 5 = .ok (.invokestatic 78, 3) := by decide +kernel
theorem dX12_kindBy_8 : decode cX12_kindBy 8 = .ok (.ifCond .eq 10, 3) := by decide +kernel
theorem dX12_kindBy_11 : decode cX12_kindBy 11 = .ok (.iload_n 0, 1) := by decide +kernel
theorem dX12_kindBy_12 : decode cX12_kindBy 12 = .ok (.bipush 97, 2) := by decide +kernel
theorem dX12_kindBy_14 : decode cX12_kindBy 14 = .ok (.isub, 1) := by decide +kernel
theorem dX12_kindBy_15 : decode cX12_kindBy 15 = .ok (.goto 4, 3) := by decide +kernel
theorem dX12_kindBy_18 : decode cX12_kindBy 18 = .ok (.iconst (-1), 1) := by decide +kernel
theorem dX12_kindBy_19 : decode cX12_kindBy 19 = .ok (.ireturn, 1) := by decide +kernel
theorem dX12_kindTold_0 : decode cX12_kindTold 0 = .ok (.aload_n 0, 1) := by decide +kernel
theorem dX12_kindTold_1 : decode cX12_kindTold 1 = .ok (.getfield 97, 3) := by decide +kernel
theorem dX12_kindTold_4 : decode cX12_kindTold 4 = .ok (.aload_n 0, 1) := by decide +kernel
theorem dX12_kindTold_5 : decode cX12_kindTold 5 = .ok (.getfield 107, 3) := by decide +kernel
theorem dX12_kindTold_8 : decode cX12_kindTold 8 = .ok (.isub, 1) := by decide +kernel
theorem dX12_kindTold_9 : decode cX12_kindTold 9 = .ok (.iconst 1, 1) := by decide +kernel
theorem dX12_kindTold_10 : decode cX12_kindTold 10 = .ok (.if_icmp .ne 18, 3) := by decide +kernel
theorem dX12_kindTold_13 : decode cX12_kindTold 13 = .ok (.aload_n 0, 1) := by decide +kernel
theorem dX12_kindTold_14 : decode cX12_kindTold 14 = .ok (.getfield 29, 3) := by decide +kernel
theorem dX12_kindTold_17 : decode cX12_kindTold 17 = .ok (.aload_n 0, 1) := by decide +kernel
theorem dX12_kindTold_18 : decode cX12_kindTold 18 = .ok (.getfield 107, 3) := by decide +kernel
theorem dX12_kindTold_21 : decode cX12_kindTold 21 = .ok (.baload, 1) := by decide +kernel
theorem dX12_kindTold_22 : decode cX12_kindTold 22 = .ok (.invokestatic 132, 3) := by decide +kernel
theorem dX12_kindTold_25 : decode cX12_kindTold 25 = .ok (.goto 4, 3) := by decide +kernel
theorem dX12_kindTold_28 : decode cX12_kindTold 28 = .ok (.iconst (-1), 1) := by decide +kernel
theorem dX12_kindTold_29 : decode cX12_kindTold 29 = .ok (.ireturn, 1) := by decide +kernel
theorem dX12_kindNext_0 : decode cX12_kindNext 0 = .ok (.aload_n 0, 1) := by decide +kernel
theorem dX12_kindNext_1 : decode cX12_kindNext 1 = .ok (.invokevirtual 122, 3) := by decide +kernel
theorem dX12_kindNext_4 : decode cX12_kindNext 4 = .ok (.aload_n 0, 1) := by decide +kernel
theorem dX12_kindNext_5 : decode cX12_kindNext 5 = .ok (.invokevirtual 135, 3) := by decide +kernel
theorem dX12_kindNext_8 : decode cX12_kindNext 8 = .ok (.ireturn, 1) := by decide +kernel
theorem dX12_fault_0 : decode cX12_fault 0 = .ok (.aload_n 0, 1) := by decide +kernel
theorem dX12_fault_1 : decode cX12_fault 1 = .ok (.iconst 0, 1) := by decide +kernel
theorem dX12_fault_2 : decode cX12_fault 2 = .ok (.putfield 3, 3) := by decide +kernel
theorem dX12_fault_5 : decode cX12_fault 5 = .ok (.aload_n 0, 1) := by decide +kernel
theorem dX12_fault_6 : decode cX12_fault 6 = .ok (.getfield 33, 3) := by decide +kernel
theorem dX12_fault_9 : decode cX12_fault 9 = .ok (.ireturn, 1) := by decide +kernel
theorem dX12_uses_0 : decode cX12_uses 0 = .ok (.aload_n 0, 1) := by decide +kernel
theorem dX12_uses_1 : decode cX12_uses 1 = .ok (.iconst 0, 1) := by decide +kernel
theorem dX12_uses_2 : decode cX12_uses 2 = .ok (.putfield 3, 3) := by decide +kernel
theorem dX12_uses_5 : decode cX12_uses 5 = .ok (.aload_n 0, 1) := by decide +kernel
theorem dX12_uses_6 : decode cX12_uses 6 = .ok (.aload_n 0, 1) := by decide +kernel
theorem dX12_uses_7 : decode cX12_uses 7 = .ok (.getfield 94, 3) := by decide +kernel
theorem dX12_uses_10 : decode cX12_uses 10 = .ok (.putfield 100, 3) := by decide +kernel
theorem dX12_uses_13 : decode cX12_uses 13 = .ok (.aload_n 0, 1) := by decide +kernel
theorem dX12_uses_14 : decode cX12_uses 14 = .ok (.iconst 0, 1) := by decide +kernel
theorem dX12_uses_15 : decode cX12_uses 15 = .ok (.putfield 94, 3) := by decide +kernel
theorem dX12_uses_18 : decode cX12_uses 18 = .ok (.aload_n 0, 1) := by decide +kernel
theorem dX12_uses_19 : decode cX12_uses 19 = .ok (.iconst 0, 1) := by decide +kernel
theorem dX12_uses_20 : decode cX12_uses 20 = .ok (.putfield 97, 3) := by decide +kernel
theorem dX12_uses_23 : decode cX12_uses 23 = .ok (.return_, 1) := by decide +kernel
theorem dX12_begins_0 : decode cX12_begins 0 = .ok (.aload_n 0, 1) := by decide +kernel
theorem dX12_begins_1 : decode cX12_begins 1 = .ok (.invokevirtual 74, 3) := by decide +kernel
theorem dX12_begins_4 : decode cX12_begins 4 = .ok (.istore_n 3, 1) := by decide +kernel
theorem dX12_begins_5 : decode cX12_begins 5 = .ok (.iconst 0, 1) := by decide +kernel
theorem dX12_begins_6 : decode cX12_begins 6 = .ok (.istore 4, 2) := by decide +kernel
theorem dX12_begins_8 : decode cX12_begins 8 = .ok (.iload 4, 2) := by decide +kernel
theorem dX12_begins_10 : decode cX12_begins 10 = .ok (.bipush 53, 2) := by decide +kernel
theorem dX12_begins_12 : decode cX12_begins 12 = .ok (.if_icmp .ge 21, 3) := by decide +kernel
theorem dX12_begins_15 : decode cX12_begins 15 = .ok (.aload_n 0, 1) := by decide +kernel
theorem dX12_begins_16 : decode cX12_begins 16 = .ok (.getfield 13, 3) := by decide +kernel
theorem dX12_begins_19 : decode cX12_begins 19 = .ok (.iload_n 3, 1) := by decide +kernel
theorem dX12_begins_20 : decode cX12_begins 20 = .ok (.iload 4, 2) := by decide +kernel
theorem dX12_begins_22 : decode cX12_begins 22 = .ok (.invokestatic 67, 3) := by decide +kernel
theorem dX12_begins_25 : decode cX12_begins 25 = .ok (.iconst 0, 1) := by decide +kernel
theorem dX12_begins_26 : decode cX12_begins 26 = .ok (.iastore, 1) := by decide +kernel
theorem dX12_begins_27 : decode cX12_begins 27 = .ok (.iinc 4 1, 3) := by decide +kernel
theorem dX12_begins_30 : decode cX12_begins 30 = .ok (.goto (-22), 3) := by decide +kernel
theorem dX12_begins_33 : decode cX12_begins 33 = .ok (.aload_n 0, 1) := by decide +kernel
theorem dX12_begins_34 : decode cX12_begins 34 = .ok (.getfield 13, 3) := by decide +kernel
theorem dX12_begins_37 : decode cX12_begins 37 = .ok (.iload_n 3, 1) := by decide +kernel
theorem dX12_begins_38 : decode cX12_begins 38 = .ok (.iconst 2, 1) := by decide +kernel
theorem dX12_begins_39 : decode cX12_begins 39 = .ok (.invokestatic 67, 3) := by decide +kernel
theorem dX12_begins_42 : decode cX12_begins 42 = .ok (.iload_n 1, 1) := by decide +kernel
theorem dX12_begins_43 : decode cX12_begins 43 = .ok (.iastore, 1) := by decide +kernel
theorem dX12_begins_44 : decode cX12_begins 44 = .ok (.aload_n 0, 1) := by decide +kernel
theorem dX12_begins_45 : decode cX12_begins 45 = .ok (.getfield 13, 3) := by decide +kernel
theorem dX12_begins_48 : decode cX12_begins 48 = .ok (.iload_n 3, 1) := by decide +kernel
theorem dX12_begins_49 : decode cX12_begins 49 = .ok (.iconst 1, 1) := by decide +kernel
theorem dX12_begins_50 : decode cX12_begins 50 = .ok (.invokestatic 67, 3) := by decide +kernel
theorem dX12_begins_53 : decode cX12_begins 53 = .ok (.iload_n 2, 1) := by decide +kernel
theorem dX12_begins_54 : decode cX12_begins 54 = .ok (.iastore, 1) := by decide +kernel
theorem dX12_begins_55 : decode cX12_begins 55 = .ok (.aload_n 0, 1) := by decide +kernel
theorem dX12_begins_56 : decode cX12_begins 56 = .ok (.getfield 13, 3) := by decide +kernel
theorem dX12_begins_59 : decode cX12_begins 59 = .ok (.iconst 0, 1) := by decide +kernel
theorem dX12_begins_60 : decode cX12_begins 60 = .ok (.dup2, 1) := by decide +kernel
theorem dX12_begins_61 : decode cX12_begins 61 = .ok (.iaload, 1) := by decide +kernel
theorem dX12_begins_62 : decode cX12_begins 62 = .ok (.iconst 1, 1) := by decide +kernel
theorem dX12_begins_63 : decode cX12_begins 63 = .ok (.iadd, 1) := by decide +kernel
theorem dX12_begins_64 : decode cX12_begins 64 = .ok (.iastore, 1) := by decide +kernel
theorem dX12_begins_65 : decode cX12_begins 65 = .ok (.iload_n 3, 1) := by decide +kernel
theorem dX12_begins_66 : decode cX12_begins 66 = .ok (.ireturn, 1) := by decide +kernel
theorem dX12_comes_0 : decode cX12_comes 0 = .ok (.aload_n 0, 1) := by decide +kernel
theorem dX12_comes_1 : decode cX12_comes 1 = .ok (.iload_n 1, 1) := by decide +kernel
theorem dX12_comes_2 : decode cX12_comes 2 = .ok (.invokevirtual 86, 3) := by decide +kernel
theorem dX12_comes_5 : decode cX12_comes 5 = .ok (.istore_n 3, 1) := by decide +kernel
theorem dX12_comes_6 : decode cX12_comes 6 = .ok (.aload_n 0, 1) := by decide +kernel
theorem dX12_comes_7 : decode cX12_comes 7 = .ok (.getfield 13, 3) := by decide +kernel
theorem dX12_comes_10 : decode cX12_comes 10 = .ok (.iload_n 1, 1) := by decide +kernel
theorem dX12_comes_11 : decode cX12_comes 11 = .ok (.iconst 5, 1) := by decide +kernel
theorem dX12_comes_12 : decode cX12_comes 12 = .ok (.iload_n 3, 1) := by decide +kernel
theorem dX12_comes_13 : decode cX12_comes 13 = .ok (.iadd, 1) := by decide +kernel
theorem dX12_comes_14 : decode cX12_comes 14 = .ok (.invokestatic 67, 3) := by decide +kernel
theorem dX12_comes_17 : decode cX12_comes 17 = .ok (.iload_n 2, 1) := by decide +kernel
theorem dX12_comes_18 : decode cX12_comes 18 = .ok (.iastore, 1) := by decide +kernel
theorem dX12_comes_19 : decode cX12_comes 19 = .ok (.aload_n 0, 1) := by decide +kernel
theorem dX12_comes_20 : decode cX12_comes 20 = .ok (.getfield 13, 3) := by decide +kernel
theorem dX12_comes_23 : decode cX12_comes 23 = .ok (.iload_n 1, 1) := by decide +kernel
theorem dX12_comes_24 : decode cX12_comes 24 = .ok (.bipush 29, 2) := by decide +kernel
theorem dX12_comes_26 : decode cX12_comes 26 = .ok (.iload_n 3, 1) := by decide +kernel
theorem dX12_comes_27 : decode cX12_comes 27 = .ok (.iadd, 1) := by decide +kernel
theorem dX12_comes_28 : decode cX12_comes 28 = .ok (.invokestatic 67, 3) := by decide +kernel
theorem dX12_comes_31 : decode cX12_comes 31 = .ok (.aload_n 0, 1) := by decide +kernel
theorem dX12_comes_32 : decode cX12_comes 32 = .ok (.getfield 13, 3) := by decide +kernel
theorem dX12_comes_35 : decode cX12_comes 35 = .ok (.iconst 4, 1) := by decide +kernel
theorem dX12_comes_36 : decode cX12_comes 36 = .ok (.iaload, 1) := by decide +kernel
theorem dX12_comes_37 : decode cX12_comes 37 = .ok (.iastore, 1) := by decide +kernel
theorem dX12_comes_38 : decode cX12_comes 38 = .ok (.aload_n 0, 1) := by decide +kernel
theorem dX12_comes_39 : decode cX12_comes 39 = .ok (.getfield 13, 3) := by decide +kernel
theorem dX12_comes_42 : decode cX12_comes 42 = .ok (.iload_n 1, 1) := by decide +kernel
theorem dX12_comes_43 : decode cX12_comes 43 = .ok (.iconst 0, 1) := by decide +kernel
theorem dX12_comes_44 : decode cX12_comes 44 = .ok (.invokestatic 67, 3) := by decide +kernel
theorem dX12_comes_47 : decode cX12_comes 47 = .ok (.dup2, 1) := by decide +kernel
theorem dX12_comes_48 : decode cX12_comes 48 = .ok (.iaload, 1) := by decide +kernel
theorem dX12_comes_49 : decode cX12_comes 49 = .ok (.iconst 1, 1) := by decide +kernel
theorem dX12_comes_50 : decode cX12_comes 50 = .ok (.iadd, 1) := by decide +kernel
theorem dX12_comes_51 : decode cX12_comes 51 = .ok (.iastore, 1) := by decide +kernel
theorem dX12_comes_52 : decode cX12_comes 52 = .ok (.return_, 1) := by decide +kernel
theorem dX12_readLetter_0 : decode cX12_readLetter 0 = .ok (.aload_n 0, 1) := by decide +kernel
theorem dX12_readLetter_1 : decode cX12_readLetter 1 = .ok (.invokevirtual 74, 3) := by decide +kernel
theorem dX12_readLetter_4 : decode cX12_readLetter 4 = .ok (.bipush 8, 2) := by decide +kernel
theorem dX12_readLetter_6 : decode cX12_readLetter 6 = .ok (.if_icmp .ne 5, 3) := by decide +kernel
theorem dX12_readLetter_9 : decode cX12_readLetter 9 = .ok (.iconst 0, 1) := by decide +kernel
theorem dX12_readLetter_10 : decode cX12_readLetter 10 = .ok (.ireturn, 1) := by decide +kernel
theorem dX12_readLetter_11 : decode cX12_readLetter 11 = .ok (.aload_n 0, 1) := by decide +kernel
theorem dX12_readLetter_12 : decode cX12_readLetter 12 = .ok (.ldc 138, 2) := by decide +kernel
theorem dX12_readLetter_14 : decode cX12_readLetter 14 = .ok (.iconst 0, 1) := by decide +kernel
theorem dX12_readLetter_15 : decode cX12_readLetter 15 = .ok (.bipush 9, 2) := by decide +kernel
theorem dX12_readLetter_17 : decode cX12_readLetter 17 = .ok (.invokevirtual 140, 3) := by decide +kernel
theorem dX12_readLetter_20 : decode cX12_readLetter 20 = .ok (.istore_n 1, 1) := by decide +kernel
theorem dX12_readLetter_21 : decode cX12_readLetter 21 = .ok (.iload_n 1, 1) := by decide +kernel
theorem dX12_readLetter_22 : decode cX12_readLetter 22 = .ok (.ifCond .ge 7, 3) := by decide +kernel
theorem dX12_readLetter_25 : decode cX12_readLetter 25 = .ok (.iconst (-1), 1) := by decide +kernel
theorem dX12_readLetter_26 : decode cX12_readLetter 26 = .ok (.goto 12, 3) := by decide +kernel
theorem dX12_readLetter_29 : decode cX12_readLetter 29 = .ok (.aload_n 0, 1) := by decide +kernel
theorem dX12_readLetter_30 : decode cX12_readLetter 30 = .ok (.ldc 144, 2) := by decide +kernel
theorem dX12_readLetter_32 : decode cX12_readLetter 32 = .ok (.iconst 0, 1) := by decide +kernel
theorem dX12_readLetter_33 : decode cX12_readLetter 33 = .ok (.bipush 9, 2) := by decide +kernel
theorem dX12_readLetter_35 : decode cX12_readLetter 35 = .ok (.invokevirtual 140, 3) := by decide +kernel
theorem dX12_readLetter_38 : decode cX12_readLetter 38 = .ok (.istore_n 2, 1) := by decide +kernel
theorem dX12_readLetter_39 : decode cX12_readLetter 39 = .ok (.iload_n 2, 1) := by decide +kernel
theorem dX12_readLetter_40 : decode cX12_readLetter 40 = .ok (.ifCond .ge 5, 3) := by decide +kernel
theorem dX12_readLetter_43 : decode cX12_readLetter 43 = .ok (.iconst 0, 1) := by decide +kernel
theorem dX12_readLetter_44 : decode cX12_readLetter 44 = .ok (.ireturn, 1) := by decide +kernel
theorem dX12_readLetter_45 : decode cX12_readLetter 45 = .ok (.aload_n 0, 1) := by decide +kernel
theorem dX12_readLetter_46 : decode cX12_readLetter 46 = .ok (.invokevirtual 122, 3) := by decide +kernel
theorem dX12_readLetter_49 : decode cX12_readLetter 49 = .ok (.aload_n 0, 1) := by decide +kernel
theorem dX12_readLetter_50 : decode cX12_readLetter 50 = .ok (.getfield 97, 3) := by decide +kernel
theorem dX12_readLetter_53 : decode cX12_readLetter 53 = .ok (.aload_n 0, 1) := by decide +kernel
theorem dX12_readLetter_54 : decode cX12_readLetter 54 = .ok (.getfield 107, 3) := by decide +kernel
theorem dX12_readLetter_57 : decode cX12_readLetter 57 = .ok (.isub, 1) := by decide +kernel
theorem dX12_readLetter_58 : decode cX12_readLetter 58 = .ok (.iconst 1, 1) := by decide +kernel
theorem dX12_readLetter_59 : decode cX12_readLetter 59 = .ok (.bipush 24, 2) := by decide +kernel
theorem dX12_readLetter_61 : decode cX12_readLetter 61 = .ok (.invokestatic 78, 3) := by decide +kernel
theorem dX12_readLetter_64 : decode cX12_readLetter 64 = .ok (.ifCond .ne 5, 3) := by decide +kernel
theorem dX12_readLetter_67 : decode cX12_readLetter 67 = .ok (.iconst 0, 1) := by decide +kernel
theorem dX12_readLetter_68 : decode cX12_readLetter 68 = .ok (.ireturn, 1) := by decide +kernel
theorem dX12_readLetter_69 : decode cX12_readLetter 69 = .ok (.aload_n 0, 1) := by decide +kernel
theorem dX12_readLetter_70 : decode cX12_readLetter 70 = .ok (.iload_n 1, 1) := by decide +kernel
theorem dX12_readLetter_71 : decode cX12_readLetter 71 = .ok (.iload_n 2, 1) := by decide +kernel
theorem dX12_readLetter_72 : decode cX12_readLetter 72 = .ok (.invokevirtual 146, 3) := by decide +kernel
theorem dX12_readLetter_75 : decode cX12_readLetter 75 = .ok (.istore_n 3, 1) := by decide +kernel
theorem dX12_readLetter_76 : decode cX12_readLetter 76 = .ok (.aload_n 0, 1) := by decide +kernel
theorem dX12_readLetter_77 : decode cX12_readLetter 77 = .ok (.getfield 107, 3) := by decide +kernel
theorem dX12_readLetter_80 : decode cX12_readLetter 80 = .ok (.istore 4, 2) := by decide +kernel
theorem dX12_readLetter_82 : decode cX12_readLetter 82 = .ok (.iload 4, 2) := by decide +kernel
theorem dX12_readLetter_84 : decode cX12_readLetter 84 = .ok (.aload_n 0, 1) := by decide +kernel
theorem dX12_readLetter_85 : decode cX12_readLetter 85 = .ok (.getfield 97, 3) := by decide +kernel
theorem dX12_readLetter_88 : decode cX12_readLetter 88 = .ok (.if_icmp .ge 39, 3) := by decide +kernel
theorem dX12_readLetter_91 : decode cX12_readLetter 91 = .ok (.aload_n 0, 1) := by decide +kernel
theorem dX12_readLetter_92 : decode cX12_readLetter 92 = .ok (.getfield 29, 3) := by decide +kernel
theorem dX12_readLetter_95 : decode cX12_readLetter 95 = .ok (.iload 4, 2) := by decide +kernel
theorem dX12_readLetter_97 : decode cX12_readLetter 97 = .ok (.baload, 1) := by decide +kernel
theorem dX12_readLetter_98 : decode cX12_readLetter 98 = .ok (.invokestatic 132, 3) := by decide +kernel
theorem dX12_readLetter_101 : decode cX12_readLetter 101 = .ok (.ifCond .ge 5, 3) := by decide +kernel
theorem dX12_readLetter_104 : decode cX12_readLetter 104 = .ok (.iconst 0, 1) := by decide +kernel
theorem dX12_readLetter_105 : decode cX12_readLetter 105 = .ok (.ireturn, 1) := by decide +kernel
theorem dX12_readLetter_106 : decode cX12_readLetter 106 = .ok (.aload_n 0, 1) := by decide +kernel
theorem dX12_readLetter_107 : decode cX12_readLetter 107 = .ok (.iload_n 3, 1) := by decide +kernel
theorem dX12_readLetter_108 : decode cX12_readLetter 108 = .ok (.aload_n 0, 1) := by decide +kernel
theorem dX12_readLetter_109 : decode cX12_readLetter 109 = .ok (.getfield 29, 3) := by decide +kernel
theorem dX12_readLetter_112 : decode cX12_readLetter 112 = .ok (.iload 4, 2) := by decide +kernel
theorem dX12_readLetter_114 : decode cX12_readLetter 114 = .ok (.baload, 1) := by decide +kernel
theorem dX12_readLetter_115 : decode cX12_readLetter 115 = .ok (.invokestatic 132, 3) := by decide +kernel
theorem dX12_readLetter_118 : decode cX12_readLetter 118 = .ok (.invokevirtual 149, 3) := by decide +kernel
theorem dX12_readLetter_121 : decode cX12_readLetter 121 = .ok (.iinc 4 1, 3) := by decide +kernel
theorem dX12_readLetter_124 : decode cX12_readLetter 124 = .ok (.goto (-42), 3) := by decide +kernel
theorem dX12_readLetter_127 : decode cX12_readLetter 127 = .ok (.iconst 1, 1) := by decide +kernel
theorem dX12_readLetter_128 : decode cX12_readLetter 128 = .ok (.ireturn, 1) := by decide +kernel
theorem dX12_readWords_0 : decode cX12_readWords 0 = .ok (.aload_n 0, 1) := by decide +kernel
theorem dX12_readWords_1 : decode cX12_readWords 1 = .ok (.invokevirtual 153, 3) := by decide +kernel
theorem dX12_readWords_4 : decode cX12_readWords 4 = .ok (.istore_n 1, 1) := by decide +kernel
theorem dX12_readWords_5 : decode cX12_readWords 5 = .ok (.iload_n 1, 1) := by decide +kernel
theorem dX12_readWords_6 : decode cX12_readWords 6 = .ok (.ifCond .ge 7, 3) := by decide +kernel
theorem dX12_readWords_9 : decode cX12_readWords 9 = .ok (.iconst (-1), 1) := by decide +kernel
theorem dX12_readWords_10 : decode cX12_readWords 10 = .ok (.goto 10, 3) := by decide +kernel
theorem dX12_readWords_13 : decode cX12_readWords 13 = .ok (.aload_n 0, 1) := by decide +kernel
theorem dX12_readWords_14 : decode cX12_readWords 14 = .ok (.iconst 1, 1) := by decide +kernel
theorem dX12_readWords_15 : decode cX12_readWords 15 = .ok (.bipush 9, 2) := by decide +kernel
theorem dX12_readWords_17 : decode cX12_readWords 17 = .ok (.invokevirtual 129, 3) := by decide +kernel
theorem dX12_readWords_20 : decode cX12_readWords 20 = .ok (.istore_n 2, 1) := by decide +kernel
theorem dX12_readWords_21 : decode cX12_readWords 21 = .ok (.iload_n 2, 1) := by decide +kernel
theorem dX12_readWords_22 : decode cX12_readWords 22 = .ok (.ifCond .lt 13, 3) := by decide +kernel
theorem dX12_readWords_25 : decode cX12_readWords 25 = .ok (.aload_n 0, 1) := by decide +kernel
theorem dX12_readWords_26 : decode cX12_readWords 26 = .ok (.getfield 13, 3) := by decide +kernel
theorem dX12_readWords_29 : decode cX12_readWords 29 = .ok (.bipush 8, 2) := by decide +kernel
theorem dX12_readWords_31 : decode cX12_readWords 31 = .ok (.iload_n 1, 1) := by decide +kernel
theorem dX12_readWords_32 : decode cX12_readWords 32 = .ok (.iadd, 1) := by decide +kernel
theorem dX12_readWords_33 : decode cX12_readWords 33 = .ok (.iload_n 2, 1) := by decide +kernel
theorem dX12_readWords_34 : decode cX12_readWords 34 = .ok (.iastore, 1) := by decide +kernel
theorem dX12_readWords_35 : decode cX12_readWords 35 = .ok (.iload_n 2, 1) := by decide +kernel
theorem dX12_readWords_36 : decode cX12_readWords 36 = .ok (.ifCond .lt 7, 3) := by decide +kernel
theorem dX12_readWords_39 : decode cX12_readWords 39 = .ok (.iconst 1, 1) := by decide +kernel
theorem dX12_readWords_40 : decode cX12_readWords 40 = .ok (.goto 4, 3) := by decide +kernel
theorem dX12_readWords_43 : decode cX12_readWords 43 = .ok (.iconst 0, 1) := by decide +kernel
theorem dX12_readWords_44 : decode cX12_readWords 44 = .ok (.ireturn, 1) := by decide +kernel
theorem dX12_readPromise_0 : decode cX12_readPromise 0 = .ok (.bipush 20, 2) := by decide +kernel
theorem dX12_readPromise_2 : decode cX12_readPromise 2 = .ok (.iconst 2, 1) := by decide +kernel
theorem dX12_readPromise_3 : decode cX12_readPromise 3 = .ok (.aload_n 0, 1) := by decide +kernel
theorem dX12_readPromise_4 : decode cX12_readPromise 4 = .ok (.invokevirtual 90, 3) := by decide +kernel
theorem dX12_readPromise_7 : decode cX12_readPromise 7 = .ok (.imul, 1) := by decide +kernel
theorem dX12_readPromise_8 : decode cX12_readPromise 8 = .ok (.iadd, 1) := by decide +kernel
theorem dX12_readPromise_9 : decode cX12_readPromise 9 = .ok (.istore_n 1, 1) := by decide +kernel
theorem dX12_readPromise_10 : decode cX12_readPromise 10 = .ok (.aload_n 0, 1) := by decide +kernel
theorem dX12_readPromise_11 : decode cX12_readPromise 11 = .ok (.invokevirtual 90, 3) := by decide +kernel
theorem dX12_readPromise_14 : decode cX12_readPromise 14 = .ok (.bipush 8, 2) := by decide +kernel
theorem dX12_readPromise_16 : decode cX12_readPromise 16 = .ok (.if_icmp .ne 5, 3) := by decide +kernel
theorem dX12_readPromise_19 : decode cX12_readPromise 19 = .ok (.iconst 0, 1) := by decide +kernel
theorem dX12_readPromise_20 : decode cX12_readPromise 20 = .ok (.ireturn, 1) := by decide +kernel
theorem dX12_readPromise_21 : decode cX12_readPromise 21 = .ok (.aload_n 0, 1) := by decide +kernel
theorem dX12_readPromise_22 : decode cX12_readPromise 22 = .ok (.invokevirtual 153, 3) := by decide +kernel
theorem dX12_readPromise_25 : decode cX12_readPromise 25 = .ok (.istore_n 2, 1) := by decide +kernel
theorem dX12_readPromise_26 : decode cX12_readPromise 26 = .ok (.iload_n 2, 1) := by decide +kernel
theorem dX12_readPromise_27 : decode cX12_readPromise 27 = .ok (.ifCond .ge 7, 3) := by decide +kernel
theorem dX12_readPromise_30 : decode cX12_readPromise 30 = .ok (.iconst (-1), 1) := by decide +kernel
theorem dX12_readPromise_31 : decode cX12_readPromise 31 = .ok (.goto 7, 3) := by decide +kernel
theorem dX12_readPromise_34 : decode cX12_readPromise 34 = .ok (.aload_n 0, 1) := by decide +kernel
theorem dX12_readPromise_35 : decode cX12_readPromise 35 = .ok (.invokevirtual 153, 3) := by decide +kernel
theorem dX12_readPromise_38 : decode cX12_readPromise 38 = .ok (.istore_n 3, 1) := by decide +kernel
theorem dX12_readPromise_39 : decode cX12_readPromise 39 = .ok (.iload_n 3, 1) := by decide +kernel
theorem dX12_readPromise_40 : decode cX12_readPromise 40 = .ok (.ifCond .ge 5, 3) := by decide +kernel
theorem dX12_readPromise_43 : decode cX12_readPromise 43 = .ok (.iconst 0, 1) := by decide +kernel
theorem dX12_readPromise_44 : decode cX12_readPromise 44 = .ok (.ireturn, 1) := by decide +kernel
theorem dX12_readPromise_45 : decode cX12_readPromise 45 = .ok (.aload_n 0, 1) := by decide +kernel
theorem dX12_readPromise_46 : decode cX12_readPromise 46 = .ok (.getfield 13, 3) := by decide +kernel
theorem dX12_readPromise_49 : decode cX12_readPromise 49 = .ok (.iload_n 1, 1) := by decide +kernel
theorem dX12_readPromise_50 : decode cX12_readPromise 50 = .ok (.iload_n 2, 1) := by decide +kernel
theorem dX12_readPromise_51 : decode cX12_readPromise 51 = .ok (.iastore, 1) := by decide +kernel
theorem dX12_readPromise_52 : decode cX12_readPromise 52 = .ok (.aload_n 0, 1) := by decide +kernel
theorem dX12_readPromise_53 : decode cX12_readPromise 53 = .ok (.getfield 13, 3) := by decide +kernel
theorem dX12_readPromise_56 : decode cX12_readPromise 56 = .ok (.iload_n 1, 1) := by decide +kernel
theorem dX12_readPromise_57 : decode cX12_readPromise 57 = .ok (.iconst 1, 1) := by decide +kernel
theorem dX12_readPromise_58 : decode cX12_readPromise 58 = .ok (.iadd, 1) := by decide +kernel
theorem dX12_readPromise_59 : decode cX12_readPromise 59 = .ok (.iload_n 3, 1) := by decide +kernel
theorem dX12_readPromise_60 : decode cX12_readPromise 60 = .ok (.iastore, 1) := by decide +kernel
theorem dX12_readPromise_61 : decode cX12_readPromise 61 = .ok (.aload_n 0, 1) := by decide +kernel
theorem dX12_readPromise_62 : decode cX12_readPromise 62 = .ok (.getfield 13, 3) := by decide +kernel
theorem dX12_readPromise_65 : decode cX12_readPromise 65 = .ok (.iconst 1, 1) := by decide +kernel
theorem dX12_readPromise_66 : decode cX12_readPromise 66 = .ok (.dup2, 1) := by decide +kernel
theorem dX12_readPromise_67 : decode cX12_readPromise 67 = .ok (.iaload, 1) := by decide +kernel
theorem dX12_readPromise_68 : decode cX12_readPromise 68 = .ok (.iconst 1, 1) := by decide +kernel
theorem dX12_readPromise_69 : decode cX12_readPromise 69 = .ok (.iadd, 1) := by decide +kernel
theorem dX12_readPromise_70 : decode cX12_readPromise 70 = .ok (.iastore, 1) := by decide +kernel
theorem dX12_readPromise_71 : decode cX12_readPromise 71 = .ok (.iconst 1, 1) := by decide +kernel
theorem dX12_readPromise_72 : decode cX12_readPromise 72 = .ok (.ireturn, 1) := by decide +kernel
theorem dX12_readOf_0 : decode cX12_readOf 0 = .ok (.aload_n 0, 1) := by decide +kernel
theorem dX12_readOf_1 : decode cX12_readOf 1 = .ok (.iconst 0, 1) := by decide +kernel
theorem dX12_readOf_2 : decode cX12_readOf 2 = .ok (.aload_n 0, 1) := by decide +kernel
theorem dX12_readOf_3 : decode cX12_readOf 3 = .ok (.invokevirtual 74, 3) := by decide +kernel
theorem dX12_readOf_6 : decode cX12_readOf 6 = .ok (.iconst 1, 1) := by decide +kernel
theorem dX12_readOf_7 : decode cX12_readOf 7 = .ok (.isub, 1) := by decide +kernel
theorem dX12_readOf_8 : decode cX12_readOf 8 = .ok (.invokevirtual 129, 3) := by decide +kernel
theorem dX12_readOf_11 : decode cX12_readOf 11 = .ok (.istore_n 2, 1) := by decide +kernel
theorem dX12_readOf_12 : decode cX12_readOf 12 = .ok (.iload_n 2, 1) := by decide +kernel
theorem dX12_readOf_13 : decode cX12_readOf 13 = .ok (.ifCond .lt 14, 3) := by decide +kernel
theorem dX12_readOf_16 : decode cX12_readOf 16 = .ok (.aload_n 0, 1) := by decide +kernel
theorem dX12_readOf_17 : decode cX12_readOf 17 = .ok (.getfield 13, 3) := by decide +kernel
theorem dX12_readOf_20 : decode cX12_readOf 20 = .ok (.iload_n 2, 1) := by decide +kernel
theorem dX12_readOf_21 : decode cX12_readOf 21 = .ok (.iload_n 1, 1) := by decide +kernel
theorem dX12_readOf_22 : decode cX12_readOf 22 = .ok (.invokestatic 67, 3) := by decide +kernel
theorem dX12_readOf_25 : decode cX12_readOf 25 = .ok (.iconst 1, 1) := by decide +kernel
theorem dX12_readOf_26 : decode cX12_readOf 26 = .ok (.iastore, 1) := by decide +kernel
theorem dX12_readOf_27 : decode cX12_readOf 27 = .ok (.iload_n 2, 1) := by decide +kernel
theorem dX12_readOf_28 : decode cX12_readOf 28 = .ok (.ifCond .lt 7, 3) := by decide +kernel
theorem dX12_readOf_31 : decode cX12_readOf 31 = .ok (.iconst 1, 1) := by decide +kernel
theorem dX12_readOf_32 : decode cX12_readOf 32 = .ok (.goto 4, 3) := by decide +kernel
theorem dX12_readOf_35 : decode cX12_readOf 35 = .ok (.iconst 0, 1) := by decide +kernel
theorem dX12_readOf_36 : decode cX12_readOf 36 = .ok (.ireturn, 1) := by decide +kernel
theorem dX12_readNumber_0 : decode cX12_readNumber 0 = .ok (.aload_n 0, 1) := by decide +kernel
theorem dX12_readNumber_1 : decode cX12_readNumber 1 = .ok (.iload_n 2, 1) := by decide +kernel
theorem dX12_readNumber_2 : decode cX12_readNumber 2 = .ok (.iload_n 3, 1) := by decide +kernel
theorem dX12_readNumber_3 : decode cX12_readNumber 3 = .ok (.invokevirtual 129, 3) := by decide +kernel
theorem dX12_readNumber_6 : decode cX12_readNumber 6 = .ok (.istore 4, 2) := by decide +kernel
theorem dX12_readNumber_8 : decode cX12_readNumber 8 = .ok (.aload_n 0, 1) := by decide +kernel
theorem dX12_readNumber_9 : decode cX12_readNumber 9 = .ok (.getfield 13, 3) := by decide +kernel
theorem dX12_readNumber_12 : decode cX12_readNumber 12 = .ok (.iload_n 1, 1) := by decide +kernel
theorem dX12_readNumber_13 : decode cX12_readNumber 13 = .ok (.iload 4, 2) := by decide +kernel
theorem dX12_readNumber_15 : decode cX12_readNumber 15 = .ok (.ifCond .ge 12, 3) := by decide +kernel
theorem dX12_readNumber_18 : decode cX12_readNumber 18 = .ok (.aload_n 0, 1) := by decide +kernel
theorem dX12_readNumber_19 : decode cX12_readNumber 19 = .ok (.getfield 13, 3) := by decide +kernel
theorem dX12_readNumber_22 : decode cX12_readNumber 22 = .ok (.iload_n 1, 1) := by decide +kernel
theorem dX12_readNumber_23 : decode cX12_readNumber 23 = .ok (.iaload, 1) := by decide +kernel
theorem dX12_readNumber_24 : decode cX12_readNumber 24 = .ok (.goto 5, 3) := by decide +kernel
theorem dX12_readNumber_27 : decode cX12_readNumber 27 = .ok (.iload 4, 2) := by decide +kernel
theorem dX12_readNumber_29 : decode cX12_readNumber 29 = .ok (.iastore, 1) := by decide +kernel
theorem dX12_readNumber_30 : decode cX12_readNumber 30 = .ok (.iload 4, 2) := by decide +kernel
theorem dX12_readNumber_32 : decode cX12_readNumber 32 = .ok (.ifCond .lt 7, 3) := by decide +kernel
theorem dX12_readNumber_35 : decode cX12_readNumber 35 = .ok (.iconst 1, 1) := by decide +kernel
theorem dX12_readNumber_36 : decode cX12_readNumber 36 = .ok (.goto 4, 3) := by decide +kernel
theorem dX12_readNumber_39 : decode cX12_readNumber 39 = .ok (.iconst 0, 1) := by decide +kernel
theorem dX12_readNumber_40 : decode cX12_readNumber 40 = .ok (.ireturn, 1) := by decide +kernel
theorem dX12_readPostLine_0 : decode cX12_readPostLine 0 = .ok (.aload_n 0, 1) := by decide +kernel
theorem dX12_readPostLine_1 : decode cX12_readPostLine 1 = .ok (.ldc 156, 2) := by decide +kernel
theorem dX12_readPostLine_3 : decode cX12_readPostLine 3 = .ok (.invokevirtual 125, 3) := by decide +kernel
theorem dX12_readPostLine_6 : decode cX12_readPostLine 6 = .ok (.ifCond .eq 8, 3) := by decide +kernel
theorem dX12_readPostLine_9 : decode cX12_readPostLine 9 = .ok (.aload_n 0, 1) := by decide +kernel
theorem dX12_readPostLine_10 : decode cX12_readPostLine 10 = .ok (.invokevirtual 158, 3) := by decide +kernel
theorem dX12_readPostLine_13 : decode cX12_readPostLine 13 = .ok (.ireturn, 1) := by decide +kernel
theorem dX12_readPostLine_14 : decode cX12_readPostLine 14 = .ok (.aload_n 0, 1) := by decide +kernel
theorem dX12_readPostLine_15 : decode cX12_readPostLine 15 = .ok (.ldc 162, 2) := by decide +kernel
theorem dX12_readPostLine_17 : decode cX12_readPostLine 17 = .ok (.invokevirtual 125, 3) := by decide +kernel
theorem dX12_readPostLine_20 : decode cX12_readPostLine 20 = .ok (.ifCond .eq 8, 3) := by decide +kernel
theorem dX12_readPostLine_23 : decode cX12_readPostLine 23 = .ok (.aload_n 0, 1) := by decide +kernel
theorem dX12_readPostLine_24 : decode cX12_readPostLine 24 = .ok (.invokevirtual 164, 3) := by decide +kernel
theorem dX12_readPostLine_27 : decode cX12_readPostLine 27 = .ok (.ireturn, 1) := by decide +kernel
theorem dX12_readPostLine_28 : decode cX12_readPostLine 28 = .ok (.aload_n 0, 1) := by decide +kernel
theorem dX12_readPostLine_29 : decode cX12_readPostLine 29 = .ok (.ldc 167, 2) := by decide +kernel
theorem dX12_readPostLine_31 : decode cX12_readPostLine 31 = .ok (.invokevirtual 125, 3) := by decide +kernel
theorem dX12_readPostLine_34 : decode cX12_readPostLine 34 = .ok (.ifCond .eq 8, 3) := by decide +kernel
theorem dX12_readPostLine_37 : decode cX12_readPostLine 37 = .ok (.aload_n 0, 1) := by decide +kernel
theorem dX12_readPostLine_38 : decode cX12_readPostLine 38 = .ok (.invokevirtual 169, 3) := by decide +kernel
theorem dX12_readPostLine_41 : decode cX12_readPostLine 41 = .ok (.ireturn, 1) := by decide +kernel
theorem dX12_readPostLine_42 : decode cX12_readPostLine 42 = .ok (.aload_n 0, 1) := by decide +kernel
theorem dX12_readPostLine_43 : decode cX12_readPostLine 43 = .ok (.ldc 172, 2) := by decide +kernel
theorem dX12_readPostLine_45 : decode cX12_readPostLine 45 = .ok (.invokevirtual 125, 3) := by decide +kernel
theorem dX12_readPostLine_48 : decode cX12_readPostLine 48 = .ok (.ifCond .eq 12, 3) := by decide +kernel
theorem dX12_readPostLine_51 : decode cX12_readPostLine 51 = .ok (.aload_n 0, 1) := by decide +kernel
theorem dX12_readPostLine_52 : decode cX12_readPostLine 52 = .ok (.iconst 5, 1) := by decide +kernel
theorem dX12_readPostLine_53 : decode cX12_readPostLine 53 = .ok (.iconst 0, 1) := by decide +kernel
theorem dX12_readPostLine_54 : decode cX12_readPostLine 54 = .ok (.bipush 100, 2) := by decide +kernel
theorem dX12_readPostLine_56 : decode cX12_readPostLine 56 = .ok (.invokevirtual 174, 3) := by decide +kernel
theorem dX12_readPostLine_59 : decode cX12_readPostLine 59 = .ok (.ireturn, 1) := by decide +kernel
theorem dX12_readPostLine_60 : decode cX12_readPostLine 60 = .ok (.aload_n 0, 1) := by decide +kernel
theorem dX12_readPostLine_61 : decode cX12_readPostLine 61 = .ok (.ldc 177, 2) := by decide +kernel
theorem dX12_readPostLine_63 : decode cX12_readPostLine 63 = .ok (.invokevirtual 125, 3) := by decide +kernel
theorem dX12_readPostLine_66 : decode cX12_readPostLine 66 = .ok (.ifCond .eq 9, 3) := by decide +kernel
theorem dX12_readPostLine_69 : decode cX12_readPostLine 69 = .ok (.aload_n 0, 1) := by decide +kernel
theorem dX12_readPostLine_70 : decode cX12_readPostLine 70 = .ok (.iconst 4, 1) := by decide +kernel
theorem dX12_readPostLine_71 : decode cX12_readPostLine 71 = .ok (.invokevirtual 179, 3) := by decide +kernel
theorem dX12_readPostLine_74 : decode cX12_readPostLine 74 = .ok (.ireturn, 1) := by decide +kernel
theorem dX12_readPostLine_75 : decode cX12_readPostLine 75 = .ok (.aload_n 0, 1) := by decide +kernel
theorem dX12_readPostLine_76 : decode cX12_readPostLine 76 = .ok (.ldc 182, 2) := by decide +kernel
theorem dX12_readPostLine_78 : decode cX12_readPostLine 78 = .ok (.invokevirtual 125, 3) := by decide +kernel
theorem dX12_readPostLine_81 : decode cX12_readPostLine 81 = .ok (.ifCond .eq 9, 3) := by decide +kernel
theorem dX12_readPostLine_84 : decode cX12_readPostLine 84 = .ok (.aload_n 0, 1) := by decide +kernel
theorem dX12_readPostLine_85 : decode cX12_readPostLine 85 = .ok (.iconst 3, 1) := by decide +kernel
theorem dX12_readPostLine_86 : decode cX12_readPostLine 86 = .ok (.invokevirtual 179, 3) := by decide +kernel
theorem dX12_readPostLine_89 : decode cX12_readPostLine 89 = .ok (.ireturn, 1) := by decide +kernel
theorem dX12_readPostLine_90 : decode cX12_readPostLine 90 = .ok (.aload_n 0, 1) := by decide +kernel
theorem dX12_readPostLine_91 : decode cX12_readPostLine 91 = .ok (.ldc 184, 2) := by decide +kernel
theorem dX12_readPostLine_93 : decode cX12_readPostLine 93 = .ok (.invokevirtual 125, 3) := by decide +kernel
theorem dX12_readPostLine_96 : decode cX12_readPostLine 96 = .ok (.ifCond .eq 24, 3) := by decide +kernel
theorem dX12_readPostLine_99 : decode cX12_readPostLine 99 = .ok (.aload_n 0, 1) := by decide +kernel
theorem dX12_readPostLine_100 : decode cX12_readPostLine 100 = .ok (.iconst 4, 1) := by decide +kernel
theorem dX12_readPostLine_101 : decode cX12_readPostLine 101 = .ok (.aload_n 0, 1) := by decide +kernel
theorem dX12_readPostLine_102 : decode cX12_readPostLine 102 = .ok (.getfield 13, 3) := by decide +kernel
theorem dX12_readPostLine_105 : decode cX12_readPostLine 105 = .ok (.iconst 4, 1) := by decide +kernel
theorem dX12_readPostLine_106 : decode cX12_readPostLine 106 = .ok (.iaload, 1) := by decide +kernel
theorem dX12_readPostLine_107 : decode cX12_readPostLine 107 = .ok (.sipush 999, 3) := by decide +kernel
theorem dX12_readPostLine_110 : decode cX12_readPostLine 110 = .ok (.invokevirtual 174, 3) := by decide +kernel
theorem dX12_readPostLine_113 : decode cX12_readPostLine 113 = .ok (.ifCond .eq 7, 3) := by decide +kernel
theorem dX12_readPostLine_116 : decode cX12_readPostLine 116 = .ok (.iconst 1, 1) := by decide +kernel
theorem dX12_readPostLine_117 : decode cX12_readPostLine 117 = .ok (.goto 4, 3) := by decide +kernel
theorem dX12_readPostLine_120 : decode cX12_readPostLine 120 = .ok (.iconst 0, 1) := by decide +kernel
theorem dX12_readPostLine_121 : decode cX12_readPostLine 121 = .ok (.ireturn, 1) := by decide +kernel
theorem dX12_emits_0 : decode cX12_emits 0 = .ok (.aload_n 0, 1) := by decide +kernel
theorem dX12_emits_1 : decode cX12_emits 1 = .ok (.getfield 13, 3) := by decide +kernel
theorem dX12_emits_4 : decode cX12_emits 4 = .ok (.sipush 1358, 3) := by decide +kernel
theorem dX12_emits_7 : decode cX12_emits 7 = .ok (.iconst 2, 1) := by decide +kernel
theorem dX12_emits_8 : decode cX12_emits 8 = .ok (.aload_n 0, 1) := by decide +kernel
theorem dX12_emits_9 : decode cX12_emits 9 = .ok (.getfield 186, 3) := by decide +kernel
theorem dX12_emits_12 : decode cX12_emits 12 = .ok (.imul, 1) := by decide +kernel
theorem dX12_emits_13 : decode cX12_emits 13 = .ok (.iadd, 1) := by decide +kernel
theorem dX12_emits_14 : decode cX12_emits 14 = .ok (.iload_n 1, 1) := by decide +kernel
theorem dX12_emits_15 : decode cX12_emits 15 = .ok (.iastore, 1) := by decide +kernel
theorem dX12_emits_16 : decode cX12_emits 16 = .ok (.aload_n 0, 1) := by decide +kernel
theorem dX12_emits_17 : decode cX12_emits 17 = .ok (.getfield 13, 3) := by decide +kernel
theorem dX12_emits_20 : decode cX12_emits 20 = .ok (.sipush 1358, 3) := by decide +kernel
theorem dX12_emits_23 : decode cX12_emits 23 = .ok (.iconst 2, 1) := by decide +kernel
theorem dX12_emits_24 : decode cX12_emits 24 = .ok (.aload_n 0, 1) := by decide +kernel
theorem dX12_emits_25 : decode cX12_emits 25 = .ok (.getfield 186, 3) := by decide +kernel
theorem dX12_emits_28 : decode cX12_emits 28 = .ok (.imul, 1) := by decide +kernel
theorem dX12_emits_29 : decode cX12_emits 29 = .ok (.iadd, 1) := by decide +kernel
theorem dX12_emits_30 : decode cX12_emits 30 = .ok (.iconst 1, 1) := by decide +kernel
theorem dX12_emits_31 : decode cX12_emits 31 = .ok (.iadd, 1) := by decide +kernel
theorem dX12_emits_32 : decode cX12_emits 32 = .ok (.iload_n 2, 1) := by decide +kernel
theorem dX12_emits_33 : decode cX12_emits 33 = .ok (.iastore, 1) := by decide +kernel
theorem dX12_emits_34 : decode cX12_emits 34 = .ok (.aload_n 0, 1) := by decide +kernel
theorem dX12_emits_35 : decode cX12_emits 35 = .ok (.dup, 1) := by decide +kernel
theorem dX12_emits_36 : decode cX12_emits 36 = .ok (.getfield 186, 3) := by decide +kernel
theorem dX12_emits_39 : decode cX12_emits 39 = .ok (.iconst 1, 1) := by decide +kernel
theorem dX12_emits_40 : decode cX12_emits 40 = .ok (.iadd, 1) := by decide +kernel
theorem dX12_emits_41 : decode cX12_emits 41 = .ok (.putfield 186, 3) := by decide +kernel
theorem dX12_emits_44 : decode cX12_emits 44 = .ok (.return_, 1) := by decide +kernel
theorem dX12_readPart_0 : decode cX12_readPart 0 = .ok (.aload_n 0, 1) := by decide +kernel
theorem dX12_readPart_1 : decode cX12_readPart 1 = .ok (.invokevirtual 122, 3) := by decide +kernel
theorem dX12_readPart_4 : decode cX12_readPart 4 = .ok (.aload_n 0, 1) := by decide +kernel
theorem dX12_readPart_5 : decode cX12_readPart 5 = .ok (.getfield 97, 3) := by decide +kernel
theorem dX12_readPart_8 : decode cX12_readPart 8 = .ok (.aload_n 0, 1) := by decide +kernel
theorem dX12_readPart_9 : decode cX12_readPart 9 = .ok (.getfield 107, 3) := by decide +kernel
theorem dX12_readPart_12 : decode cX12_readPart 12 = .ok (.if_icmp .ne 22, 3) := by decide +kernel
theorem dX12_readPart_15 : decode cX12_readPart 15 = .ok (.aload_n 0, 1) := by decide +kernel
theorem dX12_readPart_16 : decode cX12_readPart 16 = .ok (.iconst 0, 1) := by decide +kernel
theorem dX12_readPart_17 : decode cX12_readPart 17 = .ok (.sipush 999, 3) := by decide +kernel
theorem dX12_readPart_20 : decode cX12_readPart 20 = .ok (.invokevirtual 129, 3) := by decide +kernel
theorem dX12_readPart_23 : decode cX12_readPart 23 = .ok (.istore_n 1, 1) := by decide +kernel
theorem dX12_readPart_24 : decode cX12_readPart 24 = .ok (.aload_n 0, 1) := by decide +kernel
theorem dX12_readPart_25 : decode cX12_readPart 25 = .ok (.bipush 8, 2) := by decide +kernel
theorem dX12_readPart_27 : decode cX12_readPart 27 = .ok (.iload_n 1, 1) := by decide +kernel
theorem dX12_readPart_28 : decode cX12_readPart 28 = .ok (.invokevirtual 189, 3) := by decide +kernel
theorem dX12_readPart_31 : decode cX12_readPart 31 = .ok (.goto 89, 3) := by decide +kernel
theorem dX12_readPart_34 : decode cX12_readPart 34 = .ok (.aload_n 0, 1) := by decide +kernel
theorem dX12_readPart_35 : decode cX12_readPart 35 = .ok (.ldc 192, 2) := by decide +kernel
theorem dX12_readPart_37 : decode cX12_readPart 37 = .ok (.invokevirtual 125, 3) := by decide +kernel
theorem dX12_readPart_40 : decode cX12_readPart 40 = .ok (.ifCond .eq 7, 3) := by decide +kernel
theorem dX12_readPart_43 : decode cX12_readPart 43 = .ok (.iconst 0, 1) := by decide +kernel
theorem dX12_readPart_44 : decode cX12_readPart 44 = .ok (.goto 69, 3) := by decide +kernel
theorem dX12_readPart_47 : decode cX12_readPart 47 = .ok (.aload_n 0, 1) := by decide +kernel
theorem dX12_readPart_48 : decode cX12_readPart 48 = .ok (.ldc 144, 2) := by decide +kernel
theorem dX12_readPart_50 : decode cX12_readPart 50 = .ok (.invokevirtual 125, 3) := by decide +kernel
theorem dX12_readPart_53 : decode cX12_readPart 53 = .ok (.ifCond .eq 7, 3) := by decide +kernel
theorem dX12_readPart_56 : decode cX12_readPart 56 = .ok (.iconst 1, 1) := by decide +kernel
theorem dX12_readPart_57 : decode cX12_readPart 57 = .ok (.goto 56, 3) := by decide +kernel
theorem dX12_readPart_60 : decode cX12_readPart 60 = .ok (.aload_n 0, 1) := by decide +kernel
theorem dX12_readPart_61 : decode cX12_readPart 61 = .ok (.ldc 193, 2) := by decide +kernel
theorem dX12_readPart_63 : decode cX12_readPart 63 = .ok (.invokevirtual 125, 3) := by decide +kernel
theorem dX12_readPart_66 : decode cX12_readPart 66 = .ok (.ifCond .eq 7, 3) := by decide +kernel
theorem dX12_readPart_69 : decode cX12_readPart 69 = .ok (.iconst 2, 1) := by decide +kernel
theorem dX12_readPart_70 : decode cX12_readPart 70 = .ok (.goto 43, 3) := by decide +kernel
theorem dX12_readPart_73 : decode cX12_readPart 73 = .ok (.aload_n 0, 1) := by decide +kernel
theorem dX12_readPart_74 : decode cX12_readPart 74 = .ok (.ldc 184, 2) := by decide +kernel
theorem dX12_readPart_76 : decode cX12_readPart 76 = .ok (.invokevirtual 125, 3) := by decide +kernel
theorem dX12_readPart_79 : decode cX12_readPart 79 = .ok (.ifCond .eq 7, 3) := by decide +kernel
theorem dX12_readPart_82 : decode cX12_readPart 82 = .ok (.iconst 3, 1) := by decide +kernel
theorem dX12_readPart_83 : decode cX12_readPart 83 = .ok (.goto 30, 3) := by decide +kernel
theorem dX12_readPart_86 : decode cX12_readPart 86 = .ok (.aload_n 0, 1) := by decide +kernel
theorem dX12_readPart_87 : decode cX12_readPart 87 = .ok (.ldc 194, 2) := by decide +kernel
theorem dX12_readPart_89 : decode cX12_readPart 89 = .ok (.invokevirtual 125, 3) := by decide +kernel
theorem dX12_readPart_92 : decode cX12_readPart 92 = .ok (.ifCond .eq 7, 3) := by decide +kernel
theorem dX12_readPart_95 : decode cX12_readPart 95 = .ok (.iconst 4, 1) := by decide +kernel
theorem dX12_readPart_96 : decode cX12_readPart 96 = .ok (.goto 17, 3) := by decide +kernel
theorem dX12_readPart_99 : decode cX12_readPart 99 = .ok (.aload_n 0, 1) := by decide +kernel
theorem dX12_readPart_100 : decode cX12_readPart 100 = .ok (.ldc 196, 2) := by decide +kernel
theorem dX12_readPart_102 : decode cX12_readPart 102 = .ok (.invokevirtual 125, 3) := by decide +kernel
theorem dX12_readPart_105 : decode cX12_readPart 105 = .ok (.ifCond .eq 7, 3) := by decide +kernel
theorem dX12_readPart_108 : decode cX12_readPart 108 = .ok (.iconst 5, 1) := by decide +kernel
theorem dX12_readPart_109 : decode cX12_readPart 109 = .ok (.goto 4, 3) := by decide +kernel
theorem dX12_readPart_112 : decode cX12_readPart 112 = .ok (.iconst (-1), 1) := by decide +kernel
theorem dX12_readPart_113 : decode cX12_readPart 113 = .ok (.istore_n 1, 1) := by decide +kernel
theorem dX12_readPart_114 : decode cX12_readPart 114 = .ok (.aload_n 0, 1) := by decide +kernel
theorem dX12_readPart_115 : decode cX12_readPart 115 = .ok (.iload_n 1, 1) := by decide +kernel
theorem dX12_readPart_116 : decode cX12_readPart 116 = .ok (.iconst 0, 1) := by decide +kernel
theorem dX12_readPart_117 : decode cX12_readPart 117 = .ok (.invokevirtual 189, 3) := by decide +kernel
theorem dX12_readPart_120 : decode cX12_readPart 120 = .ok (.iload_n 1, 1) := by decide +kernel
theorem dX12_readPart_121 : decode cX12_readPart 121 = .ok (.ifCond .lt 7, 3) := by decide +kernel
theorem dX12_readPart_124 : decode cX12_readPart 124 = .ok (.iconst 1, 1) := by decide +kernel
theorem dX12_readPart_125 : decode cX12_readPart 125 = .ok (.goto 4, 3) := by decide +kernel
theorem dX12_readPart_128 : decode cX12_readPart 128 = .ok (.iconst 0, 1) := by decide +kernel
theorem dX12_readPart_129 : decode cX12_readPart 129 = .ok (.ireturn, 1) := by decide +kernel
theorem dX12_readSum_0 : decode cX12_readSum 0 = .ok (.aload_n 0, 1) := by decide +kernel
theorem dX12_readSum_1 : decode cX12_readSum 1 = .ok (.invokevirtual 198, 3) := by decide +kernel
theorem dX12_readSum_4 : decode cX12_readSum 4 = .ok (.ifCond .ne 5, 3) := by decide +kernel
theorem dX12_readSum_7 : decode cX12_readSum 7 = .ok (.iconst 0, 1) := by decide +kernel
theorem dX12_readSum_8 : decode cX12_readSum 8 = .ok (.ireturn, 1) := by decide +kernel
theorem dX12_readSum_9 : decode cX12_readSum 9 = .ok (.aload_n 0, 1) := by decide +kernel
theorem dX12_readSum_10 : decode cX12_readSum 10 = .ok (.bipush 43, 2) := by decide +kernel
theorem dX12_readSum_12 : decode cX12_readSum 12 = .ok (.invokevirtual 201, 3) := by decide +kernel
theorem dX12_readSum_15 : decode cX12_readSum 15 = .ok (.ifCond .eq 22, 3) := by decide +kernel
theorem dX12_readSum_18 : decode cX12_readSum 18 = .ok (.aload_n 0, 1) := by decide +kernel
theorem dX12_readSum_19 : decode cX12_readSum 19 = .ok (.invokevirtual 198, 3) := by decide +kernel
theorem dX12_readSum_22 : decode cX12_readSum 22 = .ok (.ifCond .ne 5, 3) := by decide +kernel
theorem dX12_readSum_25 : decode cX12_readSum 25 = .ok (.iconst 0, 1) := by decide +kernel
theorem dX12_readSum_26 : decode cX12_readSum 26 = .ok (.ireturn, 1) := by decide +kernel
theorem dX12_readSum_27 : decode cX12_readSum 27 = .ok (.aload_n 0, 1) := by decide +kernel
theorem dX12_readSum_28 : decode cX12_readSum 28 = .ok (.bipush 9, 2) := by decide +kernel
theorem dX12_readSum_30 : decode cX12_readSum 30 = .ok (.iconst 0, 1) := by decide +kernel
theorem dX12_readSum_31 : decode cX12_readSum 31 = .ok (.invokevirtual 189, 3) := by decide +kernel
theorem dX12_readSum_34 : decode cX12_readSum 34 = .ok (.goto (-25), 3) := by decide +kernel
theorem dX12_readSum_37 : decode cX12_readSum 37 = .ok (.iconst 1, 1) := by decide +kernel
theorem dX12_readSum_38 : decode cX12_readSum 38 = .ok (.ireturn, 1) := by decide +kernel
theorem dX12_readTag_0 : decode cX12_readTag 0 = .ok (.aload_n 0, 1) := by decide +kernel
theorem dX12_readTag_1 : decode cX12_readTag 1 = .ok (.invokevirtual 122, 3) := by decide +kernel
theorem dX12_readTag_4 : decode cX12_readTag 4 = .ok (.aload_n 0, 1) := by decide +kernel
theorem dX12_readTag_5 : decode cX12_readTag 5 = .ok (.ldc 177, 2) := by decide +kernel
theorem dX12_readTag_7 : decode cX12_readTag 7 = .ok (.invokevirtual 125, 3) := by decide +kernel
theorem dX12_readTag_10 : decode cX12_readTag 10 = .ok (.ifCond .eq 8, 3) := by decide +kernel
theorem dX12_readTag_13 : decode cX12_readTag 13 = .ok (.bipush 6, 2) := by decide +kernel
theorem dX12_readTag_15 : decode cX12_readTag 15 = .ok (.goto 18, 3) := by decide +kernel
theorem dX12_readTag_18 : decode cX12_readTag 18 = .ok (.aload_n 0, 1) := by decide +kernel
theorem dX12_readTag_19 : decode cX12_readTag 19 = .ok (.ldc 204, 2) := by decide +kernel
theorem dX12_readTag_21 : decode cX12_readTag 21 = .ok (.invokevirtual 125, 3) := by decide +kernel
theorem dX12_readTag_24 : decode cX12_readTag 24 = .ok (.ifCond .eq 8, 3) := by decide +kernel
theorem dX12_readTag_27 : decode cX12_readTag 27 = .ok (.bipush 7, 2) := by decide +kernel
theorem dX12_readTag_29 : decode cX12_readTag 29 = .ok (.goto 4, 3) := by decide +kernel
theorem dX12_readTag_32 : decode cX12_readTag 32 = .ok (.iconst (-1), 1) := by decide +kernel
theorem dX12_readTag_33 : decode cX12_readTag 33 = .ok (.istore_n 1, 1) := by decide +kernel
theorem dX12_readTag_34 : decode cX12_readTag 34 = .ok (.iload_n 1, 1) := by decide +kernel
theorem dX12_readTag_35 : decode cX12_readTag 35 = .ok (.ifCond .lt 12, 3) := by decide +kernel
theorem dX12_readTag_38 : decode cX12_readTag 38 = .ok (.aload_n 0, 1) := by decide +kernel
theorem dX12_readTag_39 : decode cX12_readTag 39 = .ok (.iload_n 1, 1) := by decide +kernel
theorem dX12_readTag_40 : decode cX12_readTag 40 = .ok (.iconst 0, 1) := by decide +kernel
theorem dX12_readTag_41 : decode cX12_readTag 41 = .ok (.invokevirtual 189, 3) := by decide +kernel
theorem dX12_readTag_44 : decode cX12_readTag 44 = .ok (.goto 11, 3) := by decide +kernel
theorem dX12_readTag_47 : decode cX12_readTag 47 = .ok (.aload_n 0, 1) := by decide +kernel
theorem dX12_readTag_48 : decode cX12_readTag 48 = .ok (.aload_n 0, 1) := by decide +kernel
theorem dX12_readTag_49 : decode cX12_readTag 49 = .ok (.getfield 107, 3) := by decide +kernel
theorem dX12_readTag_52 : decode cX12_readTag 52 = .ok (.putfield 97, 3) := by decide +kernel
theorem dX12_readTag_55 : decode cX12_readTag 55 = .ok (.iload_n 1, 1) := by decide +kernel
theorem dX12_readTag_56 : decode cX12_readTag 56 = .ok (.ifCond .lt 7, 3) := by decide +kernel
theorem dX12_readTag_59 : decode cX12_readTag 59 = .ok (.iconst 1, 1) := by decide +kernel
theorem dX12_readTag_60 : decode cX12_readTag 60 = .ok (.goto 4, 3) := by decide +kernel
theorem dX12_readTag_63 : decode cX12_readTag 63 = .ok (.iconst 0, 1) := by decide +kernel
theorem dX12_readTag_64 : decode cX12_readTag 64 = .ok (.ireturn, 1) := by decide +kernel
theorem dX12_readAtom_0 : decode cX12_readAtom 0 = .ok (.aload_n 0, 1) := by decide +kernel
theorem dX12_readAtom_1 : decode cX12_readAtom 1 = .ok (.bipush 40, 2) := by decide +kernel
theorem dX12_readAtom_3 : decode cX12_readAtom 3 = .ok (.invokevirtual 201, 3) := by decide +kernel
theorem dX12_readAtom_6 : decode cX12_readAtom 6 = .ok (.ifCond .eq 50, 3) := by decide +kernel
theorem dX12_readAtom_9 : decode cX12_readAtom 9 = .ok (.aload_n 0, 1) := by decide +kernel
theorem dX12_readAtom_10 : decode cX12_readAtom 10 = .ok (.getfield 206, 3) := by decide +kernel
theorem dX12_readAtom_13 : decode cX12_readAtom 13 = .ok (.bipush 6, 2) := by decide +kernel
theorem dX12_readAtom_15 : decode cX12_readAtom 15 = .ok (.if_icmp .ne 5, 3) := by decide +kernel
theorem dX12_readAtom_18 : decode cX12_readAtom 18 = .ok (.iconst 0, 1) := by decide +kernel
theorem dX12_readAtom_19 : decode cX12_readAtom 19 = .ok (.ireturn, 1) := by decide +kernel
theorem dX12_readAtom_20 : decode cX12_readAtom 20 = .ok (.aload_n 0, 1) := by decide +kernel
theorem dX12_readAtom_21 : decode cX12_readAtom 21 = .ok (.dup, 1) := by decide +kernel
theorem dX12_readAtom_22 : decode cX12_readAtom 22 = .ok (.getfield 206, 3) := by decide +kernel
theorem dX12_readAtom_25 : decode cX12_readAtom 25 = .ok (.iconst 1, 1) := by decide +kernel
theorem dX12_readAtom_26 : decode cX12_readAtom 26 = .ok (.iadd, 1) := by decide +kernel
theorem dX12_readAtom_27 : decode cX12_readAtom 27 = .ok (.putfield 206, 3) := by decide +kernel
theorem dX12_readAtom_30 : decode cX12_readAtom 30 = .ok (.aload_n 0, 1) := by decide +kernel
theorem dX12_readAtom_31 : decode cX12_readAtom 31 = .ok (.invokevirtual 209, 3) := by decide +kernel
theorem dX12_readAtom_34 : decode cX12_readAtom 34 = .ok (.ifCond .ne 5, 3) := by decide +kernel
theorem dX12_readAtom_37 : decode cX12_readAtom 37 = .ok (.iconst 0, 1) := by decide +kernel
theorem dX12_readAtom_38 : decode cX12_readAtom 38 = .ok (.ireturn, 1) := by decide +kernel
theorem dX12_readAtom_39 : decode cX12_readAtom 39 = .ok (.aload_n 0, 1) := by decide +kernel
theorem dX12_readAtom_40 : decode cX12_readAtom 40 = .ok (.dup, 1) := by decide +kernel
theorem dX12_readAtom_41 : decode cX12_readAtom 41 = .ok (.getfield 206, 3) := by decide +kernel
theorem dX12_readAtom_44 : decode cX12_readAtom 44 = .ok (.iconst 1, 1) := by decide +kernel
theorem dX12_readAtom_45 : decode cX12_readAtom 45 = .ok (.isub, 1) := by decide +kernel
theorem dX12_readAtom_46 : decode cX12_readAtom 46 = .ok (.putfield 206, 3) := by decide +kernel
theorem dX12_readAtom_49 : decode cX12_readAtom 49 = .ok (.aload_n 0, 1) := by decide +kernel
theorem dX12_readAtom_50 : decode cX12_readAtom 50 = .ok (.bipush 41, 2) := by decide +kernel
theorem dX12_readAtom_52 : decode cX12_readAtom 52 = .ok (.invokevirtual 201, 3) := by decide +kernel
theorem dX12_readAtom_55 : decode cX12_readAtom 55 = .ok (.ireturn, 1) := by decide +kernel
theorem dX12_readAtom_56 : decode cX12_readAtom 56 = .ok (.aload_n 0, 1) := by decide +kernel
theorem dX12_readAtom_57 : decode cX12_readAtom 57 = .ok (.ldc 212, 2) := by decide +kernel
theorem dX12_readAtom_59 : decode cX12_readAtom 59 = .ok (.invokevirtual 214, 3) := by decide +kernel
theorem dX12_readAtom_62 : decode cX12_readAtom 62 = .ok (.ifCond .eq 52, 3) := by decide +kernel
theorem dX12_readAtom_65 : decode cX12_readAtom 65 = .ok (.aload_n 0, 1) := by decide +kernel
theorem dX12_readAtom_66 : decode cX12_readAtom 66 = .ok (.getfield 206, 3) := by decide +kernel
theorem dX12_readAtom_69 : decode cX12_readAtom 69 = .ok (.bipush 6, 2) := by decide +kernel
theorem dX12_readAtom_71 : decode cX12_readAtom 71 = .ok (.if_icmp .ne 5, 3) := by decide +kernel
theorem dX12_readAtom_74 : decode cX12_readAtom 74 = .ok (.iconst 0, 1) := by decide +kernel
theorem dX12_readAtom_75 : decode cX12_readAtom 75 = .ok (.ireturn, 1) := by decide +kernel
theorem dX12_readAtom_76 : decode cX12_readAtom 76 = .ok (.aload_n 0, 1) := by decide +kernel
theorem dX12_readAtom_77 : decode cX12_readAtom 77 = .ok (.dup, 1) := by decide +kernel
theorem dX12_readAtom_78 : decode cX12_readAtom 78 = .ok (.getfield 206, 3) := by decide +kernel
theorem dX12_readAtom_81 : decode cX12_readAtom 81 = .ok (.iconst 1, 1) := by decide +kernel
theorem dX12_readAtom_82 : decode cX12_readAtom 82 = .ok (.iadd, 1) := by decide +kernel
theorem dX12_readAtom_83 : decode cX12_readAtom 83 = .ok (.putfield 206, 3) := by decide +kernel
theorem dX12_readAtom_86 : decode cX12_readAtom 86 = .ok (.aload_n 0, 1) := by decide +kernel
theorem dX12_readAtom_87 : decode cX12_readAtom 87 = .ok (.invokevirtual 217, 3) := by decide +kernel
theorem dX12_readAtom_90 : decode cX12_readAtom 90 = .ok (.ifCond .ne 5, 3) := by decide +kernel
theorem dX12_readAtom_93 : decode cX12_readAtom 93 = .ok (.iconst 0, 1) := by decide +kernel
theorem dX12_readAtom_94 : decode cX12_readAtom 94 = .ok (.ireturn, 1) := by decide +kernel
theorem dX12_readAtom_95 : decode cX12_readAtom 95 = .ok (.aload_n 0, 1) := by decide +kernel
theorem dX12_readAtom_96 : decode cX12_readAtom 96 = .ok (.dup, 1) := by decide +kernel
theorem dX12_readAtom_97 : decode cX12_readAtom 97 = .ok (.getfield 206, 3) := by decide +kernel
theorem dX12_readAtom_100 : decode cX12_readAtom 100 = .ok (.iconst 1, 1) := by decide +kernel
theorem dX12_readAtom_101 : decode cX12_readAtom 101 = .ok (.isub, 1) := by decide +kernel
theorem dX12_readAtom_102 : decode cX12_readAtom 102 = .ok (.putfield 206, 3) := by decide +kernel
theorem dX12_readAtom_105 : decode cX12_readAtom 105 = .ok (.aload_n 0, 1) := by decide +kernel
theorem dX12_readAtom_106 : decode cX12_readAtom 106 = .ok (.bipush 12, 2) := by decide +kernel
theorem dX12_readAtom_108 : decode cX12_readAtom 108 = .ok (.iconst 0, 1) := by decide +kernel
theorem dX12_readAtom_109 : decode cX12_readAtom 109 = .ok (.invokevirtual 189, 3) := by decide +kernel
theorem dX12_readAtom_112 : decode cX12_readAtom 112 = .ok (.iconst 1, 1) := by decide +kernel
theorem dX12_readAtom_113 : decode cX12_readAtom 113 = .ok (.ireturn, 1) := by decide +kernel
theorem dX12_readAtom_114 : decode cX12_readAtom 114 = .ok (.aload_n 0, 1) := by decide +kernel
theorem dX12_readAtom_115 : decode cX12_readAtom 115 = .ok (.invokevirtual 220, 3) := by decide +kernel
theorem dX12_readAtom_118 : decode cX12_readAtom 118 = .ok (.ifCond .eq 5, 3) := by decide +kernel
theorem dX12_readAtom_121 : decode cX12_readAtom 121 = .ok (.iconst 1, 1) := by decide +kernel
theorem dX12_readAtom_122 : decode cX12_readAtom 122 = .ok (.ireturn, 1) := by decide +kernel
theorem dX12_readAtom_123 : decode cX12_readAtom 123 = .ok (.aload_n 0, 1) := by decide +kernel
theorem dX12_readAtom_124 : decode cX12_readAtom 124 = .ok (.invokevirtual 223, 3) := by decide +kernel
theorem dX12_readAtom_127 : decode cX12_readAtom 127 = .ok (.ifCond .ne 5, 3) := by decide +kernel
theorem dX12_readAtom_130 : decode cX12_readAtom 130 = .ok (.iconst 0, 1) := by decide +kernel
theorem dX12_readAtom_131 : decode cX12_readAtom 131 = .ok (.ireturn, 1) := by decide +kernel
theorem dX12_readAtom_132 : decode cX12_readAtom 132 = .ok (.aload_n 0, 1) := by decide +kernel
theorem dX12_readAtom_133 : decode cX12_readAtom 133 = .ok (.bipush 60, 2) := by decide +kernel
theorem dX12_readAtom_135 : decode cX12_readAtom 135 = .ok (.invokevirtual 201, 3) := by decide +kernel
theorem dX12_readAtom_138 : decode cX12_readAtom 138 = .ok (.istore_n 1, 1) := by decide +kernel
theorem dX12_readAtom_139 : decode cX12_readAtom 139 = .ok (.iload_n 1, 1) := by decide +kernel
theorem dX12_readAtom_140 : decode cX12_readAtom 140 = .ok (.ifCond .ne 12, 3) := by decide +kernel
theorem dX12_readAtom_143 : decode cX12_readAtom 143 = .ok (.aload_n 0, 1) := by decide +kernel
theorem dX12_readAtom_144 : decode cX12_readAtom 144 = .ok (.bipush 62, 2) := by decide +kernel
theorem dX12_readAtom_146 : decode cX12_readAtom 146 = .ok (.invokevirtual 201, 3) := by decide +kernel
theorem dX12_readAtom_149 : decode cX12_readAtom 149 = .ok (.ifCond .eq 10, 3) := by decide +kernel
theorem dX12_readAtom_152 : decode cX12_readAtom 152 = .ok (.aload_n 0, 1) := by decide +kernel
theorem dX12_readAtom_153 : decode cX12_readAtom 153 = .ok (.invokevirtual 223, 3) := by decide +kernel
theorem dX12_readAtom_156 : decode cX12_readAtom 156 = .ok (.ifCond .ne 5, 3) := by decide +kernel
theorem dX12_readAtom_159 : decode cX12_readAtom 159 = .ok (.iconst 0, 1) := by decide +kernel
theorem dX12_readAtom_160 : decode cX12_readAtom 160 = .ok (.ireturn, 1) := by decide +kernel
theorem dX12_readAtom_161 : decode cX12_readAtom 161 = .ok (.aload_n 0, 1) := by decide +kernel
theorem dX12_readAtom_162 : decode cX12_readAtom 162 = .ok (.iload_n 1, 1) := by decide +kernel
theorem dX12_readAtom_163 : decode cX12_readAtom 163 = .ok (.ifCond .eq 8, 3) := by decide +kernel
theorem dX12_readAtom_166 : decode cX12_readAtom 166 = .ok (.bipush 10, 2) := by decide +kernel
theorem dX12_readAtom_168 : decode cX12_readAtom 168 = .ok (.goto 5, 3) := by decide +kernel
theorem dX12_readAtom_171 : decode cX12_readAtom 171 = .ok (.bipush 11, 2) := by decide +kernel
theorem dX12_readAtom_173 : decode cX12_readAtom 173 = .ok (.iconst 0, 1) := by decide +kernel
theorem dX12_readAtom_174 : decode cX12_readAtom 174 = .ok (.invokevirtual 189, 3) := by decide +kernel
theorem dX12_readAtom_177 : decode cX12_readAtom 177 = .ok (.iconst 1, 1) := by decide +kernel
theorem dX12_readAtom_178 : decode cX12_readAtom 178 = .ok (.ireturn, 1) := by decide +kernel
theorem dX12_readAllOf_0 : decode cX12_readAllOf 0 = .ok (.aload_n 0, 1) := by decide +kernel
theorem dX12_readAllOf_1 : decode cX12_readAllOf 1 = .ok (.invokevirtual 217, 3) := by decide +kernel
theorem dX12_readAllOf_4 : decode cX12_readAllOf 4 = .ok (.ifCond .ne 5, 3) := by decide +kernel
theorem dX12_readAllOf_7 : decode cX12_readAllOf 7 = .ok (.iconst 0, 1) := by decide +kernel
theorem dX12_readAllOf_8 : decode cX12_readAllOf 8 = .ok (.ireturn, 1) := by decide +kernel
theorem dX12_readAllOf_9 : decode cX12_readAllOf 9 = .ok (.aload_n 0, 1) := by decide +kernel
theorem dX12_readAllOf_10 : decode cX12_readAllOf 10 = .ok (.ldc 226, 2) := by decide +kernel
