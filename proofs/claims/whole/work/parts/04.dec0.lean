theorem dX0_init_0 : decode cX0_init 0 = .ok (.aload_n 0, 1) := by decide +kernel
theorem dX0_init_1 : decode cX0_init 1 = .ok (.invokespecial 3, 3) := by decide +kernel
theorem dX0_init_4 : decode cX0_init 4 = .ok (.aload_n 0, 1) := by decide +kernel
theorem dX0_init_5 : decode cX0_init 5 = .ok (.bipush 8, 2) := by decide +kernel
theorem dX0_init_7 : decode cX0_init 7 = .ok (.anewarray 9, 3) := by decide +kernel
theorem dX0_init_10 : decode cX0_init 10 = .ok (.putfield 11, 3) := by decide +kernel
theorem dX0_init_13 : decode cX0_init 13 = .ok (.aload_n 0, 1) := by decide +kernel
theorem dX0_init_14 : decode cX0_init 14 = .ok (.iconst 1, 1) := by decide +kernel
theorem dX0_init_15 : decode cX0_init 15 = .ok (.putfield 17, 3) := by decide +kernel
theorem dX0_init_18 : decode cX0_init 18 = .ok (.iconst 0, 1) := by decide +kernel
theorem dX0_init_19 : decode cX0_init 19 = .ok (.istore_n 1, 1) := by decide +kernel
theorem dX0_init_20 : decode cX0_init 20 = .ok (.iload_n 1, 1) := by decide +kernel
theorem dX0_init_21 : decode cX0_init 21 = .ok (.bipush 8, 2) := by decide +kernel
theorem dX0_init_23 : decode cX0_init 23 = .ok (.if_icmp .ge 22, 3) := by decide +kernel
theorem dX0_init_26 : decode cX0_init 26 = .ok (.aload_n 0, 1) := by decide +kernel
theorem dX0_init_27 : decode cX0_init 27 = .ok (.getfield 11, 3) := by decide +kernel
theorem dX0_init_30 : decode cX0_init 30 = .ok (.iload_n 1, 1) := by decide +kernel
theorem dX0_init_31 : decode cX0_init 31 = .ok (.new 9, 3) := by decide +kernel
theorem dX0_init_34 : decode cX0_init 34 = .ok (.dup, 1) := by decide +kernel
theorem dX0_init_35 : decode cX0_init 35 = .ok (.invokespecial 21, 3) := by decide +kernel
theorem dX0_init_38 : decode cX0_init 38 = .ok (.aastore, 1) := by decide +kernel
theorem dX0_init_39 : decode cX0_init 39 = .ok (.iinc 1 1, 3) := by decide +kernel
theorem dX0_init_42 : decode cX0_init 42 = .ok (.goto (-22), 3) := by decide +kernel
theorem dX0_init_45 : decode cX0_init 45 = .ok (.return_, 1) := by decide +kernel
theorem dX0_become_0 : decode cX0_become 0 = .ok (.iconst 0, 1) := by decide +kernel
theorem dX0_become_1 : decode cX0_become 1 = .ok (.istore_n 2, 1) := by decide +kernel
theorem dX0_become_2 : decode cX0_become 2 = .ok (.iload_n 2, 1) := by decide +kernel
theorem dX0_become_3 : decode cX0_become 3 = .ok (.aload_n 1, 1) := by decide +kernel
theorem dX0_become_4 : decode cX0_become 4 = .ok (.getfield 22, 3) := by decide +kernel
theorem dX0_become_7 : decode cX0_become 7 = .ok (.if_icmp .ge 30, 3) := by decide +kernel
theorem dX0_become_10 : decode cX0_become 10 = .ok (.iload_n 2, 1) := by decide +kernel
theorem dX0_become_11 : decode cX0_become 11 = .ok (.bipush 8, 2) := by decide +kernel
theorem dX0_become_13 : decode cX0_become 13 = .ok (.if_icmp .ge 24, 3) := by decide +kernel
theorem dX0_become_16 : decode cX0_become 16 = .ok (.aload_n 0, 1) := by decide +kernel
theorem dX0_become_17 : decode cX0_become 17 = .ok (.getfield 11, 3) := by decide +kernel
theorem dX0_become_20 : decode cX0_become 20 = .ok (.iload_n 2, 1) := by decide +kernel
theorem dX0_become_21 : decode cX0_become 21 = .ok (.aaload, 1) := by decide +kernel
theorem dX0_become_22 : decode cX0_become 22 = .ok (.aload_n 1, 1) := by decide +kernel
theorem dX0_become_23 : decode cX0_become 23 = .ok (.getfield 11, 3) := by decide +kernel
theorem dX0_become_26 : decode cX0_become 26 = .ok (.iload_n 2, 1) := by decide +kernel
theorem dX0_become_27 : decode cX0_become 27 = .ok (.aaload, 1) := by decide +kernel
theorem dX0_become_28 : decode cX0_become 28 = .ok (.invokevirtual 25, 3) := by decide +kernel
theorem dX0_become_31 : decode cX0_become 31 = .ok (.iinc 2 1, 3) := by decide +kernel
theorem dX0_become_34 : decode cX0_become 34 = .ok (.goto (-32), 3) := by decide +kernel
theorem dX0_become_37 : decode cX0_become 37 = .ok (.aload_n 0, 1) := by decide +kernel
theorem dX0_become_38 : decode cX0_become 38 = .ok (.aload_n 1, 1) := by decide +kernel
theorem dX0_become_39 : decode cX0_become 39 = .ok (.getfield 22, 3) := by decide +kernel
theorem dX0_become_42 : decode cX0_become 42 = .ok (.putfield 22, 3) := by decide +kernel
theorem dX0_become_45 : decode cX0_become 45 = .ok (.aload_n 0, 1) := by decide +kernel
theorem dX0_become_46 : decode cX0_become 46 = .ok (.aload_n 1, 1) := by decide +kernel
theorem dX0_become_47 : decode cX0_become 47 = .ok (.getfield 29, 3) := by decide +kernel
theorem dX0_become_50 : decode cX0_become 50 = .ok (.putfield 29, 3) := by decide +kernel
theorem dX0_become_53 : decode cX0_become 53 = .ok (.aload_n 0, 1) := by decide +kernel
theorem dX0_become_54 : decode cX0_become 54 = .ok (.aload_n 1, 1) := by decide +kernel
theorem dX0_become_55 : decode cX0_become 55 = .ok (.getfield 17, 3) := by decide +kernel
theorem dX0_become_58 : decode cX0_become 58 = .ok (.putfield 17, 3) := by decide +kernel
theorem dX0_become_61 : decode cX0_become 61 = .ok (.aload_n 0, 1) := by decide +kernel
theorem dX0_become_62 : decode cX0_become 62 = .ok (.aload_n 1, 1) := by decide +kernel
theorem dX0_become_63 : decode cX0_become 63 = .ok (.getfield 32, 3) := by decide +kernel
theorem dX0_become_66 : decode cX0_become 66 = .ok (.putfield 32, 3) := by decide +kernel
theorem dX0_become_69 : decode cX0_become 69 = .ok (.return_, 1) := by decide +kernel
theorem dX0_drop_0 : decode cX0_drop 0 = .ok (.iload_n 1, 1) := by decide +kernel
theorem dX0_drop_1 : decode cX0_drop 1 = .ok (.ifCond .lt 11, 3) := by decide +kernel
theorem dX0_drop_4 : decode cX0_drop 4 = .ok (.iload_n 1, 1) := by decide +kernel
theorem dX0_drop_5 : decode cX0_drop 5 = .ok (.aload_n 0, 1) := by decide +kernel
theorem dX0_drop_6 : decode cX0_drop 6 = .ok (.getfield 22, 3) := by decide +kernel
theorem dX0_drop_9 : decode cX0_drop 9 = .ok (.if_icmp .lt 4, 3) := by decide +kernel
theorem dX0_drop_12 : decode cX0_drop 12 = .ok (.return_, 1) := by decide +kernel
theorem dX0_drop_13 : decode cX0_drop 13 = .ok (.iload_n 1, 1) := by decide +kernel
theorem dX0_drop_14 : decode cX0_drop 14 = .ok (.istore_n 2, 1) := by decide +kernel
theorem dX0_drop_15 : decode cX0_drop 15 = .ok (.iload_n 2, 1) := by decide +kernel
theorem dX0_drop_16 : decode cX0_drop 16 = .ok (.iconst 1, 1) := by decide +kernel
theorem dX0_drop_17 : decode cX0_drop 17 = .ok (.iadd, 1) := by decide +kernel
theorem dX0_drop_18 : decode cX0_drop 18 = .ok (.aload_n 0, 1) := by decide +kernel
theorem dX0_drop_19 : decode cX0_drop 19 = .ok (.getfield 22, 3) := by decide +kernel
theorem dX0_drop_22 : decode cX0_drop 22 = .ok (.if_icmp .ge 26, 3) := by decide +kernel
theorem dX0_drop_25 : decode cX0_drop 25 = .ok (.aload_n 0, 1) := by decide +kernel
theorem dX0_drop_26 : decode cX0_drop 26 = .ok (.getfield 11, 3) := by decide +kernel
theorem dX0_drop_29 : decode cX0_drop 29 = .ok (.iload_n 2, 1) := by decide +kernel
theorem dX0_drop_30 : decode cX0_drop 30 = .ok (.aaload, 1) := by decide +kernel
theorem dX0_drop_31 : decode cX0_drop 31 = .ok (.aload_n 0, 1) := by decide +kernel
theorem dX0_drop_32 : decode cX0_drop 32 = .ok (.getfield 11, 3) := by decide +kernel
theorem dX0_drop_35 : decode cX0_drop 35 = .ok (.iload_n 2, 1) := by decide +kernel
theorem dX0_drop_36 : decode cX0_drop 36 = .ok (.iconst 1, 1) := by decide +kernel
theorem dX0_drop_37 : decode cX0_drop 37 = .ok (.iadd, 1) := by decide +kernel
theorem dX0_drop_38 : decode cX0_drop 38 = .ok (.aaload, 1) := by decide +kernel
theorem dX0_drop_39 : decode cX0_drop 39 = .ok (.invokevirtual 25, 3) := by decide +kernel
theorem dX0_drop_42 : decode cX0_drop 42 = .ok (.iinc 2 1, 3) := by decide +kernel
theorem dX0_drop_45 : decode cX0_drop 45 = .ok (.goto (-30), 3) := by decide +kernel
theorem dX0_drop_48 : decode cX0_drop 48 = .ok (.aload_n 0, 1) := by decide +kernel
theorem dX0_drop_49 : decode cX0_drop 49 = .ok (.dup, 1) := by decide +kernel
theorem dX0_drop_50 : decode cX0_drop 50 = .ok (.getfield 22, 3) := by decide +kernel
theorem dX0_drop_53 : decode cX0_drop 53 = .ok (.iconst 1, 1) := by decide +kernel
theorem dX0_drop_54 : decode cX0_drop 54 = .ok (.isub, 1) := by decide +kernel
theorem dX0_drop_55 : decode cX0_drop 55 = .ok (.putfield 22, 3) := by decide +kernel
theorem dX0_drop_58 : decode cX0_drop 58 = .ok (.return_, 1) := by decide +kernel
theorem dX0_passWeek_0 : decode cX0_passWeek 0 = .ok (.iconst 0, 1) := by decide +kernel
theorem dX0_passWeek_1 : decode cX0_passWeek 1 = .ok (.istore_n 3, 1) := by decide +kernel
theorem dX0_passWeek_2 : decode cX0_passWeek 2 = .ok (.iconst 0, 1) := by decide +kernel
theorem dX0_passWeek_3 : decode cX0_passWeek 3 = .ok (.istore 4, 2) := by decide +kernel
theorem dX0_passWeek_5 : decode cX0_passWeek 5 = .ok (.iload 4, 2) := by decide +kernel
theorem dX0_passWeek_7 : decode cX0_passWeek 7 = .ok (.aload_n 0, 1) := by decide +kernel
theorem dX0_passWeek_8 : decode cX0_passWeek 8 = .ok (.getfield 22, 3) := by decide +kernel
theorem dX0_passWeek_11 : decode cX0_passWeek 11 = .ok (.if_icmp .ge 54, 3) := by decide +kernel
theorem dX0_passWeek_14 : decode cX0_passWeek 14 = .ok (.iload_n 3, 1) := by decide +kernel
theorem dX0_passWeek_15 : decode cX0_passWeek 15 = .ok (.aload_n 0, 1) := by decide +kernel
theorem dX0_passWeek_16 : decode cX0_passWeek 16 = .ok (.aload_n 0, 1) := by decide +kernel
theorem dX0_passWeek_17 : decode cX0_passWeek 17 = .ok (.getfield 11, 3) := by decide +kernel
theorem dX0_passWeek_20 : decode cX0_passWeek 20 = .ok (.iload 4, 2) := by decide +kernel
theorem dX0_passWeek_22 : decode cX0_passWeek 22 = .ok (.aaload, 1) := by decide +kernel
theorem dX0_passWeek_23 : decode cX0_passWeek 23 = .ok (.aload_n 1, 1) := by decide +kernel
theorem dX0_passWeek_24 : decode cX0_passWeek 24 = .ok (.iload_n 2, 1) := by decide +kernel
theorem dX0_passWeek_25 : decode cX0_passWeek 25 = .ok (.invokevirtual 35, 3) := by decide +kernel
theorem dX0_passWeek_28 : decode cX0_passWeek 28 = .ok (.iadd, 1) := by decide +kernel
theorem dX0_passWeek_29 : decode cX0_passWeek 29 = .ok (.istore_n 3, 1) := by decide +kernel
theorem dX0_passWeek_30 : decode cX0_passWeek 30 = .ok (.aload_n 0, 1) := by decide +kernel
theorem dX0_passWeek_31 : decode cX0_passWeek 31 = .ok (.getfield 11, 3) := by decide +kernel
theorem dX0_passWeek_34 : decode cX0_passWeek 34 = .ok (.iload 4, 2) := by decide +kernel
theorem dX0_passWeek_36 : decode cX0_passWeek 36 = .ok (.aaload, 1) := by decide +kernel
theorem dX0_passWeek_37 : decode cX0_passWeek 37 = .ok (.getfield 39, 3) := by decide +kernel
theorem dX0_passWeek_40 : decode cX0_passWeek 40 = .ok (.ifCond .eq 19, 3) := by decide +kernel
theorem dX0_passWeek_43 : decode cX0_passWeek 43 = .ok (.iload_n 3, 1) := by decide +kernel
theorem dX0_passWeek_44 : decode cX0_passWeek 44 = .ok (.aload_n 0, 1) := by decide +kernel
theorem dX0_passWeek_45 : decode cX0_passWeek 45 = .ok (.aload_n 0, 1) := by decide +kernel
theorem dX0_passWeek_46 : decode cX0_passWeek 46 = .ok (.getfield 11, 3) := by decide +kernel
theorem dX0_passWeek_49 : decode cX0_passWeek 49 = .ok (.iload 4, 2) := by decide +kernel
theorem dX0_passWeek_51 : decode cX0_passWeek 51 = .ok (.aaload, 1) := by decide +kernel
theorem dX0_passWeek_52 : decode cX0_passWeek 52 = .ok (.aload_n 1, 1) := by decide +kernel
theorem dX0_passWeek_53 : decode cX0_passWeek 53 = .ok (.iload_n 2, 1) := by decide +kernel
theorem dX0_passWeek_54 : decode cX0_passWeek 54 = .ok (.invokevirtual 35, 3) := by decide +kernel
theorem dX0_passWeek_57 : decode cX0_passWeek 57 = .ok (.iadd, 1) := by decide +kernel
theorem dX0_passWeek_58 : decode cX0_passWeek 58 = .ok (.istore_n 3, 1) := by decide +kernel
theorem dX0_passWeek_59 : decode cX0_passWeek 59 = .ok (.iinc 4 1, 3) := by decide +kernel
theorem dX0_passWeek_62 : decode cX0_passWeek 62 = .ok (.goto (-57), 3) := by decide +kernel
theorem dX0_passWeek_65 : decode cX0_passWeek 65 = .ok (.aload_n 0, 1) := by decide +kernel
theorem dX0_passWeek_66 : decode cX0_passWeek 66 = .ok (.aload_n 0, 1) := by decide +kernel
theorem dX0_passWeek_67 : decode cX0_passWeek 67 = .ok (.getfield 29, 3) := by decide +kernel
theorem dX0_passWeek_70 : decode cX0_passWeek 70 = .ok (.iconst 1, 1) := by decide +kernel
theorem dX0_passWeek_71 : decode cX0_passWeek 71 = .ok (.iadd, 1) := by decide +kernel
theorem dX0_passWeek_72 : decode cX0_passWeek 72 = .ok (.sipush 9999, 3) := by decide +kernel
theorem dX0_passWeek_75 : decode cX0_passWeek 75 = .ok (.invokestatic 43, 3) := by decide +kernel
theorem dX0_passWeek_78 : decode cX0_passWeek 78 = .ok (.putfield 29, 3) := by decide +kernel
theorem dX0_passWeek_81 : decode cX0_passWeek 81 = .ok (.iload_n 3, 1) := by decide +kernel
theorem dX0_passWeek_82 : decode cX0_passWeek 82 = .ok (.ireturn, 1) := by decide +kernel
theorem dX0_growOne_0 : decode cX0_growOne 0 = .ok (.aload_n 2, 1) := by decide +kernel
theorem dX0_growOne_1 : decode cX0_growOne 1 = .ok (.aload_n 1, 1) := by decide +kernel
theorem dX0_growOne_2 : decode cX0_growOne 2 = .ok (.aload_n 0, 1) := by decide +kernel
theorem dX0_growOne_3 : decode cX0_growOne 3 = .ok (.getfield 29, 3) := by decide +kernel
theorem dX0_growOne_6 : decode cX0_growOne 6 = .ok (.invokevirtual 49, 3) := by decide +kernel
theorem dX0_growOne_9 : decode cX0_growOne 9 = .ok (.istore 4, 2) := by decide +kernel
theorem dX0_growOne_11 : decode cX0_growOne 11 = .ok (.iload 4, 2) := by decide +kernel
theorem dX0_growOne_13 : decode cX0_growOne 13 = .ok (.iconst (-1), 1) := by decide +kernel
theorem dX0_growOne_14 : decode cX0_growOne 14 = .ok (.if_icmp .ne 5, 3) := by decide +kernel
theorem dX0_growOne_17 : decode cX0_growOne 17 = .ok (.iconst 0, 1) := by decide +kernel
theorem dX0_growOne_18 : decode cX0_growOne 18 = .ok (.ireturn, 1) := by decide +kernel
theorem dX0_growOne_19 : decode cX0_growOne 19 = .ok (.aload_n 0, 1) := by decide +kernel
theorem dX0_growOne_20 : decode cX0_growOne 20 = .ok (.invokevirtual 55, 3) := by decide +kernel
theorem dX0_growOne_23 : decode cX0_growOne 23 = .ok (.bipush 100, 2) := by decide +kernel
theorem dX0_growOne_25 : decode cX0_growOne 25 = .ok (.irem, 1) := by decide +kernel
theorem dX0_growOne_26 : decode cX0_growOne 26 = .ok (.iload_n 3, 1) := by decide +kernel
theorem dX0_growOne_27 : decode cX0_growOne 27 = .ok (.if_icmp .ge 12, 3) := by decide +kernel
theorem dX0_growOne_30 : decode cX0_growOne 30 = .ok (.aload_n 0, 1) := by decide +kernel
theorem dX0_growOne_31 : decode cX0_growOne 31 = .ok (.invokevirtual 55, 3) := by decide +kernel
theorem dX0_growOne_34 : decode cX0_growOne 34 = .ok (.bipush 12, 2) := by decide +kernel
theorem dX0_growOne_36 : decode cX0_growOne 36 = .ok (.irem, 1) := by decide +kernel
theorem dX0_growOne_37 : decode cX0_growOne 37 = .ok (.istore 4, 2) := by decide +kernel
theorem dX0_growOne_39 : decode cX0_growOne 39 = .ok (.aload_n 1, 1) := by decide +kernel
theorem dX0_growOne_40 : decode cX0_growOne 40 = .ok (.iload 4, 2) := by decide +kernel
theorem dX0_growOne_42 : decode cX0_growOne 42 = .ok (.aload_n 0, 1) := by decide +kernel
theorem dX0_growOne_43 : decode cX0_growOne 43 = .ok (.getfield 29, 3) := by decide +kernel
theorem dX0_growOne_46 : decode cX0_growOne 46 = .ok (.invokevirtual 59, 3) := by decide +kernel
theorem dX0_growOne_49 : decode cX0_growOne 49 = .ok (.iconst 1, 1) := by decide +kernel
theorem dX0_growOne_50 : decode cX0_growOne 50 = .ok (.ireturn, 1) := by decide +kernel
theorem dX0_draw_0 : decode cX0_draw 0 = .ok (.aload_n 0, 1) := by decide +kernel
theorem dX0_draw_1 : decode cX0_draw 1 = .ok (.ldc 63, 2) := by decide +kernel
theorem dX0_draw_3 : decode cX0_draw 3 = .ok (.aload_n 0, 1) := by decide +kernel
theorem dX0_draw_4 : decode cX0_draw 4 = .ok (.getfield 17, 3) := by decide +kernel
theorem dX0_draw_7 : decode cX0_draw 7 = .ok (.imul, 1) := by decide +kernel
theorem dX0_draw_8 : decode cX0_draw 8 = .ok (.sipush 12345, 3) := by decide +kernel
theorem dX0_draw_11 : decode cX0_draw 11 = .ok (.iadd, 1) := by decide +kernel
theorem dX0_draw_12 : decode cX0_draw 12 = .ok (.putfield 17, 3) := by decide +kernel
theorem dX0_draw_15 : decode cX0_draw 15 = .ok (.aload_n 0, 1) := by decide +kernel
theorem dX0_draw_16 : decode cX0_draw 16 = .ok (.getfield 17, 3) := by decide +kernel
theorem dX0_draw_19 : decode cX0_draw 19 = .ok (.bipush 16, 2) := by decide +kernel
theorem dX0_draw_21 : decode cX0_draw 21 = .ok (.iushr, 1) := by decide +kernel
theorem dX0_draw_22 : decode cX0_draw 22 = .ok (.sipush 32767, 3) := by decide +kernel
theorem dX0_draw_25 : decode cX0_draw 25 = .ok (.iand, 1) := by decide +kernel
theorem dX0_draw_26 : decode cX0_draw 26 = .ok (.ireturn, 1) := by decide +kernel
theorem dX0_areSealed_0 : decode cX0_areSealed 0 = .ok (.aload_n 0, 1) := by decide +kernel
theorem dX0_areSealed_1 : decode cX0_areSealed 1 = .ok (.invokevirtual 64, 3) := by decide +kernel
theorem dX0_areSealed_4 : decode cX0_areSealed 4 = .ok (.iload_n 1, 1) := by decide +kernel
theorem dX0_areSealed_5 : decode cX0_areSealed 5 = .ok (.ishr, 1) := by decide +kernel
theorem dX0_areSealed_6 : decode cX0_areSealed 6 = .ok (.iconst 1, 1) := by decide +kernel
theorem dX0_areSealed_7 : decode cX0_areSealed 7 = .ok (.iand, 1) := by decide +kernel
theorem dX0_areSealed_8 : decode cX0_areSealed 8 = .ok (.ifCond .ne 18, 3) := by decide +kernel
theorem dX0_areSealed_11 : decode cX0_areSealed 11 = .ok (.aload_n 0, 1) := by decide +kernel
theorem dX0_areSealed_12 : decode cX0_areSealed 12 = .ok (.invokevirtual 64, 3) := by decide +kernel
theorem dX0_areSealed_15 : decode cX0_areSealed 15 = .ok (.iload_n 2, 1) := by decide +kernel
theorem dX0_areSealed_16 : decode cX0_areSealed 16 = .ok (.ishr, 1) := by decide +kernel
theorem dX0_areSealed_17 : decode cX0_areSealed 17 = .ok (.iconst 1, 1) := by decide +kernel
theorem dX0_areSealed_18 : decode cX0_areSealed 18 = .ok (.iand, 1) := by decide +kernel
theorem dX0_areSealed_19 : decode cX0_areSealed 19 = .ok (.ifCond .ne 7, 3) := by decide +kernel
theorem dX0_areSealed_22 : decode cX0_areSealed 22 = .ok (.iconst 1, 1) := by decide +kernel
theorem dX0_areSealed_23 : decode cX0_areSealed 23 = .ok (.goto 4, 3) := by decide +kernel
theorem dX0_areSealed_26 : decode cX0_areSealed 26 = .ok (.iconst 0, 1) := by decide +kernel
theorem dX0_areSealed_27 : decode cX0_areSealed 27 = .ok (.ireturn, 1) := by decide +kernel
theorem dX0_linesInAll_0 : decode cX0_linesInAll 0 = .ok (.iconst 0, 1) := by decide +kernel
theorem dX0_linesInAll_1 : decode cX0_linesInAll 1 = .ok (.istore_n 1, 1) := by decide +kernel
theorem dX0_linesInAll_2 : decode cX0_linesInAll 2 = .ok (.iconst 0, 1) := by decide +kernel
theorem dX0_linesInAll_3 : decode cX0_linesInAll 3 = .ok (.istore_n 2, 1) := by decide +kernel
theorem dX0_linesInAll_4 : decode cX0_linesInAll 4 = .ok (.iload_n 2, 1) := by decide +kernel
theorem dX0_linesInAll_5 : decode cX0_linesInAll 5 = .ok (.aload_n 0, 1) := by decide +kernel
theorem dX0_linesInAll_6 : decode cX0_linesInAll 6 = .ok (.getfield 22, 3) := by decide +kernel
theorem dX0_linesInAll_9 : decode cX0_linesInAll 9 = .ok (.if_icmp .ge 21, 3) := by decide +kernel
theorem dX0_linesInAll_12 : decode cX0_linesInAll 12 = .ok (.iload_n 1, 1) := by decide +kernel
theorem dX0_linesInAll_13 : decode cX0_linesInAll 13 = .ok (.aload_n 0, 1) := by decide +kernel
theorem dX0_linesInAll_14 : decode cX0_linesInAll 14 = .ok (.getfield 11, 3) := by decide +kernel
theorem dX0_linesInAll_17 : decode cX0_linesInAll 17 = .ok (.iload_n 2, 1) := by decide +kernel
theorem dX0_linesInAll_18 : decode cX0_linesInAll 18 = .ok (.aaload, 1) := by decide +kernel
theorem dX0_linesInAll_19 : decode cX0_linesInAll 19 = .ok (.getfield 67, 3) := by decide +kernel
theorem dX0_linesInAll_22 : decode cX0_linesInAll 22 = .ok (.iadd, 1) := by decide +kernel
theorem dX0_linesInAll_23 : decode cX0_linesInAll 23 = .ok (.istore_n 1, 1) := by decide +kernel
theorem dX0_linesInAll_24 : decode cX0_linesInAll 24 = .ok (.iinc 2 1, 3) := by decide +kernel
theorem dX0_linesInAll_27 : decode cX0_linesInAll 27 = .ok (.goto (-23), 3) := by decide +kernel
theorem dX0_linesInAll_30 : decode cX0_linesInAll 30 = .ok (.iload_n 1, 1) := by decide +kernel
theorem dX0_linesInAll_31 : decode cX0_linesInAll 31 = .ok (.ireturn, 1) := by decide +kernel
theorem dX0_openSet_0 : decode cX0_openSet 0 = .ok (.iconst 0, 1) := by decide +kernel
theorem dX0_openSet_1 : decode cX0_openSet 1 = .ok (.istore_n 1, 1) := by decide +kernel
theorem dX0_openSet_2 : decode cX0_openSet 2 = .ok (.iconst 0, 1) := by decide +kernel
theorem dX0_openSet_3 : decode cX0_openSet 3 = .ok (.istore_n 2, 1) := by decide +kernel
theorem dX0_openSet_4 : decode cX0_openSet 4 = .ok (.iload_n 2, 1) := by decide +kernel
theorem dX0_openSet_5 : decode cX0_openSet 5 = .ok (.aload_n 0, 1) := by decide +kernel
theorem dX0_openSet_6 : decode cX0_openSet 6 = .ok (.getfield 22, 3) := by decide +kernel
theorem dX0_openSet_9 : decode cX0_openSet 9 = .ok (.if_icmp .ge 31, 3) := by decide +kernel
theorem dX0_openSet_12 : decode cX0_openSet 12 = .ok (.iload_n 1, 1) := by decide +kernel
theorem dX0_openSet_13 : decode cX0_openSet 13 = .ok (.aload_n 0, 1) := by decide +kernel
theorem dX0_openSet_14 : decode cX0_openSet 14 = .ok (.getfield 11, 3) := by decide +kernel
theorem dX0_openSet_17 : decode cX0_openSet 17 = .ok (.iload_n 2, 1) := by decide +kernel
theorem dX0_openSet_18 : decode cX0_openSet 18 = .ok (.aaload, 1) := by decide +kernel
theorem dX0_openSet_19 : decode cX0_openSet 19 = .ok (.getfield 70, 3) := by decide +kernel
theorem dX0_openSet_22 : decode cX0_openSet 22 = .ok (.ifCond .eq 9, 3) := by decide +kernel
theorem dX0_openSet_25 : decode cX0_openSet 25 = .ok (.iconst 1, 1) := by decide +kernel
theorem dX0_openSet_26 : decode cX0_openSet 26 = .ok (.iload_n 2, 1) := by decide +kernel
theorem dX0_openSet_27 : decode cX0_openSet 27 = .ok (.ishl, 1) := by decide +kernel
theorem dX0_openSet_28 : decode cX0_openSet 28 = .ok (.goto 4, 3) := by decide +kernel
theorem dX0_openSet_31 : decode cX0_openSet 31 = .ok (.iconst 0, 1) := by decide +kernel
theorem dX0_openSet_32 : decode cX0_openSet 32 = .ok (.ior, 1) := by decide +kernel
theorem dX0_openSet_33 : decode cX0_openSet 33 = .ok (.istore_n 1, 1) := by decide +kernel
theorem dX0_openSet_34 : decode cX0_openSet 34 = .ok (.iinc 2 1, 3) := by decide +kernel
theorem dX0_openSet_37 : decode cX0_openSet 37 = .ok (.goto (-33), 3) := by decide +kernel
theorem dX0_openSet_40 : decode cX0_openSet 40 = .ok (.iload_n 1, 1) := by decide +kernel
theorem dX0_openSet_41 : decode cX0_openSet 41 = .ok (.ireturn, 1) := by decide +kernel
theorem dX0_hotSet_0 : decode cX0_hotSet 0 = .ok (.iconst 0, 1) := by decide +kernel
theorem dX0_hotSet_1 : decode cX0_hotSet 1 = .ok (.istore_n 1, 1) := by decide +kernel
theorem dX0_hotSet_2 : decode cX0_hotSet 2 = .ok (.iconst 0, 1) := by decide +kernel
theorem dX0_hotSet_3 : decode cX0_hotSet 3 = .ok (.istore_n 2, 1) := by decide +kernel
theorem dX0_hotSet_4 : decode cX0_hotSet 4 = .ok (.iload_n 2, 1) := by decide +kernel
theorem dX0_hotSet_5 : decode cX0_hotSet 5 = .ok (.aload_n 0, 1) := by decide +kernel
theorem dX0_hotSet_6 : decode cX0_hotSet 6 = .ok (.getfield 22, 3) := by decide +kernel
theorem dX0_hotSet_9 : decode cX0_hotSet 9 = .ok (.if_icmp .ge 31, 3) := by decide +kernel
theorem dX0_hotSet_12 : decode cX0_hotSet 12 = .ok (.iload_n 1, 1) := by decide +kernel
theorem dX0_hotSet_13 : decode cX0_hotSet 13 = .ok (.aload_n 0, 1) := by decide +kernel
theorem dX0_hotSet_14 : decode cX0_hotSet 14 = .ok (.getfield 11, 3) := by decide +kernel
theorem dX0_hotSet_17 : decode cX0_hotSet 17 = .ok (.iload_n 2, 1) := by decide +kernel
theorem dX0_hotSet_18 : decode cX0_hotSet 18 = .ok (.aaload, 1) := by decide +kernel
theorem dX0_hotSet_19 : decode cX0_hotSet 19 = .ok (.getfield 39, 3) := by decide +kernel
theorem dX0_hotSet_22 : decode cX0_hotSet 22 = .ok (.ifCond .eq 9, 3) := by decide +kernel
theorem dX0_hotSet_25 : decode cX0_hotSet 25 = .ok (.iconst 1, 1) := by decide +kernel
theorem dX0_hotSet_26 : decode cX0_hotSet 26 = .ok (.iload_n 2, 1) := by decide +kernel
theorem dX0_hotSet_27 : decode cX0_hotSet 27 = .ok (.ishl, 1) := by decide +kernel
theorem dX0_hotSet_28 : decode cX0_hotSet 28 = .ok (.goto 4, 3) := by decide +kernel
theorem dX0_hotSet_31 : decode cX0_hotSet 31 = .ok (.iconst 0, 1) := by decide +kernel
theorem dX0_hotSet_32 : decode cX0_hotSet 32 = .ok (.ior, 1) := by decide +kernel
theorem dX0_hotSet_33 : decode cX0_hotSet 33 = .ok (.istore_n 1, 1) := by decide +kernel
theorem dX0_hotSet_34 : decode cX0_hotSet 34 = .ok (.iinc 2 1, 3) := by decide +kernel
theorem dX0_hotSet_37 : decode cX0_hotSet 37 = .ok (.goto (-33), 3) := by decide +kernel
theorem dX0_hotSet_40 : decode cX0_hotSet 40 = .ok (.iload_n 1, 1) := by decide +kernel
theorem dX0_hotSet_41 : decode cX0_hotSet 41 = .ok (.ireturn, 1) := by decide +kernel
theorem dX1_init_0 : decode cX1_init 0 = .ok (.aload_n 0, 1) := by decide +kernel
theorem dX1_init_1 : decode cX1_init 1 = .ok (.invokespecial 3, 3) := by decide +kernel
theorem dX1_init_4 : decode cX1_init 4 = .ok (.aload_n 0, 1) := by decide +kernel
theorem dX1_init_5 : decode cX1_init 5 = .ok (.bipush 12, 2) := by decide +kernel
theorem dX1_init_7 : decode cX1_init 7 = .ok (.newarray .int, 2) := by decide +kernel
theorem dX1_init_9 : decode cX1_init 9 = .ok (.putfield 9, 3) := by decide +kernel
theorem dX1_init_12 : decode cX1_init 12 = .ok (.aload_n 0, 1) := by decide +kernel
theorem dX1_init_13 : decode cX1_init 13 = .ok (.bipush 12, 2) := by decide +kernel
theorem dX1_init_15 : decode cX1_init 15 = .ok (.newarray .int, 2) := by decide +kernel
theorem dX1_init_17 : decode cX1_init 17 = .ok (.putfield 15, 3) := by decide +kernel
theorem dX1_init_20 : decode cX1_init 20 = .ok (.aload_n 0, 1) := by decide +kernel
theorem dX1_init_21 : decode cX1_init 21 = .ok (.bipush 12, 2) := by decide +kernel
theorem dX1_init_23 : decode cX1_init 23 = .ok (.newarray .int, 2) := by decide +kernel
theorem dX1_init_25 : decode cX1_init 25 = .ok (.putfield 18, 3) := by decide +kernel
theorem dX1_init_28 : decode cX1_init 28 = .ok (.aload_n 0, 1) := by decide +kernel
theorem dX1_init_29 : decode cX1_init 29 = .ok (.sipush 400, 3) := by decide +kernel
theorem dX1_init_32 : decode cX1_init 32 = .ok (.newarray .int, 2) := by decide +kernel
theorem dX1_init_34 : decode cX1_init 34 = .ok (.putfield 21, 3) := by decide +kernel
theorem dX1_init_37 : decode cX1_init 37 = .ok (.aload_n 0, 1) := by decide +kernel
theorem dX1_init_38 : decode cX1_init 38 = .ok (.sipush 400, 3) := by decide +kernel
theorem dX1_init_41 : decode cX1_init 41 = .ok (.newarray .int, 2) := by decide +kernel
theorem dX1_init_43 : decode cX1_init 43 = .ok (.putfield 24, 3) := by decide +kernel
theorem dX1_init_46 : decode cX1_init 46 = .ok (.aload_n 0, 1) := by decide +kernel
theorem dX1_init_47 : decode cX1_init 47 = .ok (.bipush 8, 2) := by decide +kernel
theorem dX1_init_49 : decode cX1_init 49 = .ok (.newarray .int, 2) := by decide +kernel
theorem dX1_init_51 : decode cX1_init 51 = .ok (.putfield 27, 3) := by decide +kernel
theorem dX1_init_54 : decode cX1_init 54 = .ok (.return_, 1) := by decide +kernel
theorem dX1_clear_0 : decode cX1_clear 0 = .ok (.aload_n 0, 1) := by decide +kernel
theorem dX1_clear_1 : decode cX1_clear 1 = .ok (.iconst 0, 1) := by decide +kernel
theorem dX1_clear_2 : decode cX1_clear 2 = .ok (.putfield 30, 3) := by decide +kernel
theorem dX1_clear_5 : decode cX1_clear 5 = .ok (.aload_n 0, 1) := by decide +kernel
theorem dX1_clear_6 : decode cX1_clear 6 = .ok (.iconst 0, 1) := by decide +kernel
theorem dX1_clear_7 : decode cX1_clear 7 = .ok (.putfield 34, 3) := by decide +kernel
theorem dX1_clear_10 : decode cX1_clear 10 = .ok (.aload_n 0, 1) := by decide +kernel
theorem dX1_clear_11 : decode cX1_clear 11 = .ok (.iconst 0, 1) := by decide +kernel
theorem dX1_clear_12 : decode cX1_clear 12 = .ok (.putfield 37, 3) := by decide +kernel
theorem dX1_clear_15 : decode cX1_clear 15 = .ok (.return_, 1) := by decide +kernel
theorem dX1_become_0 : decode cX1_become 0 = .ok (.aload_n 1, 1) := by decide +kernel
theorem dX1_become_1 : decode cX1_become 1 = .ok (.getfield 9, 3) := by decide +kernel
theorem dX1_become_4 : decode cX1_become 4 = .ok (.iconst 0, 1) := by decide +kernel
theorem dX1_become_5 : decode cX1_become 5 = .ok (.aload_n 0, 1) := by decide +kernel
theorem dX1_become_6 : decode cX1_become 6 = .ok (.getfield 9, 3) := by decide +kernel
theorem dX1_become_9 : decode cX1_become 9 = .ok (.iconst 0, 1) := by decide +kernel
theorem dX1_become_10 : decode cX1_become 10 = .ok (.bipush 12, 2) := by decide +kernel
theorem dX1_become_12 : decode cX1_become 12 = .ok (.invokestatic 41, 3) := by decide +kernel
theorem dX1_become_15 : decode cX1_become 15 = .ok (.aload_n 1, 1) := by decide +kernel
theorem dX1_become_16 : decode cX1_become 16 = .ok (.getfield 15, 3) := by decide +kernel
theorem dX1_become_19 : decode cX1_become 19 = .ok (.iconst 0, 1) := by decide +kernel
theorem dX1_become_20 : decode cX1_become 20 = .ok (.aload_n 0, 1) := by decide +kernel
theorem dX1_become_21 : decode cX1_become 21 = .ok (.getfield 15, 3) := by decide +kernel
theorem dX1_become_24 : decode cX1_become 24 = .ok (.iconst 0, 1) := by decide +kernel
theorem dX1_become_25 : decode cX1_become 25 = .ok (.bipush 12, 2) := by decide +kernel
theorem dX1_become_27 : decode cX1_become 27 = .ok (.invokestatic 41, 3) := by decide +kernel
theorem dX1_become_30 : decode cX1_become 30 = .ok (.aload_n 1, 1) := by decide +kernel
theorem dX1_become_31 : decode cX1_become 31 = .ok (.getfield 18, 3) := by decide +kernel
theorem dX1_become_34 : decode cX1_become 34 = .ok (.iconst 0, 1) := by decide +kernel
theorem dX1_become_35 : decode cX1_become 35 = .ok (.aload_n 0, 1) := by decide +kernel
theorem dX1_become_36 : decode cX1_become 36 = .ok (.getfield 18, 3) := by decide +kernel
theorem dX1_become_39 : decode cX1_become 39 = .ok (.iconst 0, 1) := by decide +kernel
theorem dX1_become_40 : decode cX1_become 40 = .ok (.bipush 12, 2) := by decide +kernel
theorem dX1_become_42 : decode cX1_become 42 = .ok (.invokestatic 41, 3) := by decide +kernel
theorem dX1_become_45 : decode cX1_become 45 = .ok (.aload_n 1, 1) := by decide +kernel
theorem dX1_become_46 : decode cX1_become 46 = .ok (.getfield 21, 3) := by decide +kernel
theorem dX1_become_49 : decode cX1_become 49 = .ok (.iconst 0, 1) := by decide +kernel
theorem dX1_become_50 : decode cX1_become 50 = .ok (.aload_n 0, 1) := by decide +kernel
theorem dX1_become_51 : decode cX1_become 51 = .ok (.getfield 21, 3) := by decide +kernel
theorem dX1_become_54 : decode cX1_become 54 = .ok (.iconst 0, 1) := by decide +kernel
theorem dX1_become_55 : decode cX1_become 55 = .ok (.sipush 400, 3) := by decide +kernel
theorem dX1_become_58 : decode cX1_become 58 = .ok (.invokestatic 41, 3) := by decide +kernel
theorem dX1_become_61 : decode cX1_become 61 = .ok (.aload_n 0, 1) := by decide +kernel
theorem dX1_become_62 : decode cX1_become 62 = .ok (.aload_n 1, 1) := by decide +kernel
theorem dX1_become_63 : decode cX1_become 63 = .ok (.getfield 30, 3) := by decide +kernel
theorem dX1_become_66 : decode cX1_become 66 = .ok (.putfield 30, 3) := by decide +kernel
theorem dX1_become_69 : decode cX1_become 69 = .ok (.aload_n 0, 1) := by decide +kernel
theorem dX1_become_70 : decode cX1_become 70 = .ok (.aload_n 1, 1) := by decide +kernel
theorem dX1_become_71 : decode cX1_become 71 = .ok (.getfield 34, 3) := by decide +kernel
theorem dX1_become_74 : decode cX1_become 74 = .ok (.putfield 34, 3) := by decide +kernel
theorem dX1_become_77 : decode cX1_become 77 = .ok (.aload_n 0, 1) := by decide +kernel
theorem dX1_become_78 : decode cX1_become 78 = .ok (.aload_n 1, 1) := by decide +kernel
theorem dX1_become_79 : decode cX1_become 79 = .ok (.getfield 37, 3) := by decide +kernel
theorem dX1_become_82 : decode cX1_become 82 = .ok (.putfield 37, 3) := by decide +kernel
theorem dX1_become_85 : decode cX1_become 85 = .ok (.return_, 1) := by decide +kernel
theorem dX1_addCode_0 : decode cX1_addCode 0 = .ok (.aload_n 0, 1) := by decide +kernel
theorem dX1_addCode_1 : decode cX1_addCode 1 = .ok (.getfield 30, 3) := by decide +kernel
theorem dX1_addCode_4 : decode cX1_addCode 4 = .ok (.sipush 400, 3) := by decide +kernel
theorem dX1_addCode_7 : decode cX1_addCode 7 = .ok (.if_icmp .ge 23, 3) := by decide +kernel
theorem dX1_addCode_10 : decode cX1_addCode 10 = .ok (.aload_n 0, 1) := by decide +kernel
theorem dX1_addCode_11 : decode cX1_addCode 11 = .ok (.getfield 21, 3) := by decide +kernel
theorem dX1_addCode_14 : decode cX1_addCode 14 = .ok (.aload_n 0, 1) := by decide +kernel
theorem dX1_addCode_15 : decode cX1_addCode 15 = .ok (.getfield 30, 3) := by decide +kernel
theorem dX1_addCode_18 : decode cX1_addCode 18 = .ok (.iload_n 1, 1) := by decide +kernel
theorem dX1_addCode_19 : decode cX1_addCode 19 = .ok (.iastore, 1) := by decide +kernel
theorem dX1_addCode_20 : decode cX1_addCode 20 = .ok (.aload_n 0, 1) := by decide +kernel
theorem dX1_addCode_21 : decode cX1_addCode 21 = .ok (.dup, 1) := by decide +kernel
theorem dX1_addCode_22 : decode cX1_addCode 22 = .ok (.getfield 30, 3) := by decide +kernel
theorem dX1_addCode_25 : decode cX1_addCode 25 = .ok (.iconst 1, 1) := by decide +kernel
theorem dX1_addCode_26 : decode cX1_addCode 26 = .ok (.iadd, 1) := by decide +kernel
theorem dX1_addCode_27 : decode cX1_addCode 27 = .ok (.putfield 30, 3) := by decide +kernel
theorem dX1_addCode_30 : decode cX1_addCode 30 = .ok (.return_, 1) := by decide +kernel
theorem dX1_addLine_0 : decode cX1_addLine 0 = .ok (.aload_n 0, 1) := by decide +kernel
theorem dX1_addLine_1 : decode cX1_addLine 1 = .ok (.getfield 34, 3) := by decide +kernel
theorem dX1_addLine_4 : decode cX1_addLine 4 = .ok (.bipush 12, 2) := by decide +kernel
theorem dX1_addLine_6 : decode cX1_addLine 6 = .ok (.if_icmp .ge 46, 3) := by decide +kernel
theorem dX1_addLine_9 : decode cX1_addLine 9 = .ok (.aload_n 0, 1) := by decide +kernel
theorem dX1_addLine_10 : decode cX1_addLine 10 = .ok (.getfield 9, 3) := by decide +kernel
theorem dX1_addLine_13 : decode cX1_addLine 13 = .ok (.aload_n 0, 1) := by decide +kernel
theorem dX1_addLine_14 : decode cX1_addLine 14 = .ok (.getfield 34, 3) := by decide +kernel
theorem dX1_addLine_17 : decode cX1_addLine 17 = .ok (.iload_n 1, 1) := by decide +kernel
theorem dX1_addLine_18 : decode cX1_addLine 18 = .ok (.iastore, 1) := by decide +kernel
theorem dX1_addLine_19 : decode cX1_addLine 19 = .ok (.aload_n 0, 1) := by decide +kernel
theorem dX1_addLine_20 : decode cX1_addLine 20 = .ok (.getfield 15, 3) := by decide +kernel
theorem dX1_addLine_23 : decode cX1_addLine 23 = .ok (.aload_n 0, 1) := by decide +kernel
theorem dX1_addLine_24 : decode cX1_addLine 24 = .ok (.getfield 34, 3) := by decide +kernel
theorem dX1_addLine_27 : decode cX1_addLine 27 = .ok (.iload_n 2, 1) := by decide +kernel
theorem dX1_addLine_28 : decode cX1_addLine 28 = .ok (.iastore, 1) := by decide +kernel
theorem dX1_addLine_29 : decode cX1_addLine 29 = .ok (.aload_n 0, 1) := by decide +kernel
theorem dX1_addLine_30 : decode cX1_addLine 30 = .ok (.getfield 18, 3) := by decide +kernel
theorem dX1_addLine_33 : decode cX1_addLine 33 = .ok (.aload_n 0, 1) := by decide +kernel
theorem dX1_addLine_34 : decode cX1_addLine 34 = .ok (.getfield 34, 3) := by decide +kernel
theorem dX1_addLine_37 : decode cX1_addLine 37 = .ok (.aload_n 0, 1) := by decide +kernel
theorem dX1_addLine_38 : decode cX1_addLine 38 = .ok (.getfield 30, 3) := by decide +kernel
theorem dX1_addLine_41 : decode cX1_addLine 41 = .ok (.iastore, 1) := by decide +kernel
theorem dX1_addLine_42 : decode cX1_addLine 42 = .ok (.aload_n 0, 1) := by decide +kernel
theorem dX1_addLine_43 : decode cX1_addLine 43 = .ok (.dup, 1) := by decide +kernel
theorem dX1_addLine_44 : decode cX1_addLine 44 = .ok (.getfield 34, 3) := by decide +kernel
theorem dX1_addLine_47 : decode cX1_addLine 47 = .ok (.iconst 1, 1) := by decide +kernel
theorem dX1_addLine_48 : decode cX1_addLine 48 = .ok (.iadd, 1) := by decide +kernel
theorem dX1_addLine_49 : decode cX1_addLine 49 = .ok (.putfield 34, 3) := by decide +kernel
theorem dX1_addLine_52 : decode cX1_addLine 52 = .ok (.return_, 1) := by decide +kernel
theorem dX1_leads_0 : decode cX1_leads 0 = .ok (.iconst 0, 1) := by decide +kernel
theorem dX1_leads_1 : decode cX1_leads 1 = .ok (.istore_n 3, 1) := by decide +kernel
theorem dX1_leads_2 : decode cX1_leads 2 = .ok (.iload_n 3, 1) := by decide +kernel
theorem dX1_leads_3 : decode cX1_leads 3 = .ok (.aload_n 0, 1) := by decide +kernel
theorem dX1_leads_4 : decode cX1_leads 4 = .ok (.getfield 34, 3) := by decide +kernel
theorem dX1_leads_7 : decode cX1_leads 7 = .ok (.if_icmp .ge 31, 3) := by decide +kernel
theorem dX1_leads_10 : decode cX1_leads 10 = .ok (.aload_n 0, 1) := by decide +kernel
theorem dX1_leads_11 : decode cX1_leads 11 = .ok (.getfield 9, 3) := by decide +kernel
theorem dX1_leads_14 : decode cX1_leads 14 = .ok (.iload_n 3, 1) := by decide +kernel
theorem dX1_leads_15 : decode cX1_leads 15 = .ok (.iaload, 1) := by decide +kernel
theorem dX1_leads_16 : decode cX1_leads 16 = .ok (.iload_n 1, 1) := by decide +kernel
theorem dX1_leads_17 : decode cX1_leads 17 = .ok (.if_icmp .ne 15, 3) := by decide +kernel
theorem dX1_leads_20 : decode cX1_leads 20 = .ok (.aload_n 0, 1) := by decide +kernel
theorem dX1_leads_21 : decode cX1_leads 21 = .ok (.getfield 15, 3) := by decide +kernel
theorem dX1_leads_24 : decode cX1_leads 24 = .ok (.iload_n 3, 1) := by decide +kernel
theorem dX1_leads_25 : decode cX1_leads 25 = .ok (.iaload, 1) := by decide +kernel
theorem dX1_leads_26 : decode cX1_leads 26 = .ok (.iload_n 2, 1) := by decide +kernel
theorem dX1_leads_27 : decode cX1_leads 27 = .ok (.if_icmp .ne 5, 3) := by decide +kernel
theorem dX1_leads_30 : decode cX1_leads 30 = .ok (.iconst 1, 1) := by decide +kernel
theorem dX1_leads_31 : decode cX1_leads 31 = .ok (.ireturn, 1) := by decide +kernel
theorem dX1_leads_32 : decode cX1_leads 32 = .ok (.iinc 3 1, 3) := by decide +kernel
theorem dX1_leads_35 : decode cX1_leads 35 = .ok (.goto (-33), 3) := by decide +kernel
theorem dX1_leads_38 : decode cX1_leads 38 = .ok (.iconst 0, 1) := by decide +kernel
theorem dX1_leads_39 : decode cX1_leads 39 = .ok (.ireturn, 1) := by decide +kernel
theorem dX1_growth_0 : decode cX1_growth 0 = .ok (.aload_n 1, 1) := by decide +kernel
theorem dX1_growth_1 : decode cX1_growth 1 = .ok (.getfield 47, 3) := by decide +kernel
theorem dX1_growth_4 : decode cX1_growth 4 = .ok (.ifCond .ne 12, 3) := by decide +kernel
theorem dX1_growth_7 : decode cX1_growth 7 = .ok (.aload_n 1, 1) := by decide +kernel
theorem dX1_growth_8 : decode cX1_growth 8 = .ok (.getfield 52, 3) := by decide +kernel
theorem dX1_growth_11 : decode cX1_growth 11 = .ok (.bipush 24, 2) := by decide +kernel
theorem dX1_growth_13 : decode cX1_growth 13 = .ok (.if_icmp .lt 7, 3) := by decide +kernel
theorem dX1_growth_16 : decode cX1_growth 16 = .ok (.iconst (-1), 1) := by decide +kernel
theorem dX1_growth_17 : decode cX1_growth 17 = .ok (.goto 13, 3) := by decide +kernel
theorem dX1_growth_20 : decode cX1_growth 20 = .ok (.aload_n 0, 1) := by decide +kernel
theorem dX1_growth_21 : decode cX1_growth 21 = .ok (.aload_n 1, 1) := by decide +kernel
theorem dX1_growth_22 : decode cX1_growth 22 = .ok (.aload_n 1, 1) := by decide +kernel
theorem dX1_growth_23 : decode cX1_growth 23 = .ok (.getfield 52, 3) := by decide +kernel
theorem dX1_growth_26 : decode cX1_growth 26 = .ok (.iload_n 2, 1) := by decide +kernel
theorem dX1_growth_27 : decode cX1_growth 27 = .ok (.invokevirtual 55, 3) := by decide +kernel
theorem dX1_growth_30 : decode cX1_growth 30 = .ok (.ireturn, 1) := by decide +kernel
theorem dX1_astrayIn_0 : decode cX1_astrayIn 0 = .ok (.iconst 0, 1) := by decide +kernel
theorem dX1_astrayIn_1 : decode cX1_astrayIn 1 = .ok (.istore_n 2, 1) := by decide +kernel
theorem dX1_astrayIn_2 : decode cX1_astrayIn 2 = .ok (.iconst 1, 1) := by decide +kernel
theorem dX1_astrayIn_3 : decode cX1_astrayIn 3 = .ok (.istore_n 3, 1) := by decide +kernel
theorem dX1_astrayIn_4 : decode cX1_astrayIn 4 = .ok (.iload_n 3, 1) := by decide +kernel
theorem dX1_astrayIn_5 : decode cX1_astrayIn 5 = .ok (.aload_n 1, 1) := by decide +kernel
theorem dX1_astrayIn_6 : decode cX1_astrayIn 6 = .ok (.getfield 52, 3) := by decide +kernel
theorem dX1_astrayIn_9 : decode cX1_astrayIn 9 = .ok (.if_icmp .ge 34, 3) := by decide +kernel
theorem dX1_astrayIn_12 : decode cX1_astrayIn 12 = .ok (.aload_n 0, 1) := by decide +kernel
theorem dX1_astrayIn_13 : decode cX1_astrayIn 13 = .ok (.aload_n 1, 1) := by decide +kernel
theorem dX1_astrayIn_14 : decode cX1_astrayIn 14 = .ok (.iload_n 3, 1) := by decide +kernel
theorem dX1_astrayIn_15 : decode cX1_astrayIn 15 = .ok (.aload_n 1, 1) := by decide +kernel
theorem dX1_astrayIn_16 : decode cX1_astrayIn 16 = .ok (.iload_n 3, 1) := by decide +kernel
theorem dX1_astrayIn_17 : decode cX1_astrayIn 17 = .ok (.invokevirtual 59, 3) := by decide +kernel
theorem dX1_astrayIn_20 : decode cX1_astrayIn 20 = .ok (.invokevirtual 55, 3) := by decide +kernel
theorem dX1_astrayIn_23 : decode cX1_astrayIn 23 = .ok (.aload_n 1, 1) := by decide +kernel
theorem dX1_astrayIn_24 : decode cX1_astrayIn 24 = .ok (.iload_n 3, 1) := by decide +kernel
theorem dX1_astrayIn_25 : decode cX1_astrayIn 25 = .ok (.invokevirtual 63, 3) := by decide +kernel
theorem dX1_astrayIn_28 : decode cX1_astrayIn 28 = .ok (.if_icmp .eq 9, 3) := by decide +kernel
theorem dX1_astrayIn_31 : decode cX1_astrayIn 31 = .ok (.iload_n 2, 1) := by decide +kernel
theorem dX1_astrayIn_32 : decode cX1_astrayIn 32 = .ok (.iconst 1, 1) := by decide +kernel
theorem dX1_astrayIn_33 : decode cX1_astrayIn 33 = .ok (.iload_n 3, 1) := by decide +kernel
theorem dX1_astrayIn_34 : decode cX1_astrayIn 34 = .ok (.ishl, 1) := by decide +kernel
theorem dX1_astrayIn_35 : decode cX1_astrayIn 35 = .ok (.ior, 1) := by decide +kernel
theorem dX1_astrayIn_36 : decode cX1_astrayIn 36 = .ok (.istore_n 2, 1) := by decide +kernel
theorem dX1_astrayIn_37 : decode cX1_astrayIn 37 = .ok (.iinc 3 1, 3) := by decide +kernel
theorem dX1_astrayIn_40 : decode cX1_astrayIn 40 = .ok (.goto (-36), 3) := by decide +kernel
theorem dX1_astrayIn_43 : decode cX1_astrayIn 43 = .ok (.iload_n 2, 1) := by decide +kernel
theorem dX1_astrayIn_44 : decode cX1_astrayIn 44 = .ok (.ireturn, 1) := by decide +kernel
theorem dX1_follows_0 : decode cX1_follows 0 = .ok (.aload_n 1, 1) := by decide +kernel
theorem dX1_follows_1 : decode cX1_follows 1 = .ok (.iload_n 2, 1) := by decide +kernel
theorem dX1_follows_2 : decode cX1_follows 2 = .ok (.iconst 1, 1) := by decide +kernel
theorem dX1_follows_3 : decode cX1_follows 3 = .ok (.isub, 1) := by decide +kernel
theorem dX1_follows_4 : decode cX1_follows 4 = .ok (.invokevirtual 63, 3) := by decide +kernel
theorem dX1_follows_7 : decode cX1_follows 7 = .ok (.istore 4, 2) := by decide +kernel
theorem dX1_follows_9 : decode cX1_follows 9 = .ok (.aload_n 0, 1) := by decide +kernel
theorem dX1_follows_10 : decode cX1_follows 10 = .ok (.aload_n 1, 1) := by decide +kernel
theorem dX1_follows_11 : decode cX1_follows 11 = .ok (.iload_n 2, 1) := by decide +kernel
theorem dX1_follows_12 : decode cX1_follows 12 = .ok (.iload_n 3, 1) := by decide +kernel
theorem dX1_follows_13 : decode cX1_follows 13 = .ok (.invokevirtual 66, 3) := by decide +kernel
theorem dX1_follows_16 : decode cX1_follows 16 = .ok (.iconst 0, 1) := by decide +kernel
theorem dX1_follows_17 : decode cX1_follows 17 = .ok (.istore 5, 2) := by decide +kernel
theorem dX1_follows_19 : decode cX1_follows 19 = .ok (.iload 5, 2) := by decide +kernel
theorem dX1_follows_21 : decode cX1_follows 21 = .ok (.aload_n 0, 1) := by decide +kernel
theorem dX1_follows_22 : decode cX1_follows 22 = .ok (.getfield 34, 3) := by decide +kernel
theorem dX1_follows_25 : decode cX1_follows 25 = .ok (.if_icmp .ge 38, 3) := by decide +kernel
theorem dX1_follows_28 : decode cX1_follows 28 = .ok (.aload_n 0, 1) := by decide +kernel
theorem dX1_follows_29 : decode cX1_follows 29 = .ok (.getfield 9, 3) := by decide +kernel
theorem dX1_follows_32 : decode cX1_follows 32 = .ok (.iload 5, 2) := by decide +kernel
theorem dX1_follows_34 : decode cX1_follows 34 = .ok (.iaload, 1) := by decide +kernel
theorem dX1_follows_35 : decode cX1_follows 35 = .ok (.iload 4, 2) := by decide +kernel
theorem dX1_follows_37 : decode cX1_follows 37 = .ok (.if_icmp .ne 20, 3) := by decide +kernel
theorem dX1_follows_40 : decode cX1_follows 40 = .ok (.aload_n 0, 1) := by decide +kernel
theorem dX1_follows_41 : decode cX1_follows 41 = .ok (.iload 5, 2) := by decide +kernel
theorem dX1_follows_43 : decode cX1_follows 43 = .ok (.invokevirtual 70, 3) := by decide +kernel
theorem dX1_follows_46 : decode cX1_follows 46 = .ok (.ifCond .eq 11, 3) := by decide +kernel
theorem dX1_follows_49 : decode cX1_follows 49 = .ok (.aload_n 0, 1) := by decide +kernel
theorem dX1_follows_50 : decode cX1_follows 50 = .ok (.getfield 15, 3) := by decide +kernel
theorem dX1_follows_53 : decode cX1_follows 53 = .ok (.iload 5, 2) := by decide +kernel
theorem dX1_follows_55 : decode cX1_follows 55 = .ok (.iaload, 1) := by decide +kernel
theorem dX1_follows_56 : decode cX1_follows 56 = .ok (.ireturn, 1) := by decide +kernel
theorem dX1_follows_57 : decode cX1_follows 57 = .ok (.iinc 5 1, 3) := by decide +kernel
theorem dX1_follows_60 : decode cX1_follows 60 = .ok (.goto (-41), 3) := by decide +kernel
theorem dX1_follows_63 : decode cX1_follows 63 = .ok (.iconst (-1), 1) := by decide +kernel
theorem dX1_follows_64 : decode cX1_follows 64 = .ok (.ireturn, 1) := by decide +kernel
theorem dX1_learnFacts_0 : decode cX1_learnFacts 0 = .ok (.iload_n 3, 1) := by decide +kernel
theorem dX1_learnFacts_1 : decode cX1_learnFacts 1 = .ok (.invokestatic 74, 3) := by decide +kernel
theorem dX1_learnFacts_4 : decode cX1_learnFacts 4 = .ok (.istore 4, 2) := by decide +kernel
theorem dX1_learnFacts_6 : decode cX1_learnFacts 6 = .ok (.aload_n 0, 1) := by decide +kernel
theorem dX1_learnFacts_7 : decode cX1_learnFacts 7 = .ok (.getfield 27, 3) := by decide +kernel
theorem dX1_learnFacts_10 : decode cX1_learnFacts 10 = .ok (.iconst 0, 1) := by decide +kernel
theorem dX1_learnFacts_11 : decode cX1_learnFacts 11 = .ok (.aload_n 1, 1) := by decide +kernel
theorem dX1_learnFacts_12 : decode cX1_learnFacts 12 = .ok (.getfield 77, 3) := by decide +kernel
theorem dX1_learnFacts_15 : decode cX1_learnFacts 15 = .ok (.ifCond .eq 7, 3) := by decide +kernel
theorem dX1_learnFacts_18 : decode cX1_learnFacts 18 = .ok (.iconst 1, 1) := by decide +kernel
theorem dX1_learnFacts_19 : decode cX1_learnFacts 19 = .ok (.goto 4, 3) := by decide +kernel
theorem dX1_learnFacts_22 : decode cX1_learnFacts 22 = .ok (.iconst 0, 1) := by decide +kernel
theorem dX1_learnFacts_23 : decode cX1_learnFacts 23 = .ok (.iastore, 1) := by decide +kernel
theorem dX1_learnFacts_24 : decode cX1_learnFacts 24 = .ok (.aload_n 0, 1) := by decide +kernel
theorem dX1_learnFacts_25 : decode cX1_learnFacts 25 = .ok (.getfield 27, 3) := by decide +kernel
theorem dX1_learnFacts_28 : decode cX1_learnFacts 28 = .ok (.iconst 1, 1) := by decide +kernel
theorem dX1_learnFacts_29 : decode cX1_learnFacts 29 = .ok (.iload 4, 2) := by decide +kernel
theorem dX1_learnFacts_31 : decode cX1_learnFacts 31 = .ok (.iconst 3, 1) := by decide +kernel
theorem dX1_learnFacts_32 : decode cX1_learnFacts 32 = .ok (.if_icmp .ne 7, 3) := by decide +kernel
theorem dX1_learnFacts_35 : decode cX1_learnFacts 35 = .ok (.iconst 1, 1) := by decide +kernel
theorem dX1_learnFacts_36 : decode cX1_learnFacts 36 = .ok (.goto 4, 3) := by decide +kernel
theorem dX1_learnFacts_39 : decode cX1_learnFacts 39 = .ok (.iconst 0, 1) := by decide +kernel
theorem dX1_learnFacts_40 : decode cX1_learnFacts 40 = .ok (.iastore, 1) := by decide +kernel
theorem dX1_learnFacts_41 : decode cX1_learnFacts 41 = .ok (.aload_n 0, 1) := by decide +kernel
theorem dX1_learnFacts_42 : decode cX1_learnFacts 42 = .ok (.getfield 27, 3) := by decide +kernel
theorem dX1_learnFacts_45 : decode cX1_learnFacts 45 = .ok (.iconst 2, 1) := by decide +kernel
theorem dX1_learnFacts_46 : decode cX1_learnFacts 46 = .ok (.iload_n 2, 1) := by decide +kernel
theorem dX1_learnFacts_47 : decode cX1_learnFacts 47 = .ok (.iastore, 1) := by decide +kernel
theorem dX1_learnFacts_48 : decode cX1_learnFacts 48 = .ok (.aload_n 0, 1) := by decide +kernel
theorem dX1_learnFacts_49 : decode cX1_learnFacts 49 = .ok (.getfield 27, 3) := by decide +kernel
theorem dX1_learnFacts_52 : decode cX1_learnFacts 52 = .ok (.iconst 3, 1) := by decide +kernel
theorem dX1_learnFacts_53 : decode cX1_learnFacts 53 = .ok (.aload_n 1, 1) := by decide +kernel
theorem dX1_learnFacts_54 : decode cX1_learnFacts 54 = .ok (.getfield 80, 3) := by decide +kernel
theorem dX1_learnFacts_57 : decode cX1_learnFacts 57 = .ok (.iastore, 1) := by decide +kernel
theorem dX1_learnFacts_58 : decode cX1_learnFacts 58 = .ok (.aload_n 0, 1) := by decide +kernel
theorem dX1_learnFacts_59 : decode cX1_learnFacts 59 = .ok (.getfield 27, 3) := by decide +kernel
theorem dX1_learnFacts_62 : decode cX1_learnFacts 62 = .ok (.iconst 4, 1) := by decide +kernel
theorem dX1_learnFacts_63 : decode cX1_learnFacts 63 = .ok (.iload_n 2, 1) := by decide +kernel
theorem dX1_learnFacts_64 : decode cX1_learnFacts 64 = .ok (.iconst 2, 1) := by decide +kernel
theorem dX1_learnFacts_65 : decode cX1_learnFacts 65 = .ok (.if_icmp .ge 8, 3) := by decide +kernel
theorem dX1_learnFacts_68 : decode cX1_learnFacts 68 = .ok (.bipush 12, 2) := by decide +kernel
theorem dX1_learnFacts_70 : decode cX1_learnFacts 70 = .ok (.goto 10, 3) := by decide +kernel
theorem dX1_learnFacts_73 : decode cX1_learnFacts 73 = .ok (.aload_n 1, 1) := by decide +kernel
theorem dX1_learnFacts_74 : decode cX1_learnFacts 74 = .ok (.iload_n 2, 1) := by decide +kernel
theorem dX1_learnFacts_75 : decode cX1_learnFacts 75 = .ok (.iconst 2, 1) := by decide +kernel
theorem dX1_learnFacts_76 : decode cX1_learnFacts 76 = .ok (.isub, 1) := by decide +kernel
theorem dX1_learnFacts_77 : decode cX1_learnFacts 77 = .ok (.invokevirtual 63, 3) := by decide +kernel
theorem dX1_learnFacts_80 : decode cX1_learnFacts 80 = .ok (.iastore, 1) := by decide +kernel
theorem dX1_learnFacts_81 : decode cX1_learnFacts 81 = .ok (.aload_n 0, 1) := by decide +kernel
theorem dX1_learnFacts_82 : decode cX1_learnFacts 82 = .ok (.getfield 27, 3) := by decide +kernel
theorem dX1_learnFacts_85 : decode cX1_learnFacts 85 = .ok (.iconst 5, 1) := by decide +kernel
theorem dX1_learnFacts_86 : decode cX1_learnFacts 86 = .ok (.iload_n 3, 1) := by decide +kernel
theorem dX1_learnFacts_87 : decode cX1_learnFacts 87 = .ok (.iastore, 1) := by decide +kernel
theorem dX1_learnFacts_88 : decode cX1_learnFacts 88 = .ok (.aload_n 0, 1) := by decide +kernel
theorem dX1_learnFacts_89 : decode cX1_learnFacts 89 = .ok (.getfield 27, 3) := by decide +kernel
theorem dX1_learnFacts_92 : decode cX1_learnFacts 92 = .ok (.bipush 6, 2) := by decide +kernel
theorem dX1_learnFacts_94 : decode cX1_learnFacts 94 = .ok (.iload 4, 2) := by decide +kernel
theorem dX1_learnFacts_96 : decode cX1_learnFacts 96 = .ok (.iastore, 1) := by decide +kernel
theorem dX1_learnFacts_97 : decode cX1_learnFacts 97 = .ok (.aload_n 0, 1) := by decide +kernel
theorem dX1_learnFacts_98 : decode cX1_learnFacts 98 = .ok (.getfield 27, 3) := by decide +kernel
theorem dX1_learnFacts_101 : decode cX1_learnFacts 101 = .ok (.bipush 7, 2) := by decide +kernel
theorem dX1_learnFacts_103 : decode cX1_learnFacts 103 = .ok (.aload_n 1, 1) := by decide +kernel
theorem dX1_learnFacts_104 : decode cX1_learnFacts 104 = .ok (.getfield 83, 3) := by decide +kernel
theorem dX1_learnFacts_107 : decode cX1_learnFacts 107 = .ok (.iastore, 1) := by decide +kernel
theorem dX1_learnFacts_108 : decode cX1_learnFacts 108 = .ok (.return_, 1) := by decide +kernel
theorem dX1_isMet_0 : decode cX1_isMet 0 = .ok (.iconst 0, 1) := by decide +kernel
theorem dX1_isMet_1 : decode cX1_isMet 1 = .ok (.istore_n 2, 1) := by decide +kernel
theorem dX1_isMet_2 : decode cX1_isMet 2 = .ok (.iload_n 1, 1) := by decide +kernel
theorem dX1_isMet_3 : decode cX1_isMet 3 = .ok (.ifCond .le 14, 3) := by decide +kernel
theorem dX1_isMet_6 : decode cX1_isMet 6 = .ok (.aload_n 0, 1) := by decide +kernel
theorem dX1_isMet_7 : decode cX1_isMet 7 = .ok (.getfield 18, 3) := by decide +kernel
theorem dX1_isMet_10 : decode cX1_isMet 10 = .ok (.iload_n 1, 1) := by decide +kernel
theorem dX1_isMet_11 : decode cX1_isMet 11 = .ok (.iconst 1, 1) := by decide +kernel
theorem dX1_isMet_12 : decode cX1_isMet 12 = .ok (.isub, 1) := by decide +kernel
theorem dX1_isMet_13 : decode cX1_isMet 13 = .ok (.iaload, 1) := by decide +kernel
theorem dX1_isMet_14 : decode cX1_isMet 14 = .ok (.goto 4, 3) := by decide +kernel
theorem dX1_isMet_17 : decode cX1_isMet 17 = .ok (.iconst 0, 1) := by decide +kernel
theorem dX1_isMet_18 : decode cX1_isMet 18 = .ok (.istore_n 3, 1) := by decide +kernel
theorem dX1_isMet_19 : decode cX1_isMet 19 = .ok (.iload_n 3, 1) := by decide +kernel
theorem dX1_isMet_20 : decode cX1_isMet 20 = .ok (.istore 4, 2) := by decide +kernel
theorem dX1_isMet_22 : decode cX1_isMet 22 = .ok (.iload 4, 2) := by decide +kernel
theorem dX1_isMet_24 : decode cX1_isMet 24 = .ok (.aload_n 0, 1) := by decide +kernel
theorem dX1_isMet_25 : decode cX1_isMet 25 = .ok (.getfield 18, 3) := by decide +kernel
theorem dX1_isMet_28 : decode cX1_isMet 28 = .ok (.iload_n 1, 1) := by decide +kernel
theorem dX1_isMet_29 : decode cX1_isMet 29 = .ok (.iaload, 1) := by decide +kernel
theorem dX1_isMet_30 : decode cX1_isMet 30 = .ok (.if_icmp .ge 146, 3) := by decide +kernel
theorem dX1_isMet_33 : decode cX1_isMet 33 = .ok (.iload 4, 2) := by decide +kernel
theorem dX1_isMet_35 : decode cX1_isMet 35 = .ok (.aload_n 0, 1) := by decide +kernel
theorem dX1_isMet_36 : decode cX1_isMet 36 = .ok (.getfield 30, 3) := by decide +kernel
theorem dX1_isMet_39 : decode cX1_isMet 39 = .ok (.if_icmp .ge 137, 3) := by decide +kernel
theorem dX1_isMet_42 : decode cX1_isMet 42 = .ok (.aload_n 0, 1) := by decide +kernel
theorem dX1_isMet_43 : decode cX1_isMet 43 = .ok (.getfield 21, 3) := by decide +kernel
theorem dX1_isMet_46 : decode cX1_isMet 46 = .ok (.iload 4, 2) := by decide +kernel
theorem dX1_isMet_48 : decode cX1_isMet 48 = .ok (.iaload, 1) := by decide +kernel
theorem dX1_isMet_49 : decode cX1_isMet 49 = .ok (.istore 5, 2) := by decide +kernel
theorem dX1_isMet_51 : decode cX1_isMet 51 = .ok (.iload 5, 2) := by decide +kernel
theorem dX1_isMet_53 : decode cX1_isMet 53 = .ok (.sipush 1007, 3) := by decide +kernel
theorem dX1_isMet_56 : decode cX1_isMet 56 = .ok (.if_icmp .gt 46, 3) := by decide +kernel
theorem dX1_isMet_59 : decode cX1_isMet 59 = .ok (.iload_n 2, 1) := by decide +kernel
theorem dX1_isMet_60 : decode cX1_isMet 60 = .ok (.sipush 400, 3) := by decide +kernel
theorem dX1_isMet_63 : decode cX1_isMet 63 = .ok (.if_icmp .ge 39, 3) := by decide +kernel
theorem dX1_isMet_66 : decode cX1_isMet 66 = .ok (.aload_n 0, 1) := by decide +kernel
theorem dX1_isMet_67 : decode cX1_isMet 67 = .ok (.getfield 24, 3) := by decide +kernel
theorem dX1_isMet_70 : decode cX1_isMet 70 = .ok (.iload_n 2, 1) := by decide +kernel
theorem dX1_isMet_71 : decode cX1_isMet 71 = .ok (.iload 5, 2) := by decide +kernel
theorem dX1_isMet_73 : decode cX1_isMet 73 = .ok (.sipush 1000, 3) := by decide +kernel
theorem dX1_isMet_76 : decode cX1_isMet 76 = .ok (.if_icmp .lt 17, 3) := by decide +kernel
theorem dX1_isMet_79 : decode cX1_isMet 79 = .ok (.aload_n 0, 1) := by decide +kernel
theorem dX1_isMet_80 : decode cX1_isMet 80 = .ok (.getfield 27, 3) := by decide +kernel
theorem dX1_isMet_83 : decode cX1_isMet 83 = .ok (.iload 5, 2) := by decide +kernel
theorem dX1_isMet_85 : decode cX1_isMet 85 = .ok (.sipush 1000, 3) := by decide +kernel
theorem dX1_isMet_88 : decode cX1_isMet 88 = .ok (.isub, 1) := by decide +kernel
theorem dX1_isMet_89 : decode cX1_isMet 89 = .ok (.iaload, 1) := by decide +kernel
theorem dX1_isMet_90 : decode cX1_isMet 90 = .ok (.goto 5, 3) := by decide +kernel
theorem dX1_isMet_93 : decode cX1_isMet 93 = .ok (.iload 5, 2) := by decide +kernel
theorem dX1_isMet_95 : decode cX1_isMet 95 = .ok (.iastore, 1) := by decide +kernel
theorem dX1_isMet_96 : decode cX1_isMet 96 = .ok (.iinc 2 1, 3) := by decide +kernel
theorem dX1_isMet_99 : decode cX1_isMet 99 = .ok (.goto 71, 3) := by decide +kernel
theorem dX1_isMet_102 : decode cX1_isMet 102 = .ok (.iload 5, 2) := by decide +kernel
theorem dX1_isMet_104 : decode cX1_isMet 104 = .ok (.sipush 1008, 3) := by decide +kernel
theorem dX1_isMet_107 : decode cX1_isMet 107 = .ok (.if_icmp .ne 28, 3) := by decide +kernel
theorem dX1_isMet_110 : decode cX1_isMet 110 = .ok (.iload_n 2, 1) := by decide +kernel
theorem dX1_isMet_111 : decode cX1_isMet 111 = .ok (.ifCond .le 24, 3) := by decide +kernel
theorem dX1_isMet_114 : decode cX1_isMet 114 = .ok (.aload_n 0, 1) := by decide +kernel
theorem dX1_isMet_115 : decode cX1_isMet 115 = .ok (.getfield 24, 3) := by decide +kernel
theorem dX1_isMet_118 : decode cX1_isMet 118 = .ok (.iload_n 2, 1) := by decide +kernel
theorem dX1_isMet_119 : decode cX1_isMet 119 = .ok (.iconst 1, 1) := by decide +kernel
theorem dX1_isMet_120 : decode cX1_isMet 120 = .ok (.isub, 1) := by decide +kernel
theorem dX1_isMet_121 : decode cX1_isMet 121 = .ok (.iconst 1, 1) := by decide +kernel
theorem dX1_isMet_122 : decode cX1_isMet 122 = .ok (.aload_n 0, 1) := by decide +kernel
theorem dX1_isMet_123 : decode cX1_isMet 123 = .ok (.getfield 24, 3) := by decide +kernel
theorem dX1_isMet_126 : decode cX1_isMet 126 = .ok (.iload_n 2, 1) := by decide +kernel
theorem dX1_isMet_127 : decode cX1_isMet 127 = .ok (.iconst 1, 1) := by decide +kernel
theorem dX1_isMet_128 : decode cX1_isMet 128 = .ok (.isub, 1) := by decide +kernel
theorem dX1_isMet_129 : decode cX1_isMet 129 = .ok (.iaload, 1) := by decide +kernel
theorem dX1_isMet_130 : decode cX1_isMet 130 = .ok (.isub, 1) := by decide +kernel
theorem dX1_isMet_131 : decode cX1_isMet 131 = .ok (.iastore, 1) := by decide +kernel
theorem dX1_isMet_132 : decode cX1_isMet 132 = .ok (.goto 38, 3) := by decide +kernel
theorem dX1_isMet_135 : decode cX1_isMet 135 = .ok (.iload_n 2, 1) := by decide +kernel
theorem dX1_isMet_136 : decode cX1_isMet 136 = .ok (.iconst 1, 1) := by decide +kernel
theorem dX1_isMet_137 : decode cX1_isMet 137 = .ok (.if_icmp .le 33, 3) := by decide +kernel
theorem dX1_isMet_140 : decode cX1_isMet 140 = .ok (.iinc 2 (-1), 3) := by decide +kernel
theorem dX1_isMet_143 : decode cX1_isMet 143 = .ok (.aload_n 0, 1) := by decide +kernel
theorem dX1_isMet_144 : decode cX1_isMet 144 = .ok (.getfield 24, 3) := by decide +kernel
theorem dX1_isMet_147 : decode cX1_isMet 147 = .ok (.iload_n 2, 1) := by decide +kernel
theorem dX1_isMet_148 : decode cX1_isMet 148 = .ok (.iconst 1, 1) := by decide +kernel
theorem dX1_isMet_149 : decode cX1_isMet 149 = .ok (.isub, 1) := by decide +kernel
theorem dX1_isMet_150 : decode cX1_isMet 150 = .ok (.iload 5, 2) := by decide +kernel
theorem dX1_isMet_152 : decode cX1_isMet 152 = .ok (.aload_n 0, 1) := by decide +kernel
theorem dX1_isMet_153 : decode cX1_isMet 153 = .ok (.getfield 24, 3) := by decide +kernel
theorem dX1_isMet_156 : decode cX1_isMet 156 = .ok (.iload_n 2, 1) := by decide +kernel
theorem dX1_isMet_157 : decode cX1_isMet 157 = .ok (.iconst 1, 1) := by decide +kernel
theorem dX1_isMet_158 : decode cX1_isMet 158 = .ok (.isub, 1) := by decide +kernel
theorem dX1_isMet_159 : decode cX1_isMet 159 = .ok (.iaload, 1) := by decide +kernel
theorem dX1_isMet_160 : decode cX1_isMet 160 = .ok (.aload_n 0, 1) := by decide +kernel
theorem dX1_isMet_161 : decode cX1_isMet 161 = .ok (.getfield 24, 3) := by decide +kernel
theorem dX1_isMet_164 : decode cX1_isMet 164 = .ok (.iload_n 2, 1) := by decide +kernel
theorem dX1_isMet_165 : decode cX1_isMet 165 = .ok (.iaload, 1) := by decide +kernel
theorem dX1_isMet_166 : decode cX1_isMet 166 = .ok (.invokestatic 86, 3) := by decide +kernel
theorem dX1_isMet_169 : decode cX1_isMet 169 = .ok (.iastore, 1) := by decide +kernel
theorem dX1_isMet_170 : decode cX1_isMet 170 = .ok (.iinc 4 1, 3) := by decide +kernel
theorem dX1_isMet_173 : decode cX1_isMet 173 = .ok (.goto (-151), 3) := by decide +kernel
theorem dX1_isMet_176 : decode cX1_isMet 176 = .ok (.iload_n 2, 1) := by decide +kernel
theorem dX1_isMet_177 : decode cX1_isMet 177 = .ok (.ifCond .eq 14, 3) := by decide +kernel
theorem dX1_isMet_180 : decode cX1_isMet 180 = .ok (.aload_n 0, 1) := by decide +kernel
theorem dX1_isMet_181 : decode cX1_isMet 181 = .ok (.getfield 24, 3) := by decide +kernel
theorem dX1_isMet_184 : decode cX1_isMet 184 = .ok (.iload_n 2, 1) := by decide +kernel
theorem dX1_isMet_185 : decode cX1_isMet 185 = .ok (.iconst 1, 1) := by decide +kernel
theorem dX1_isMet_186 : decode cX1_isMet 186 = .ok (.isub, 1) := by decide +kernel
theorem dX1_isMet_187 : decode cX1_isMet 187 = .ok (.iaload, 1) := by decide +kernel
theorem dX1_isMet_188 : decode cX1_isMet 188 = .ok (.ifCond .eq 7, 3) := by decide +kernel
theorem dX1_isMet_191 : decode cX1_isMet 191 = .ok (.iconst 1, 1) := by decide +kernel
theorem dX1_isMet_192 : decode cX1_isMet 192 = .ok (.goto 4, 3) := by decide +kernel
theorem dX1_isMet_195 : decode cX1_isMet 195 = .ok (.iconst 0, 1) := by decide +kernel
theorem dX1_isMet_196 : decode cX1_isMet 196 = .ok (.ireturn, 1) := by decide +kernel
theorem dX1_join_0 : decode cX1_join 0 = .ok (.iload_n 0, 1) := by decide +kernel
theorem dX1_join_1 : decode cX1_join 1 = .ok (.lookupswitch 73 #[(1009, 69), (1143, 43), (1160, 47), (1162, 58)], 43) := by decide +kernel
theorem dX1_join_44 : decode cX1_join 44 = .ok (.iload_n 1, 1) := by decide +kernel
theorem dX1_join_45 : decode cX1_join 45 = .ok (.iload_n 2, 1) := by decide +kernel
theorem dX1_join_46 : decode cX1_join 46 = .ok (.iadd, 1) := by decide +kernel
theorem dX1_join_47 : decode cX1_join 47 = .ok (.ireturn, 1) := by decide +kernel
theorem dX1_join_48 : decode cX1_join 48 = .ok (.iload_n 1, 1) := by decide +kernel
theorem dX1_join_49 : decode cX1_join 49 = .ok (.iload_n 2, 1) := by decide +kernel
theorem dX1_join_50 : decode cX1_join 50 = .ok (.if_icmp .ge 7, 3) := by decide +kernel
theorem dX1_join_53 : decode cX1_join 53 = .ok (.iconst 1, 1) := by decide +kernel
theorem dX1_join_54 : decode cX1_join 54 = .ok (.goto 4, 3) := by decide +kernel
theorem dX1_join_57 : decode cX1_join 57 = .ok (.iconst 0, 1) := by decide +kernel
theorem dX1_join_58 : decode cX1_join 58 = .ok (.ireturn, 1) := by decide +kernel
theorem dX1_join_59 : decode cX1_join 59 = .ok (.iload_n 1, 1) := by decide +kernel
theorem dX1_join_60 : decode cX1_join 60 = .ok (.iload_n 2, 1) := by decide +kernel
theorem dX1_join_61 : decode cX1_join 61 = .ok (.if_icmp .le 7, 3) := by decide +kernel
theorem dX1_join_64 : decode cX1_join 64 = .ok (.iconst 1, 1) := by decide +kernel
theorem dX1_join_65 : decode cX1_join 65 = .ok (.goto 4, 3) := by decide +kernel
theorem dX1_join_68 : decode cX1_join 68 = .ok (.iconst 0, 1) := by decide +kernel
theorem dX1_join_69 : decode cX1_join 69 = .ok (.ireturn, 1) := by decide +kernel
theorem dX1_join_70 : decode cX1_join 70 = .ok (.iload_n 1, 1) := by decide +kernel
theorem dX1_join_71 : decode cX1_join 71 = .ok (.iload_n 2, 1) := by decide +kernel
theorem dX1_join_72 : decode cX1_join 72 = .ok (.iand, 1) := by decide +kernel
theorem dX1_join_73 : decode cX1_join 73 = .ok (.ireturn, 1) := by decide +kernel
theorem dX1_join_74 : decode cX1_join 74 = .ok (.iload_n 1, 1) := by decide +kernel
theorem dX1_join_75 : decode cX1_join 75 = .ok (.iload_n 2, 1) := by decide +kernel
theorem dX1_join_76 : decode cX1_join 76 = .ok (.ior, 1) := by decide +kernel
theorem dX1_join_77 : decode cX1_join 77 = .ok (.ireturn, 1) := by decide +kernel
theorem dX2_init_0 : decode cX2_init 0 = .ok (.aload_n 0, 1) := by decide +kernel
theorem dX2_init_1 : decode cX2_init 1 = .ok (.invokespecial 3, 3) := by decide +kernel
theorem dX2_init_4 : decode cX2_init 4 = .ok (.aload_n 0, 1) := by decide +kernel
theorem dX2_init_5 : decode cX2_init 5 = .ok (.new 9, 3) := by decide +kernel
theorem dX2_init_8 : decode cX2_init 8 = .ok (.dup, 1) := by decide +kernel
theorem dX2_init_9 : decode cX2_init 9 = .ok (.invokespecial 11, 3) := by decide +kernel
theorem dX2_init_12 : decode cX2_init 12 = .ok (.putfield 12, 3) := by decide +kernel
theorem dX2_init_15 : decode cX2_init 15 = .ok (.return_, 1) := by decide +kernel
theorem dX2_readLine_0 : decode cX2_readLine 0 = .ok (.aload_n 0, 1) := by decide +kernel
theorem dX2_readLine_1 : decode cX2_readLine 1 = .ok (.getfield 18, 3) := by decide +kernel
theorem dX2_readLine_4 : decode cX2_readLine 4 = .ok (.invokevirtual 22, 3) := by decide +kernel
theorem dX2_readLine_7 : decode cX2_readLine 7 = .ok (.istore_n 1, 1) := by decide +kernel
theorem dX2_readLine_8 : decode cX2_readLine 8 = .ok (.iload_n 1, 1) := by decide +kernel
theorem dX2_readLine_9 : decode cX2_readLine 9 = .ok (.iconst (-1), 1) := by decide +kernel
theorem dX2_readLine_10 : decode cX2_readLine 10 = .ok (.if_icmp .eq 16, 3) := by decide +kernel
theorem dX2_readLine_13 : decode cX2_readLine 13 = .ok (.aload_n 0, 1) := by decide +kernel
theorem dX2_readLine_14 : decode cX2_readLine 14 = .ok (.getfield 18, 3) := by decide +kernel
theorem dX2_readLine_17 : decode cX2_readLine 17 = .ok (.sipush 1011, 3) := by decide +kernel
theorem dX2_readLine_20 : decode cX2_readLine 20 = .ok (.invokevirtual 28, 3) := by decide +kernel
theorem dX2_readLine_23 : decode cX2_readLine 23 = .ok (.ifCond .ne 5, 3) := by decide +kernel
theorem dX2_readLine_26 : decode cX2_readLine 26 = .ok (.iconst 0, 1) := by decide +kernel
theorem dX2_readLine_27 : decode cX2_readLine 27 = .ok (.ireturn, 1) := by decide +kernel
theorem dX2_readLine_28 : decode cX2_readLine 28 = .ok (.aload_n 0, 1) := by decide +kernel
theorem dX2_readLine_29 : decode cX2_readLine 29 = .ok (.getfield 18, 3) := by decide +kernel
theorem dX2_readLine_32 : decode cX2_readLine 32 = .ok (.invokevirtual 22, 3) := by decide +kernel
theorem dX2_readLine_35 : decode cX2_readLine 35 = .ok (.istore_n 2, 1) := by decide +kernel
theorem dX2_readLine_36 : decode cX2_readLine 36 = .ok (.iload_n 2, 1) := by decide +kernel
theorem dX2_readLine_37 : decode cX2_readLine 37 = .ok (.iconst (-1), 1) := by decide +kernel
theorem dX2_readLine_38 : decode cX2_readLine 38 = .ok (.if_icmp .ne 5, 3) := by decide +kernel
theorem dX2_readLine_41 : decode cX2_readLine 41 = .ok (.iconst 0, 1) := by decide +kernel
theorem dX2_readLine_42 : decode cX2_readLine 42 = .ok (.ireturn, 1) := by decide +kernel
theorem dX2_readLine_43 : decode cX2_readLine 43 = .ok (.aload_n 0, 1) := by decide +kernel
theorem dX2_readLine_44 : decode cX2_readLine 44 = .ok (.getfield 18, 3) := by decide +kernel
theorem dX2_readLine_47 : decode cX2_readLine 47 = .ok (.invokevirtual 32, 3) := by decide +kernel
theorem dX2_readLine_50 : decode cX2_readLine 50 = .ok (.sipush 1012, 3) := by decide +kernel
theorem dX2_readLine_53 : decode cX2_readLine 53 = .ok (.if_icmp .ne 20, 3) := by decide +kernel
theorem dX2_readLine_56 : decode cX2_readLine 56 = .ok (.aload_n 0, 1) := by decide +kernel
theorem dX2_readLine_57 : decode cX2_readLine 57 = .ok (.getfield 18, 3) := by decide +kernel
theorem dX2_readLine_60 : decode cX2_readLine 60 = .ok (.invokevirtual 35, 3) := by decide +kernel
theorem dX2_readLine_63 : decode cX2_readLine 63 = .ok (.aload_n 0, 1) := by decide +kernel
theorem dX2_readLine_64 : decode cX2_readLine 64 = .ok (.iconst 0, 1) := by decide +kernel
theorem dX2_readLine_65 : decode cX2_readLine 65 = .ok (.invokevirtual 38, 3) := by decide +kernel
theorem dX2_readLine_68 : decode cX2_readLine 68 = .ok (.ifCond .ne 5, 3) := by decide +kernel
theorem dX2_readLine_71 : decode cX2_readLine 71 = .ok (.iconst 0, 1) := by decide +kernel
theorem dX2_readLine_72 : decode cX2_readLine 72 = .ok (.ireturn, 1) := by decide +kernel
theorem dX2_readLine_73 : decode cX2_readLine 73 = .ok (.aload_n 0, 1) := by decide +kernel
theorem dX2_readLine_74 : decode cX2_readLine 74 = .ok (.getfield 12, 3) := by decide +kernel
theorem dX2_readLine_77 : decode cX2_readLine 77 = .ok (.iload_n 1, 1) := by decide +kernel
theorem dX2_readLine_78 : decode cX2_readLine 78 = .ok (.iload_n 2, 1) := by decide +kernel
theorem dX2_readLine_79 : decode cX2_readLine 79 = .ok (.invokevirtual 41, 3) := by decide +kernel
theorem dX2_readLine_82 : decode cX2_readLine 82 = .ok (.iconst 1, 1) := by decide +kernel
theorem dX2_readLine_83 : decode cX2_readLine 83 = .ok (.ireturn, 1) := by decide +kernel
theorem dX2_readEither_0 : decode cX2_readEither 0 = .ok (.iconst 0, 1) := by decide +kernel
theorem dX2_readEither_1 : decode cX2_readEither 1 = .ok (.istore_n 2, 1) := by decide +kernel
theorem dX2_readEither_2 : decode cX2_readEither 2 = .ok (.iload_n 2, 1) := by decide +kernel
theorem dX2_readEither_3 : decode cX2_readEither 3 = .ok (.sipush 400, 3) := by decide +kernel
theorem dX2_readEither_6 : decode cX2_readEither 6 = .ok (.if_icmp .ge 55, 3) := by decide +kernel
theorem dX2_readEither_9 : decode cX2_readEither 9 = .ok (.aload_n 0, 1) := by decide +kernel
theorem dX2_readEither_10 : decode cX2_readEither 10 = .ok (.iload_n 1, 1) := by decide +kernel
theorem dX2_readEither_11 : decode cX2_readEither 11 = .ok (.invokevirtual 45, 3) := by decide +kernel
theorem dX2_readEither_14 : decode cX2_readEither 14 = .ok (.ifCond .ne 5, 3) := by decide +kernel
theorem dX2_readEither_17 : decode cX2_readEither 17 = .ok (.iconst 0, 1) := by decide +kernel
theorem dX2_readEither_18 : decode cX2_readEither 18 = .ok (.ireturn, 1) := by decide +kernel
theorem dX2_readEither_19 : decode cX2_readEither 19 = .ok (.iload_n 2, 1) := by decide +kernel
theorem dX2_readEither_20 : decode cX2_readEither 20 = .ok (.ifCond .le 13, 3) := by decide +kernel
theorem dX2_readEither_23 : decode cX2_readEither 23 = .ok (.aload_n 0, 1) := by decide +kernel
theorem dX2_readEither_24 : decode cX2_readEither 24 = .ok (.getfield 12, 3) := by decide +kernel
theorem dX2_readEither_27 : decode cX2_readEither 27 = .ok (.sipush 1010, 3) := by decide +kernel
theorem dX2_readEither_30 : decode cX2_readEither 30 = .ok (.invokevirtual 48, 3) := by decide +kernel
theorem dX2_readEither_33 : decode cX2_readEither 33 = .ok (.aload_n 0, 1) := by decide +kernel
theorem dX2_readEither_34 : decode cX2_readEither 34 = .ok (.getfield 18, 3) := by decide +kernel
theorem dX2_readEither_37 : decode cX2_readEither 37 = .ok (.invokevirtual 32, 3) := by decide +kernel
theorem dX2_readEither_40 : decode cX2_readEither 40 = .ok (.sipush 1010, 3) := by decide +kernel
theorem dX2_readEither_43 : decode cX2_readEither 43 = .ok (.if_icmp .eq 5, 3) := by decide +kernel
theorem dX2_readEither_46 : decode cX2_readEither 46 = .ok (.iconst 1, 1) := by decide +kernel
theorem dX2_readEither_47 : decode cX2_readEither 47 = .ok (.ireturn, 1) := by decide +kernel
theorem dX2_readEither_48 : decode cX2_readEither 48 = .ok (.aload_n 0, 1) := by decide +kernel
theorem dX2_readEither_49 : decode cX2_readEither 49 = .ok (.getfield 18, 3) := by decide +kernel
theorem dX2_readEither_52 : decode cX2_readEither 52 = .ok (.invokevirtual 35, 3) := by decide +kernel
theorem dX2_readEither_55 : decode cX2_readEither 55 = .ok (.iinc 2 1, 3) := by decide +kernel
theorem dX2_readEither_58 : decode cX2_readEither 58 = .ok (.goto (-56), 3) := by decide +kernel
theorem dX2_readEither_61 : decode cX2_readEither 61 = .ok (.aload_n 0, 1) := by decide +kernel
theorem dX2_readEither_62 : decode cX2_readEither 62 = .ok (.getfield 18, 3) := by decide +kernel
theorem dX2_readEither_65 : decode cX2_readEither 65 = .ok (.invokevirtual 52, 3) := by decide +kernel
theorem dX2_readEither_68 : decode cX2_readEither 68 = .ok (.ireturn, 1) := by decide +kernel
theorem dX2_readAll_0 : decode cX2_readAll 0 = .ok (.iconst 0, 1) := by decide +kernel
theorem dX2_readAll_1 : decode cX2_readAll 1 = .ok (.istore_n 2, 1) := by decide +kernel
theorem dX2_readAll_2 : decode cX2_readAll 2 = .ok (.iload_n 2, 1) := by decide +kernel
theorem dX2_readAll_3 : decode cX2_readAll 3 = .ok (.sipush 400, 3) := by decide +kernel
theorem dX2_readAll_6 : decode cX2_readAll 6 = .ok (.if_icmp .ge 55, 3) := by decide +kernel
theorem dX2_readAll_9 : decode cX2_readAll 9 = .ok (.aload_n 0, 1) := by decide +kernel
theorem dX2_readAll_10 : decode cX2_readAll 10 = .ok (.iload_n 1, 1) := by decide +kernel
theorem dX2_readAll_11 : decode cX2_readAll 11 = .ok (.invokevirtual 56, 3) := by decide +kernel
theorem dX2_readAll_14 : decode cX2_readAll 14 = .ok (.ifCond .ne 5, 3) := by decide +kernel
theorem dX2_readAll_17 : decode cX2_readAll 17 = .ok (.iconst 0, 1) := by decide +kernel
theorem dX2_readAll_18 : decode cX2_readAll 18 = .ok (.ireturn, 1) := by decide +kernel
theorem dX2_readAll_19 : decode cX2_readAll 19 = .ok (.iload_n 2, 1) := by decide +kernel
theorem dX2_readAll_20 : decode cX2_readAll 20 = .ok (.ifCond .le 13, 3) := by decide +kernel
theorem dX2_readAll_23 : decode cX2_readAll 23 = .ok (.aload_n 0, 1) := by decide +kernel
theorem dX2_readAll_24 : decode cX2_readAll 24 = .ok (.getfield 12, 3) := by decide +kernel
theorem dX2_readAll_27 : decode cX2_readAll 27 = .ok (.sipush 1009, 3) := by decide +kernel
theorem dX2_readAll_30 : decode cX2_readAll 30 = .ok (.invokevirtual 48, 3) := by decide +kernel
theorem dX2_readAll_33 : decode cX2_readAll 33 = .ok (.aload_n 0, 1) := by decide +kernel
theorem dX2_readAll_34 : decode cX2_readAll 34 = .ok (.getfield 18, 3) := by decide +kernel
theorem dX2_readAll_37 : decode cX2_readAll 37 = .ok (.invokevirtual 32, 3) := by decide +kernel
theorem dX2_readAll_40 : decode cX2_readAll 40 = .ok (.sipush 1009, 3) := by decide +kernel
theorem dX2_readAll_43 : decode cX2_readAll 43 = .ok (.if_icmp .eq 5, 3) := by decide +kernel
theorem dX2_readAll_46 : decode cX2_readAll 46 = .ok (.iconst 1, 1) := by decide +kernel
theorem dX2_readAll_47 : decode cX2_readAll 47 = .ok (.ireturn, 1) := by decide +kernel
theorem dX2_readAll_48 : decode cX2_readAll 48 = .ok (.aload_n 0, 1) := by decide +kernel
theorem dX2_readAll_49 : decode cX2_readAll 49 = .ok (.getfield 18, 3) := by decide +kernel
theorem dX2_readAll_52 : decode cX2_readAll 52 = .ok (.invokevirtual 35, 3) := by decide +kernel
theorem dX2_readAll_55 : decode cX2_readAll 55 = .ok (.iinc 2 1, 3) := by decide +kernel
theorem dX2_readAll_58 : decode cX2_readAll 58 = .ok (.goto (-56), 3) := by decide +kernel
theorem dX2_readAll_61 : decode cX2_readAll 61 = .ok (.aload_n 0, 1) := by decide +kernel
theorem dX2_readAll_62 : decode cX2_readAll 62 = .ok (.getfield 18, 3) := by decide +kernel
theorem dX2_readAll_65 : decode cX2_readAll 65 = .ok (.invokevirtual 52, 3) := by decide +kernel
theorem dX2_readAll_68 : decode cX2_readAll 68 = .ok (.ireturn, 1) := by decide +kernel
theorem dX2_readAtom_0 : decode cX2_readAtom 0 = .ok (.aload_n 0, 1) := by decide +kernel
theorem dX2_readAtom_1 : decode cX2_readAtom 1 = .ok (.getfield 18, 3) := by decide +kernel
theorem dX2_readAtom_4 : decode cX2_readAtom 4 = .ok (.invokevirtual 32, 3) := by decide +kernel
theorem dX2_readAtom_7 : decode cX2_readAtom 7 = .ok (.istore_n 2, 1) := by decide +kernel
theorem dX2_readAtom_8 : decode cX2_readAtom 8 = .ok (.iload_n 2, 1) := by decide +kernel
theorem dX2_readAtom_9 : decode cX2_readAtom 9 = .ok (.sipush 1008, 3) := by decide +kernel
theorem dX2_readAtom_12 : decode cX2_readAtom 12 = .ok (.if_icmp .eq 10, 3) := by decide +kernel
theorem dX2_readAtom_15 : decode cX2_readAtom 15 = .ok (.iload_n 2, 1) := by decide +kernel
theorem dX2_readAtom_16 : decode cX2_readAtom 16 = .ok (.sipush 1140, 3) := by decide +kernel
theorem dX2_readAtom_19 : decode cX2_readAtom 19 = .ok (.if_icmp .ne 28, 3) := by decide +kernel
theorem dX2_readAtom_22 : decode cX2_readAtom 22 = .ok (.iload_n 1, 1) := by decide +kernel
theorem dX2_readAtom_23 : decode cX2_readAtom 23 = .ok (.bipush 6, 2) := by decide +kernel
theorem dX2_readAtom_25 : decode cX2_readAtom 25 = .ok (.if_icmp .ge 14, 3) := by decide +kernel
theorem dX2_readAtom_28 : decode cX2_readAtom 28 = .ok (.aload_n 0, 1) := by decide +kernel
theorem dX2_readAtom_29 : decode cX2_readAtom 29 = .ok (.iload_n 2, 1) := by decide +kernel
theorem dX2_readAtom_30 : decode cX2_readAtom 30 = .ok (.iload_n 1, 1) := by decide +kernel
theorem dX2_readAtom_31 : decode cX2_readAtom 31 = .ok (.iconst 1, 1) := by decide +kernel
theorem dX2_readAtom_32 : decode cX2_readAtom 32 = .ok (.iadd, 1) := by decide +kernel
theorem dX2_readAtom_33 : decode cX2_readAtom 33 = .ok (.invokevirtual 59, 3) := by decide +kernel
theorem dX2_readAtom_36 : decode cX2_readAtom 36 = .ok (.goto 10, 3) := by decide +kernel
theorem dX2_readAtom_39 : decode cX2_readAtom 39 = .ok (.aload_n 0, 1) := by decide +kernel
theorem dX2_readAtom_40 : decode cX2_readAtom 40 = .ok (.getfield 18, 3) := by decide +kernel
theorem dX2_readAtom_43 : decode cX2_readAtom 43 = .ok (.invokevirtual 52, 3) := by decide +kernel
theorem dX2_readAtom_46 : decode cX2_readAtom 46 = .ok (.ireturn, 1) := by decide +kernel
theorem dX2_readAtom_47 : decode cX2_readAtom 47 = .ok (.iload_n 2, 1) := by decide +kernel
theorem dX2_readAtom_48 : decode cX2_readAtom 48 = .ok (.sipush 1000, 3) := by decide +kernel
theorem dX2_readAtom_51 : decode cX2_readAtom 51 = .ok (.if_icmp .eq 10, 3) := by decide +kernel
theorem dX2_readAtom_54 : decode cX2_readAtom 54 = .ok (.iload_n 2, 1) := by decide +kernel
theorem dX2_readAtom_55 : decode cX2_readAtom 55 = .ok (.sipush 1001, 3) := by decide +kernel
theorem dX2_readAtom_58 : decode cX2_readAtom 58 = .ok (.if_icmp .ne 20, 3) := by decide +kernel
theorem dX2_readAtom_61 : decode cX2_readAtom 61 = .ok (.aload_n 0, 1) := by decide +kernel
theorem dX2_readAtom_62 : decode cX2_readAtom 62 = .ok (.getfield 12, 3) := by decide +kernel
theorem dX2_readAtom_65 : decode cX2_readAtom 65 = .ok (.iload_n 2, 1) := by decide +kernel
theorem dX2_readAtom_66 : decode cX2_readAtom 66 = .ok (.invokevirtual 48, 3) := by decide +kernel
theorem dX2_readAtom_69 : decode cX2_readAtom 69 = .ok (.aload_n 0, 1) := by decide +kernel
theorem dX2_readAtom_70 : decode cX2_readAtom 70 = .ok (.getfield 18, 3) := by decide +kernel
theorem dX2_readAtom_73 : decode cX2_readAtom 73 = .ok (.invokevirtual 35, 3) := by decide +kernel
theorem dX2_readAtom_76 : decode cX2_readAtom 76 = .ok (.iconst 1, 1) := by decide +kernel
theorem dX2_readAtom_77 : decode cX2_readAtom 77 = .ok (.ireturn, 1) := by decide +kernel
theorem dX2_readAtom_78 : decode cX2_readAtom 78 = .ok (.aload_n 0, 1) := by decide +kernel
theorem dX2_readAtom_79 : decode cX2_readAtom 79 = .ok (.invokevirtual 63, 3) := by decide +kernel
theorem dX2_readAtom_82 : decode cX2_readAtom 82 = .ok (.ifCond .ne 5, 3) := by decide +kernel
theorem dX2_readAtom_85 : decode cX2_readAtom 85 = .ok (.iconst 0, 1) := by decide +kernel
theorem dX2_readAtom_86 : decode cX2_readAtom 86 = .ok (.ireturn, 1) := by decide +kernel
theorem dX2_readAtom_87 : decode cX2_readAtom 87 = .ok (.aload_n 0, 1) := by decide +kernel
theorem dX2_readAtom_88 : decode cX2_readAtom 88 = .ok (.getfield 18, 3) := by decide +kernel
theorem dX2_readAtom_91 : decode cX2_readAtom 91 = .ok (.invokevirtual 32, 3) := by decide +kernel
theorem dX2_readAtom_94 : decode cX2_readAtom 94 = .ok (.istore_n 3, 1) := by decide +kernel
theorem dX2_readAtom_95 : decode cX2_readAtom 95 = .ok (.iload_n 3, 1) := by decide +kernel
theorem dX2_readAtom_96 : decode cX2_readAtom 96 = .ok (.sipush 1160, 3) := by decide +kernel
theorem dX2_readAtom_99 : decode cX2_readAtom 99 = .ok (.if_icmp .eq 18, 3) := by decide +kernel
theorem dX2_readAtom_102 : decode cX2_readAtom 102 = .ok (.iload_n 3, 1) := by decide +kernel
theorem dX2_readAtom_103 : decode cX2_readAtom 103 = .ok (.sipush 1162, 3) := by decide +kernel
theorem dX2_readAtom_106 : decode cX2_readAtom 106 = .ok (.if_icmp .eq 11, 3) := by decide +kernel
theorem dX2_readAtom_109 : decode cX2_readAtom 109 = .ok (.aload_n 0, 1) := by decide +kernel
theorem dX2_readAtom_110 : decode cX2_readAtom 110 = .ok (.getfield 18, 3) := by decide +kernel
theorem dX2_readAtom_113 : decode cX2_readAtom 113 = .ok (.invokevirtual 52, 3) := by decide +kernel
theorem dX2_readAtom_116 : decode cX2_readAtom 116 = .ok (.ireturn, 1) := by decide +kernel
theorem dX2_readAtom_117 : decode cX2_readAtom 117 = .ok (.aload_n 0, 1) := by decide +kernel
theorem dX2_readAtom_118 : decode cX2_readAtom 118 = .ok (.getfield 18, 3) := by decide +kernel
theorem dX2_readAtom_121 : decode cX2_readAtom 121 = .ok (.invokevirtual 35, 3) := by decide +kernel
theorem dX2_readAtom_124 : decode cX2_readAtom 124 = .ok (.aload_n 0, 1) := by decide +kernel
theorem dX2_readAtom_125 : decode cX2_readAtom 125 = .ok (.invokevirtual 63, 3) := by decide +kernel
theorem dX2_readAtom_128 : decode cX2_readAtom 128 = .ok (.ifCond .ne 5, 3) := by decide +kernel
theorem dX2_readAtom_131 : decode cX2_readAtom 131 = .ok (.iconst 0, 1) := by decide +kernel
theorem dX2_readAtom_132 : decode cX2_readAtom 132 = .ok (.ireturn, 1) := by decide +kernel
theorem dX2_readAtom_133 : decode cX2_readAtom 133 = .ok (.aload_n 0, 1) := by decide +kernel
theorem dX2_readAtom_134 : decode cX2_readAtom 134 = .ok (.getfield 12, 3) := by decide +kernel
theorem dX2_readAtom_137 : decode cX2_readAtom 137 = .ok (.iload_n 3, 1) := by decide +kernel
theorem dX2_readAtom_138 : decode cX2_readAtom 138 = .ok (.invokevirtual 48, 3) := by decide +kernel
theorem dX2_readAtom_141 : decode cX2_readAtom 141 = .ok (.iconst 1, 1) := by decide +kernel
theorem dX2_readAtom_142 : decode cX2_readAtom 142 = .ok (.ireturn, 1) := by decide +kernel
theorem dX2_readInner_0 : decode cX2_readInner 0 = .ok (.aload_n 0, 1) := by decide +kernel
theorem dX2_readInner_1 : decode cX2_readInner 1 = .ok (.getfield 18, 3) := by decide +kernel
theorem dX2_readInner_4 : decode cX2_readInner 4 = .ok (.invokevirtual 35, 3) := by decide +kernel
theorem dX2_readInner_7 : decode cX2_readInner 7 = .ok (.iload_n 1, 1) := by decide +kernel
theorem dX2_readInner_8 : decode cX2_readInner 8 = .ok (.sipush 1140, 3) := by decide +kernel
theorem dX2_readInner_11 : decode cX2_readInner 11 = .ok (.if_icmp .ne 30, 3) := by decide +kernel
theorem dX2_readInner_14 : decode cX2_readInner 14 = .ok (.aload_n 0, 1) := by decide +kernel
theorem dX2_readInner_15 : decode cX2_readInner 15 = .ok (.iload_n 2, 1) := by decide +kernel
theorem dX2_readInner_16 : decode cX2_readInner 16 = .ok (.invokevirtual 38, 3) := by decide +kernel
theorem dX2_readInner_19 : decode cX2_readInner 19 = .ok (.ifCond .eq 20, 3) := by decide +kernel
theorem dX2_readInner_22 : decode cX2_readInner 22 = .ok (.aload_n 0, 1) := by decide +kernel
theorem dX2_readInner_23 : decode cX2_readInner 23 = .ok (.getfield 18, 3) := by decide +kernel
theorem dX2_readInner_26 : decode cX2_readInner 26 = .ok (.sipush 1141, 3) := by decide +kernel
theorem dX2_readInner_29 : decode cX2_readInner 29 = .ok (.invokevirtual 28, 3) := by decide +kernel
theorem dX2_readInner_32 : decode cX2_readInner 32 = .ok (.ifCond .eq 7, 3) := by decide +kernel
theorem dX2_readInner_35 : decode cX2_readInner 35 = .ok (.iconst 1, 1) := by decide +kernel
theorem dX2_readInner_36 : decode cX2_readInner 36 = .ok (.goto 4, 3) := by decide +kernel
theorem dX2_readInner_39 : decode cX2_readInner 39 = .ok (.iconst 0, 1) := by decide +kernel
theorem dX2_readInner_40 : decode cX2_readInner 40 = .ok (.ireturn, 1) := by decide +kernel
theorem dX2_readInner_41 : decode cX2_readInner 41 = .ok (.aload_n 0, 1) := by decide +kernel
theorem dX2_readInner_42 : decode cX2_readInner 42 = .ok (.iload_n 2, 1) := by decide +kernel
theorem dX2_readInner_43 : decode cX2_readInner 43 = .ok (.invokevirtual 56, 3) := by decide +kernel
theorem dX2_readInner_46 : decode cX2_readInner 46 = .ok (.ifCond .ne 5, 3) := by decide +kernel
theorem dX2_readInner_49 : decode cX2_readInner 49 = .ok (.iconst 0, 1) := by decide +kernel
theorem dX2_readInner_50 : decode cX2_readInner 50 = .ok (.ireturn, 1) := by decide +kernel
theorem dX2_readInner_51 : decode cX2_readInner 51 = .ok (.aload_n 0, 1) := by decide +kernel
theorem dX2_readInner_52 : decode cX2_readInner 52 = .ok (.getfield 12, 3) := by decide +kernel
theorem dX2_readInner_55 : decode cX2_readInner 55 = .ok (.sipush 1008, 3) := by decide +kernel
theorem dX2_readInner_58 : decode cX2_readInner 58 = .ok (.invokevirtual 48, 3) := by decide +kernel
theorem dX2_readInner_61 : decode cX2_readInner 61 = .ok (.iconst 1, 1) := by decide +kernel
theorem dX2_readInner_62 : decode cX2_readInner 62 = .ok (.ireturn, 1) := by decide +kernel
theorem dX2_readSum_0 : decode cX2_readSum 0 = .ok (.iconst 0, 1) := by decide +kernel
theorem dX2_readSum_1 : decode cX2_readSum 1 = .ok (.istore_n 1, 1) := by decide +kernel
theorem dX2_readSum_2 : decode cX2_readSum 2 = .ok (.iload_n 1, 1) := by decide +kernel
theorem dX2_readSum_3 : decode cX2_readSum 3 = .ok (.sipush 400, 3) := by decide +kernel
theorem dX2_readSum_6 : decode cX2_readSum 6 = .ok (.if_icmp .ge 97, 3) := by decide +kernel
theorem dX2_readSum_9 : decode cX2_readSum 9 = .ok (.aload_n 0, 1) := by decide +kernel
theorem dX2_readSum_10 : decode cX2_readSum 10 = .ok (.getfield 18, 3) := by decide +kernel
theorem dX2_readSum_13 : decode cX2_readSum 13 = .ok (.invokevirtual 32, 3) := by decide +kernel
theorem dX2_readSum_16 : decode cX2_readSum 16 = .ok (.istore_n 2, 1) := by decide +kernel
theorem dX2_readSum_17 : decode cX2_readSum 17 = .ok (.iload_n 2, 1) := by decide +kernel
theorem dX2_readSum_18 : decode cX2_readSum 18 = .ok (.sipush 999, 3) := by decide +kernel
theorem dX2_readSum_21 : decode cX2_readSum 21 = .ok (.if_icmp .le 10, 3) := by decide +kernel
theorem dX2_readSum_24 : decode cX2_readSum 24 = .ok (.iload_n 2, 1) := by decide +kernel
theorem dX2_readSum_25 : decode cX2_readSum 25 = .ok (.sipush 1002, 3) := by decide +kernel
theorem dX2_readSum_28 : decode cX2_readSum 28 = .ok (.if_icmp .lt 10, 3) := by decide +kernel
theorem dX2_readSum_31 : decode cX2_readSum 31 = .ok (.iload_n 2, 1) := by decide +kernel
theorem dX2_readSum_32 : decode cX2_readSum 32 = .ok (.sipush 1007, 3) := by decide +kernel
theorem dX2_readSum_35 : decode cX2_readSum 35 = .ok (.if_icmp .le 11, 3) := by decide +kernel
theorem dX2_readSum_38 : decode cX2_readSum 38 = .ok (.aload_n 0, 1) := by decide +kernel
theorem dX2_readSum_39 : decode cX2_readSum 39 = .ok (.getfield 18, 3) := by decide +kernel
theorem dX2_readSum_42 : decode cX2_readSum 42 = .ok (.invokevirtual 52, 3) := by decide +kernel
theorem dX2_readSum_45 : decode cX2_readSum 45 = .ok (.ireturn, 1) := by decide +kernel
theorem dX2_readSum_46 : decode cX2_readSum 46 = .ok (.aload_n 0, 1) := by decide +kernel
theorem dX2_readSum_47 : decode cX2_readSum 47 = .ok (.getfield 12, 3) := by decide +kernel
theorem dX2_readSum_50 : decode cX2_readSum 50 = .ok (.iload_n 2, 1) := by decide +kernel
theorem dX2_readSum_51 : decode cX2_readSum 51 = .ok (.invokevirtual 48, 3) := by decide +kernel
theorem dX2_readSum_54 : decode cX2_readSum 54 = .ok (.iload_n 1, 1) := by decide +kernel
theorem dX2_readSum_55 : decode cX2_readSum 55 = .ok (.ifCond .le 13, 3) := by decide +kernel
theorem dX2_readSum_58 : decode cX2_readSum 58 = .ok (.aload_n 0, 1) := by decide +kernel
theorem dX2_readSum_59 : decode cX2_readSum 59 = .ok (.getfield 12, 3) := by decide +kernel
theorem dX2_readSum_62 : decode cX2_readSum 62 = .ok (.sipush 1143, 3) := by decide +kernel
theorem dX2_readSum_65 : decode cX2_readSum 65 = .ok (.invokevirtual 48, 3) := by decide +kernel
theorem dX2_readSum_68 : decode cX2_readSum 68 = .ok (.aload_n 0, 1) := by decide +kernel
theorem dX2_readSum_69 : decode cX2_readSum 69 = .ok (.getfield 18, 3) := by decide +kernel
theorem dX2_readSum_72 : decode cX2_readSum 72 = .ok (.invokevirtual 35, 3) := by decide +kernel
theorem dX2_readSum_75 : decode cX2_readSum 75 = .ok (.aload_n 0, 1) := by decide +kernel
theorem dX2_readSum_76 : decode cX2_readSum 76 = .ok (.getfield 18, 3) := by decide +kernel
theorem dX2_readSum_79 : decode cX2_readSum 79 = .ok (.invokevirtual 32, 3) := by decide +kernel
theorem dX2_readSum_82 : decode cX2_readSum 82 = .ok (.sipush 1143, 3) := by decide +kernel
theorem dX2_readSum_85 : decode cX2_readSum 85 = .ok (.if_icmp .eq 5, 3) := by decide +kernel
theorem dX2_readSum_88 : decode cX2_readSum 88 = .ok (.iconst 1, 1) := by decide +kernel
theorem dX2_readSum_89 : decode cX2_readSum 89 = .ok (.ireturn, 1) := by decide +kernel
theorem dX2_readSum_90 : decode cX2_readSum 90 = .ok (.aload_n 0, 1) := by decide +kernel
theorem dX2_readSum_91 : decode cX2_readSum 91 = .ok (.getfield 18, 3) := by decide +kernel
theorem dX2_readSum_94 : decode cX2_readSum 94 = .ok (.invokevirtual 35, 3) := by decide +kernel
theorem dX2_readSum_97 : decode cX2_readSum 97 = .ok (.iinc 1 1, 3) := by decide +kernel
theorem dX2_readSum_100 : decode cX2_readSum 100 = .ok (.goto (-98), 3) := by decide +kernel
theorem dX2_readSum_103 : decode cX2_readSum 103 = .ok (.aload_n 0, 1) := by decide +kernel
theorem dX2_readSum_104 : decode cX2_readSum 104 = .ok (.getfield 18, 3) := by decide +kernel
theorem dX2_readSum_107 : decode cX2_readSum 107 = .ok (.invokevirtual 52, 3) := by decide +kernel
theorem dX2_readSum_110 : decode cX2_readSum 110 = .ok (.ireturn, 1) := by decide +kernel
theorem dX3_init_0 : decode cX3_init 0 = .ok (.aload_n 0, 1) := by decide +kernel
theorem dX3_init_1 : decode cX3_init 1 = .ok (.invokespecial 3, 3) := by decide +kernel
theorem dX3_init_4 : decode cX3_init 4 = .ok (.aload_n 0, 1) := by decide +kernel
theorem dX3_init_5 : decode cX3_init 5 = .ok (.bipush 24, 2) := by decide +kernel
theorem dX3_init_7 : decode cX3_init 7 = .ok (.newarray .int, 2) := by decide +kernel
theorem dX3_init_9 : decode cX3_init 9 = .ok (.putfield 9, 3) := by decide +kernel
theorem dX3_init_12 : decode cX3_init 12 = .ok (.aload_n 0, 1) := by decide +kernel
theorem dX3_init_13 : decode cX3_init 13 = .ok (.bipush 24, 2) := by decide +kernel
theorem dX3_init_15 : decode cX3_init 15 = .ok (.newarray .int, 2) := by decide +kernel
theorem dX3_init_17 : decode cX3_init 17 = .ok (.putfield 15, 3) := by decide +kernel
theorem dX3_init_20 : decode cX3_init 20 = .ok (.return_, 1) := by decide +kernel
theorem dX3_become_0 : decode cX3_become 0 = .ok (.aload_n 1, 1) := by decide +kernel
theorem dX3_become_1 : decode cX3_become 1 = .ok (.getfield 9, 3) := by decide +kernel
theorem dX3_become_4 : decode cX3_become 4 = .ok (.iconst 0, 1) := by decide +kernel
theorem dX3_become_5 : decode cX3_become 5 = .ok (.aload_n 0, 1) := by decide +kernel
theorem dX3_become_6 : decode cX3_become 6 = .ok (.getfield 9, 3) := by decide +kernel
theorem dX3_become_9 : decode cX3_become 9 = .ok (.iconst 0, 1) := by decide +kernel
theorem dX3_become_10 : decode cX3_become 10 = .ok (.bipush 24, 2) := by decide +kernel
theorem dX3_become_12 : decode cX3_become 12 = .ok (.invokestatic 18, 3) := by decide +kernel
theorem dX3_become_15 : decode cX3_become 15 = .ok (.aload_n 1, 1) := by decide +kernel
theorem dX3_become_16 : decode cX3_become 16 = .ok (.getfield 15, 3) := by decide +kernel
theorem dX3_become_19 : decode cX3_become 19 = .ok (.iconst 0, 1) := by decide +kernel
theorem dX3_become_20 : decode cX3_become 20 = .ok (.aload_n 0, 1) := by decide +kernel
theorem dX3_become_21 : decode cX3_become 21 = .ok (.getfield 15, 3) := by decide +kernel
theorem dX3_become_24 : decode cX3_become 24 = .ok (.iconst 0, 1) := by decide +kernel
theorem dX3_become_25 : decode cX3_become 25 = .ok (.bipush 24, 2) := by decide +kernel
theorem dX3_become_27 : decode cX3_become 27 = .ok (.invokestatic 18, 3) := by decide +kernel
theorem dX3_become_30 : decode cX3_become 30 = .ok (.aload_n 0, 1) := by decide +kernel
theorem dX3_become_31 : decode cX3_become 31 = .ok (.aload_n 1, 1) := by decide +kernel
theorem dX3_become_32 : decode cX3_become 32 = .ok (.getfield 24, 3) := by decide +kernel
theorem dX3_become_35 : decode cX3_become 35 = .ok (.putfield 24, 3) := by decide +kernel
theorem dX3_become_38 : decode cX3_become 38 = .ok (.aload_n 0, 1) := by decide +kernel
theorem dX3_become_39 : decode cX3_become 39 = .ok (.aload_n 1, 1) := by decide +kernel
theorem dX3_become_40 : decode cX3_become 40 = .ok (.getfield 28, 3) := by decide +kernel
theorem dX3_become_43 : decode cX3_become 43 = .ok (.putfield 28, 3) := by decide +kernel
theorem dX3_become_46 : decode cX3_become 46 = .ok (.aload_n 0, 1) := by decide +kernel
theorem dX3_become_47 : decode cX3_become 47 = .ok (.aload_n 1, 1) := by decide +kernel
theorem dX3_become_48 : decode cX3_become 48 = .ok (.getfield 31, 3) := by decide +kernel
theorem dX3_become_51 : decode cX3_become 51 = .ok (.putfield 31, 3) := by decide +kernel
theorem dX3_become_54 : decode cX3_become 54 = .ok (.aload_n 0, 1) := by decide +kernel
theorem dX3_become_55 : decode cX3_become 55 = .ok (.aload_n 1, 1) := by decide +kernel
theorem dX3_become_56 : decode cX3_become 56 = .ok (.getfield 34, 3) := by decide +kernel
theorem dX3_become_59 : decode cX3_become 59 = .ok (.putfield 34, 3) := by decide +kernel
theorem dX3_become_62 : decode cX3_become 62 = .ok (.aload_n 0, 1) := by decide +kernel
theorem dX3_become_63 : decode cX3_become 63 = .ok (.aload_n 1, 1) := by decide +kernel
theorem dX3_become_64 : decode cX3_become 64 = .ok (.getfield 38, 3) := by decide +kernel
theorem dX3_become_67 : decode cX3_become 67 = .ok (.putfield 38, 3) := by decide +kernel
theorem dX3_become_70 : decode cX3_become 70 = .ok (.return_, 1) := by decide +kernel
theorem dX3_begin_0 : decode cX3_begin 0 = .ok (.aload_n 0, 1) := by decide +kernel
theorem dX3_begin_1 : decode cX3_begin 1 = .ok (.iconst 0, 1) := by decide +kernel
theorem dX3_begin_2 : decode cX3_begin 2 = .ok (.putfield 24, 3) := by decide +kernel
theorem dX3_begin_5 : decode cX3_begin 5 = .ok (.aload_n 0, 1) := by decide +kernel
theorem dX3_begin_6 : decode cX3_begin 6 = .ok (.iload_n 1, 1) := by decide +kernel
theorem dX3_begin_7 : decode cX3_begin 7 = .ok (.putfield 31, 3) := by decide +kernel
theorem dX3_begin_10 : decode cX3_begin 10 = .ok (.aload_n 0, 1) := by decide +kernel
theorem dX3_begin_11 : decode cX3_begin 11 = .ok (.iload_n 2, 1) := by decide +kernel
theorem dX3_begin_12 : decode cX3_begin 12 = .ok (.putfield 28, 3) := by decide +kernel
theorem dX3_begin_15 : decode cX3_begin 15 = .ok (.aload_n 0, 1) := by decide +kernel
theorem dX3_begin_16 : decode cX3_begin 16 = .ok (.iconst 0, 1) := by decide +kernel
theorem dX3_begin_17 : decode cX3_begin 17 = .ok (.putfield 34, 3) := by decide +kernel
theorem dX3_begin_20 : decode cX3_begin 20 = .ok (.aload_n 0, 1) := by decide +kernel
theorem dX3_begin_21 : decode cX3_begin 21 = .ok (.iconst 0, 1) := by decide +kernel
theorem dX3_begin_22 : decode cX3_begin 22 = .ok (.putfield 38, 3) := by decide +kernel
theorem dX3_begin_25 : decode cX3_begin 25 = .ok (.return_, 1) := by decide +kernel
theorem dX3_add_0 : decode cX3_add 0 = .ok (.aload_n 0, 1) := by decide +kernel
theorem dX3_add_1 : decode cX3_add 1 = .ok (.getfield 24, 3) := by decide +kernel
theorem dX3_add_4 : decode cX3_add 4 = .ok (.bipush 24, 2) := by decide +kernel
theorem dX3_add_6 : decode cX3_add 6 = .ok (.if_icmp .ge 33, 3) := by decide +kernel
theorem dX3_add_9 : decode cX3_add 9 = .ok (.aload_n 0, 1) := by decide +kernel
theorem dX3_add_10 : decode cX3_add 10 = .ok (.getfield 9, 3) := by decide +kernel
theorem dX3_add_13 : decode cX3_add 13 = .ok (.aload_n 0, 1) := by decide +kernel
theorem dX3_add_14 : decode cX3_add 14 = .ok (.getfield 24, 3) := by decide +kernel
theorem dX3_add_17 : decode cX3_add 17 = .ok (.iload_n 1, 1) := by decide +kernel
theorem dX3_add_18 : decode cX3_add 18 = .ok (.iastore, 1) := by decide +kernel
theorem dX3_add_19 : decode cX3_add 19 = .ok (.aload_n 0, 1) := by decide +kernel
theorem dX3_add_20 : decode cX3_add 20 = .ok (.getfield 15, 3) := by decide +kernel
theorem dX3_add_23 : decode cX3_add 23 = .ok (.aload_n 0, 1) := by decide +kernel
theorem dX3_add_24 : decode cX3_add 24 = .ok (.getfield 24, 3) := by decide +kernel
theorem dX3_add_27 : decode cX3_add 27 = .ok (.iload_n 2, 1) := by decide +kernel
theorem dX3_add_28 : decode cX3_add 28 = .ok (.iastore, 1) := by decide +kernel
theorem dX3_add_29 : decode cX3_add 29 = .ok (.aload_n 0, 1) := by decide +kernel
theorem dX3_add_30 : decode cX3_add 30 = .ok (.dup, 1) := by decide +kernel
theorem dX3_add_31 : decode cX3_add 31 = .ok (.getfield 24, 3) := by decide +kernel
theorem dX3_add_34 : decode cX3_add 34 = .ok (.iconst 1, 1) := by decide +kernel
theorem dX3_add_35 : decode cX3_add 35 = .ok (.iadd, 1) := by decide +kernel
theorem dX3_add_36 : decode cX3_add 36 = .ok (.putfield 24, 3) := by decide +kernel
theorem dX3_add_39 : decode cX3_add 39 = .ok (.return_, 1) := by decide +kernel
theorem dX3_shorten_0 : decode cX3_shorten 0 = .ok (.iload_n 1, 1) := by decide +kernel
theorem dX3_shorten_1 : decode cX3_shorten 1 = .ok (.ifCond .lt 21, 3) := by decide +kernel
theorem dX3_shorten_4 : decode cX3_shorten 4 = .ok (.iload_n 1, 1) := by decide +kernel
theorem dX3_shorten_5 : decode cX3_shorten 5 = .ok (.aload_n 0, 1) := by decide +kernel
theorem dX3_shorten_6 : decode cX3_shorten 6 = .ok (.getfield 24, 3) := by decide +kernel
theorem dX3_shorten_9 : decode cX3_shorten 9 = .ok (.if_icmp .gt 13, 3) := by decide +kernel
theorem dX3_shorten_12 : decode cX3_shorten 12 = .ok (.aload_n 0, 1) := by decide +kernel
theorem dX3_shorten_13 : decode cX3_shorten 13 = .ok (.dup, 1) := by decide +kernel
theorem dX3_shorten_14 : decode cX3_shorten 14 = .ok (.getfield 24, 3) := by decide +kernel
theorem dX3_shorten_17 : decode cX3_shorten 17 = .ok (.iload_n 1, 1) := by decide +kernel
theorem dX3_shorten_18 : decode cX3_shorten 18 = .ok (.isub, 1) := by decide +kernel
theorem dX3_shorten_19 : decode cX3_shorten 19 = .ok (.putfield 24, 3) := by decide +kernel
theorem dX3_shorten_22 : decode cX3_shorten 22 = .ok (.return_, 1) := by decide +kernel
theorem dX3_drop_0 : decode cX3_drop 0 = .ok (.iload_n 1, 1) := by decide +kernel
theorem dX3_drop_1 : decode cX3_drop 1 = .ok (.ifCond .lt 11, 3) := by decide +kernel
theorem dX3_drop_4 : decode cX3_drop 4 = .ok (.iload_n 1, 1) := by decide +kernel
theorem dX3_drop_5 : decode cX3_drop 5 = .ok (.aload_n 0, 1) := by decide +kernel
theorem dX3_drop_6 : decode cX3_drop 6 = .ok (.getfield 24, 3) := by decide +kernel
theorem dX3_drop_9 : decode cX3_drop 9 = .ok (.if_icmp .lt 4, 3) := by decide +kernel
theorem dX3_drop_12 : decode cX3_drop 12 = .ok (.return_, 1) := by decide +kernel
theorem dX3_drop_13 : decode cX3_drop 13 = .ok (.iload_n 1, 1) := by decide +kernel
theorem dX3_drop_14 : decode cX3_drop 14 = .ok (.istore_n 2, 1) := by decide +kernel
theorem dX3_drop_15 : decode cX3_drop 15 = .ok (.iload_n 2, 1) := by decide +kernel
theorem dX3_drop_16 : decode cX3_drop 16 = .ok (.iconst 1, 1) := by decide +kernel
theorem dX3_drop_17 : decode cX3_drop 17 = .ok (.iadd, 1) := by decide +kernel
theorem dX3_drop_18 : decode cX3_drop 18 = .ok (.aload_n 0, 1) := by decide +kernel
theorem dX3_drop_19 : decode cX3_drop 19 = .ok (.getfield 24, 3) := by decide +kernel
theorem dX3_drop_22 : decode cX3_drop 22 = .ok (.if_icmp .ge 37, 3) := by decide +kernel
theorem dX3_drop_25 : decode cX3_drop 25 = .ok (.aload_n 0, 1) := by decide +kernel
theorem dX3_drop_26 : decode cX3_drop 26 = .ok (.getfield 9, 3) := by decide +kernel
theorem dX3_drop_29 : decode cX3_drop 29 = .ok (.iload_n 2, 1) := by decide +kernel
theorem dX3_drop_30 : decode cX3_drop 30 = .ok (.aload_n 0, 1) := by decide +kernel
theorem dX3_drop_31 : decode cX3_drop 31 = .ok (.getfield 9, 3) := by decide +kernel
theorem dX3_drop_34 : decode cX3_drop 34 = .ok (.iload_n 2, 1) := by decide +kernel
theorem dX3_drop_35 : decode cX3_drop 35 = .ok (.iconst 1, 1) := by decide +kernel
theorem dX3_drop_36 : decode cX3_drop 36 = .ok (.iadd, 1) := by decide +kernel
theorem dX3_drop_37 : decode cX3_drop 37 = .ok (.iaload, 1) := by decide +kernel
theorem dX3_drop_38 : decode cX3_drop 38 = .ok (.iastore, 1) := by decide +kernel
theorem dX3_drop_39 : decode cX3_drop 39 = .ok (.aload_n 0, 1) := by decide +kernel
theorem dX3_drop_40 : decode cX3_drop 40 = .ok (.getfield 15, 3) := by decide +kernel
theorem dX3_drop_43 : decode cX3_drop 43 = .ok (.iload_n 2, 1) := by decide +kernel
theorem dX3_drop_44 : decode cX3_drop 44 = .ok (.aload_n 0, 1) := by decide +kernel
theorem dX3_drop_45 : decode cX3_drop 45 = .ok (.getfield 15, 3) := by decide +kernel
theorem dX3_drop_48 : decode cX3_drop 48 = .ok (.iload_n 2, 1) := by decide +kernel
theorem dX3_drop_49 : decode cX3_drop 49 = .ok (.iconst 1, 1) := by decide +kernel
theorem dX3_drop_50 : decode cX3_drop 50 = .ok (.iadd, 1) := by decide +kernel
theorem dX3_drop_51 : decode cX3_drop 51 = .ok (.iaload, 1) := by decide +kernel
theorem dX3_drop_52 : decode cX3_drop 52 = .ok (.iastore, 1) := by decide +kernel
theorem dX3_drop_53 : decode cX3_drop 53 = .ok (.iinc 2 1, 3) := by decide +kernel
theorem dX3_drop_56 : decode cX3_drop 56 = .ok (.goto (-41), 3) := by decide +kernel
theorem dX3_drop_59 : decode cX3_drop 59 = .ok (.aload_n 0, 1) := by decide +kernel
theorem dX3_drop_60 : decode cX3_drop 60 = .ok (.dup, 1) := by decide +kernel
theorem dX3_drop_61 : decode cX3_drop 61 = .ok (.getfield 24, 3) := by decide +kernel
theorem dX3_drop_64 : decode cX3_drop 64 = .ok (.iconst 1, 1) := by decide +kernel
theorem dX3_drop_65 : decode cX3_drop 65 = .ok (.isub, 1) := by decide +kernel
theorem dX3_drop_66 : decode cX3_drop 66 = .ok (.putfield 24, 3) := by decide +kernel
theorem dX3_drop_69 : decode cX3_drop 69 = .ok (.return_, 1) := by decide +kernel
theorem dX3_kindAt_0 : decode cX3_kindAt 0 = .ok (.iload_n 1, 1) := by decide +kernel
theorem dX3_kindAt_1 : decode cX3_kindAt 1 = .ok (.ifCond .lt 20, 3) := by decide +kernel
theorem dX3_kindAt_4 : decode cX3_kindAt 4 = .ok (.iload_n 1, 1) := by decide +kernel
theorem dX3_kindAt_5 : decode cX3_kindAt 5 = .ok (.aload_n 0, 1) := by decide +kernel
theorem dX3_kindAt_6 : decode cX3_kindAt 6 = .ok (.getfield 24, 3) := by decide +kernel
theorem dX3_kindAt_9 : decode cX3_kindAt 9 = .ok (.if_icmp .ge 12, 3) := by decide +kernel
theorem dX3_kindAt_12 : decode cX3_kindAt 12 = .ok (.aload_n 0, 1) := by decide +kernel
theorem dX3_kindAt_13 : decode cX3_kindAt 13 = .ok (.getfield 9, 3) := by decide +kernel
theorem dX3_kindAt_16 : decode cX3_kindAt 16 = .ok (.iload_n 1, 1) := by decide +kernel
theorem dX3_kindAt_17 : decode cX3_kindAt 17 = .ok (.iaload, 1) := by decide +kernel
theorem dX3_kindAt_18 : decode cX3_kindAt 18 = .ok (.goto 4, 3) := by decide +kernel
theorem dX3_kindAt_21 : decode cX3_kindAt 21 = .ok (.iconst (-1), 1) := by decide +kernel
theorem dX3_kindAt_22 : decode cX3_kindAt 22 = .ok (.ireturn, 1) := by decide +kernel
theorem dX3_weekAt_0 : decode cX3_weekAt 0 = .ok (.iload_n 1, 1) := by decide +kernel
theorem dX3_weekAt_1 : decode cX3_weekAt 1 = .ok (.ifCond .lt 20, 3) := by decide +kernel
theorem dX3_weekAt_4 : decode cX3_weekAt 4 = .ok (.iload_n 1, 1) := by decide +kernel
theorem dX3_weekAt_5 : decode cX3_weekAt 5 = .ok (.aload_n 0, 1) := by decide +kernel
theorem dX3_weekAt_6 : decode cX3_weekAt 6 = .ok (.getfield 24, 3) := by decide +kernel
theorem dX3_weekAt_9 : decode cX3_weekAt 9 = .ok (.if_icmp .ge 12, 3) := by decide +kernel
theorem dX3_weekAt_12 : decode cX3_weekAt 12 = .ok (.aload_n 0, 1) := by decide +kernel
theorem dX3_weekAt_13 : decode cX3_weekAt 13 = .ok (.getfield 15, 3) := by decide +kernel
theorem dX3_weekAt_16 : decode cX3_weekAt 16 = .ok (.iload_n 1, 1) := by decide +kernel
theorem dX3_weekAt_17 : decode cX3_weekAt 17 = .ok (.iaload, 1) := by decide +kernel
theorem dX3_weekAt_18 : decode cX3_weekAt 18 = .ok (.goto 4, 3) := by decide +kernel
theorem dX3_weekAt_21 : decode cX3_weekAt 21 = .ok (.iconst (-1), 1) := by decide +kernel
theorem dX3_weekAt_22 : decode cX3_weekAt 22 = .ok (.ireturn, 1) := by decide +kernel
theorem dX3_lastKind_0 : decode cX3_lastKind 0 = .ok (.aload_n 0, 1) := by decide +kernel
theorem dX3_lastKind_1 : decode cX3_lastKind 1 = .ok (.aload_n 0, 1) := by decide +kernel
theorem dX3_lastKind_2 : decode cX3_lastKind 2 = .ok (.getfield 24, 3) := by decide +kernel
theorem dX3_lastKind_5 : decode cX3_lastKind 5 = .ok (.iconst 1, 1) := by decide +kernel
theorem dX3_lastKind_6 : decode cX3_lastKind 6 = .ok (.isub, 1) := by decide +kernel
theorem dX3_lastKind_7 : decode cX3_lastKind 7 = .ok (.invokevirtual 41, 3) := by decide +kernel
theorem dX3_lastKind_10 : decode cX3_lastKind 10 = .ok (.ireturn, 1) := by decide +kernel
theorem dX3_kindSet_0 : decode cX3_kindSet 0 = .ok (.iconst 0, 1) := by decide +kernel
theorem dX3_kindSet_1 : decode cX3_kindSet 1 = .ok (.istore_n 1, 1) := by decide +kernel
theorem dX3_kindSet_2 : decode cX3_kindSet 2 = .ok (.iconst 0, 1) := by decide +kernel
theorem dX3_kindSet_3 : decode cX3_kindSet 3 = .ok (.istore_n 2, 1) := by decide +kernel
theorem dX3_kindSet_4 : decode cX3_kindSet 4 = .ok (.iload_n 2, 1) := by decide +kernel
theorem dX3_kindSet_5 : decode cX3_kindSet 5 = .ok (.aload_n 0, 1) := by decide +kernel
theorem dX3_kindSet_6 : decode cX3_kindSet 6 = .ok (.getfield 24, 3) := by decide +kernel
theorem dX3_kindSet_9 : decode cX3_kindSet 9 = .ok (.if_icmp .ge 20, 3) := by decide +kernel
theorem dX3_kindSet_12 : decode cX3_kindSet 12 = .ok (.iload_n 1, 1) := by decide +kernel
theorem dX3_kindSet_13 : decode cX3_kindSet 13 = .ok (.iconst 1, 1) := by decide +kernel
theorem dX3_kindSet_14 : decode cX3_kindSet 14 = .ok (.aload_n 0, 1) := by decide +kernel
theorem dX3_kindSet_15 : decode cX3_kindSet 15 = .ok (.getfield 9, 3) := by decide +kernel
theorem dX3_kindSet_18 : decode cX3_kindSet 18 = .ok (.iload_n 2, 1) := by decide +kernel
theorem dX3_kindSet_19 : decode cX3_kindSet 19 = .ok (.iaload, 1) := by decide +kernel
theorem dX3_kindSet_20 : decode cX3_kindSet 20 = .ok (.ishl, 1) := by decide +kernel
theorem dX3_kindSet_21 : decode cX3_kindSet 21 = .ok (.ior, 1) := by decide +kernel
theorem dX3_kindSet_22 : decode cX3_kindSet 22 = .ok (.istore_n 1, 1) := by decide +kernel
theorem dX3_kindSet_23 : decode cX3_kindSet 23 = .ok (.iinc 2 1, 3) := by decide +kernel
theorem dX3_kindSet_26 : decode cX3_kindSet 26 = .ok (.goto (-22), 3) := by decide +kernel
theorem dX3_kindSet_29 : decode cX3_kindSet 29 = .ok (.iload_n 1, 1) := by decide +kernel
theorem dX3_kindSet_30 : decode cX3_kindSet 30 = .ok (.ireturn, 1) := by decide +kernel
theorem dX3_holds_0 : decode cX3_holds 0 = .ok (.aload_n 0, 1) := by decide +kernel
theorem dX3_holds_1 : decode cX3_holds 1 = .ok (.invokevirtual 45, 3) := by decide +kernel
theorem dX3_holds_4 : decode cX3_holds 4 = .ok (.iload_n 1, 1) := by decide +kernel
theorem dX3_holds_5 : decode cX3_holds 5 = .ok (.ishr, 1) := by decide +kernel
theorem dX3_holds_6 : decode cX3_holds 6 = .ok (.iconst 1, 1) := by decide +kernel
theorem dX3_holds_7 : decode cX3_holds 7 = .ok (.iand, 1) := by decide +kernel
theorem dX3_holds_8 : decode cX3_holds 8 = .ok (.iconst 1, 1) := by decide +kernel
theorem dX3_holds_9 : decode cX3_holds 9 = .ok (.if_icmp .ne 7, 3) := by decide +kernel
theorem dX3_holds_12 : decode cX3_holds 12 = .ok (.iconst 1, 1) := by decide +kernel
theorem dX3_holds_13 : decode cX3_holds 13 = .ok (.goto 4, 3) := by decide +kernel
theorem dX3_holds_16 : decode cX3_holds 16 = .ok (.iconst 0, 1) := by decide +kernel
theorem dX3_holds_17 : decode cX3_holds 17 = .ok (.ireturn, 1) := by decide +kernel
theorem dX3_binds_0 : decode cX3_binds 0 = .ok (.iconst 0, 1) := by decide +kernel
theorem dX3_binds_1 : decode cX3_binds 1 = .ok (.istore_n 3, 1) := by decide +kernel
theorem dX3_binds_2 : decode cX3_binds 2 = .ok (.iconst 0, 1) := by decide +kernel
theorem dX3_binds_3 : decode cX3_binds 3 = .ok (.istore 4, 2) := by decide +kernel
theorem dX3_binds_5 : decode cX3_binds 5 = .ok (.iload 4, 2) := by decide +kernel
theorem dX3_binds_7 : decode cX3_binds 7 = .ok (.aload_n 0, 1) := by decide +kernel
theorem dX3_binds_8 : decode cX3_binds 8 = .ok (.getfield 24, 3) := by decide +kernel
theorem dX3_binds_11 : decode cX3_binds 11 = .ok (.if_icmp .ge 47, 3) := by decide +kernel
theorem dX3_binds_14 : decode cX3_binds 14 = .ok (.iload_n 3, 1) := by decide +kernel
theorem dX3_binds_15 : decode cX3_binds 15 = .ok (.ifCond .eq 16, 3) := by decide +kernel
theorem dX3_binds_18 : decode cX3_binds 18 = .ok (.aload_n 0, 1) := by decide +kernel
theorem dX3_binds_19 : decode cX3_binds 19 = .ok (.getfield 9, 3) := by decide +kernel
theorem dX3_binds_22 : decode cX3_binds 22 = .ok (.iload 4, 2) := by decide +kernel
theorem dX3_binds_24 : decode cX3_binds 24 = .ok (.iaload, 1) := by decide +kernel
theorem dX3_binds_25 : decode cX3_binds 25 = .ok (.iload_n 2, 1) := by decide +kernel
theorem dX3_binds_26 : decode cX3_binds 26 = .ok (.if_icmp .ne 5, 3) := by decide +kernel
theorem dX3_binds_29 : decode cX3_binds 29 = .ok (.iconst 1, 1) := by decide +kernel
theorem dX3_binds_30 : decode cX3_binds 30 = .ok (.ireturn, 1) := by decide +kernel
theorem dX3_binds_31 : decode cX3_binds 31 = .ok (.iload_n 3, 1) := by decide +kernel
theorem dX3_binds_32 : decode cX3_binds 32 = .ok (.ifCond .ne 14, 3) := by decide +kernel
theorem dX3_binds_35 : decode cX3_binds 35 = .ok (.aload_n 0, 1) := by decide +kernel
theorem dX3_binds_36 : decode cX3_binds 36 = .ok (.getfield 9, 3) := by decide +kernel
theorem dX3_binds_39 : decode cX3_binds 39 = .ok (.iload 4, 2) := by decide +kernel
theorem dX3_binds_41 : decode cX3_binds 41 = .ok (.iaload, 1) := by decide +kernel
theorem dX3_binds_42 : decode cX3_binds 42 = .ok (.iload_n 1, 1) := by decide +kernel
theorem dX3_binds_43 : decode cX3_binds 43 = .ok (.if_icmp .ne 7, 3) := by decide +kernel
theorem dX3_binds_46 : decode cX3_binds 46 = .ok (.iconst 1, 1) := by decide +kernel
theorem dX3_binds_47 : decode cX3_binds 47 = .ok (.goto 4, 3) := by decide +kernel
theorem dX3_binds_50 : decode cX3_binds 50 = .ok (.iconst 0, 1) := by decide +kernel
theorem dX3_binds_51 : decode cX3_binds 51 = .ok (.istore_n 3, 1) := by decide +kernel
theorem dX3_binds_52 : decode cX3_binds 52 = .ok (.iinc 4 1, 3) := by decide +kernel
theorem dX3_binds_55 : decode cX3_binds 55 = .ok (.goto (-50), 3) := by decide +kernel
theorem dX3_binds_58 : decode cX3_binds 58 = .ok (.iconst 0, 1) := by decide +kernel
theorem dX3_binds_59 : decode cX3_binds 59 = .ok (.ireturn, 1) := by decide +kernel
theorem dX3_firstUnlike_0 : decode cX3_firstUnlike 0 = .ok (.aload_n 0, 1) := by decide +kernel
theorem dX3_firstUnlike_1 : decode cX3_firstUnlike 1 = .ok (.getfield 24, 3) := by decide +kernel
theorem dX3_firstUnlike_4 : decode cX3_firstUnlike 4 = .ok (.aload_n 1, 1) := by decide +kernel
theorem dX3_firstUnlike_5 : decode cX3_firstUnlike 5 = .ok (.getfield 24, 3) := by decide +kernel
theorem dX3_firstUnlike_8 : decode cX3_firstUnlike 8 = .ok (.invokestatic 49, 3) := by decide +kernel
theorem dX3_firstUnlike_11 : decode cX3_firstUnlike 11 = .ok (.istore_n 2, 1) := by decide +kernel
theorem dX3_firstUnlike_12 : decode cX3_firstUnlike 12 = .ok (.iconst 0, 1) := by decide +kernel
theorem dX3_firstUnlike_13 : decode cX3_firstUnlike 13 = .ok (.istore_n 3, 1) := by decide +kernel
theorem dX3_firstUnlike_14 : decode cX3_firstUnlike 14 = .ok (.iload_n 3, 1) := by decide +kernel
theorem dX3_firstUnlike_15 : decode cX3_firstUnlike 15 = .ok (.iload_n 2, 1) := by decide +kernel
theorem dX3_firstUnlike_16 : decode cX3_firstUnlike 16 = .ok (.if_icmp .ge 24, 3) := by decide +kernel
theorem dX3_firstUnlike_19 : decode cX3_firstUnlike 19 = .ok (.aload_n 0, 1) := by decide +kernel
theorem dX3_firstUnlike_20 : decode cX3_firstUnlike 20 = .ok (.iload_n 3, 1) := by decide +kernel
theorem dX3_firstUnlike_21 : decode cX3_firstUnlike 21 = .ok (.invokevirtual 41, 3) := by decide +kernel
theorem dX3_firstUnlike_24 : decode cX3_firstUnlike 24 = .ok (.aload_n 1, 1) := by decide +kernel
theorem dX3_firstUnlike_25 : decode cX3_firstUnlike 25 = .ok (.iload_n 3, 1) := by decide +kernel
theorem dX3_firstUnlike_26 : decode cX3_firstUnlike 26 = .ok (.invokevirtual 41, 3) := by decide +kernel
theorem dX3_firstUnlike_29 : decode cX3_firstUnlike 29 = .ok (.if_icmp .eq 5, 3) := by decide +kernel
theorem dX3_firstUnlike_32 : decode cX3_firstUnlike 32 = .ok (.iload_n 3, 1) := by decide +kernel
theorem dX3_firstUnlike_33 : decode cX3_firstUnlike 33 = .ok (.ireturn, 1) := by decide +kernel
theorem dX3_firstUnlike_34 : decode cX3_firstUnlike 34 = .ok (.iinc 3 1, 3) := by decide +kernel
theorem dX3_firstUnlike_37 : decode cX3_firstUnlike 37 = .ok (.goto (-23), 3) := by decide +kernel
theorem dX3_firstUnlike_40 : decode cX3_firstUnlike 40 = .ok (.iconst (-1), 1) := by decide +kernel
theorem dX3_firstUnlike_41 : decode cX3_firstUnlike 41 = .ok (.ireturn, 1) := by decide +kernel
theorem dX3_alikeFrom_0 : decode cX3_alikeFrom 0 = .ok (.iconst 0, 1) := by decide +kernel
theorem dX3_alikeFrom_1 : decode cX3_alikeFrom 1 = .ok (.istore 4, 2) := by decide +kernel
theorem dX3_alikeFrom_3 : decode cX3_alikeFrom 3 = .ok (.iconst 0, 1) := by decide +kernel
theorem dX3_alikeFrom_4 : decode cX3_alikeFrom 4 = .ok (.istore 5, 2) := by decide +kernel
theorem dX3_alikeFrom_6 : decode cX3_alikeFrom 6 = .ok (.iload_n 1, 1) := by decide +kernel
theorem dX3_alikeFrom_7 : decode cX3_alikeFrom 7 = .ok (.iload 5, 2) := by decide +kernel
theorem dX3_alikeFrom_9 : decode cX3_alikeFrom 9 = .ok (.iadd, 1) := by decide +kernel
theorem dX3_alikeFrom_10 : decode cX3_alikeFrom 10 = .ok (.aload_n 0, 1) := by decide +kernel
theorem dX3_alikeFrom_11 : decode cX3_alikeFrom 11 = .ok (.getfield 24, 3) := by decide +kernel
theorem dX3_alikeFrom_14 : decode cX3_alikeFrom 14 = .ok (.if_icmp .ge 45, 3) := by decide +kernel
theorem dX3_alikeFrom_17 : decode cX3_alikeFrom 17 = .ok (.iload_n 3, 1) := by decide +kernel
theorem dX3_alikeFrom_18 : decode cX3_alikeFrom 18 = .ok (.iload 5, 2) := by decide +kernel
theorem dX3_alikeFrom_20 : decode cX3_alikeFrom 20 = .ok (.iadd, 1) := by decide +kernel
theorem dX3_alikeFrom_21 : decode cX3_alikeFrom 21 = .ok (.aload_n 2, 1) := by decide +kernel
theorem dX3_alikeFrom_22 : decode cX3_alikeFrom 22 = .ok (.getfield 24, 3) := by decide +kernel
theorem dX3_alikeFrom_25 : decode cX3_alikeFrom 25 = .ok (.if_icmp .ge 34, 3) := by decide +kernel
theorem dX3_alikeFrom_28 : decode cX3_alikeFrom 28 = .ok (.aload_n 0, 1) := by decide +kernel
theorem dX3_alikeFrom_29 : decode cX3_alikeFrom 29 = .ok (.iload_n 1, 1) := by decide +kernel
theorem dX3_alikeFrom_30 : decode cX3_alikeFrom 30 = .ok (.iload 5, 2) := by decide +kernel
theorem dX3_alikeFrom_32 : decode cX3_alikeFrom 32 = .ok (.iadd, 1) := by decide +kernel
theorem dX3_alikeFrom_33 : decode cX3_alikeFrom 33 = .ok (.invokevirtual 41, 3) := by decide +kernel
theorem dX3_alikeFrom_36 : decode cX3_alikeFrom 36 = .ok (.aload_n 2, 1) := by decide +kernel
theorem dX3_alikeFrom_37 : decode cX3_alikeFrom 37 = .ok (.iload_n 3, 1) := by decide +kernel
theorem dX3_alikeFrom_38 : decode cX3_alikeFrom 38 = .ok (.iload 5, 2) := by decide +kernel
theorem dX3_alikeFrom_40 : decode cX3_alikeFrom 40 = .ok (.iadd, 1) := by decide +kernel
theorem dX3_alikeFrom_41 : decode cX3_alikeFrom 41 = .ok (.invokevirtual 41, 3) := by decide +kernel
theorem dX3_alikeFrom_44 : decode cX3_alikeFrom 44 = .ok (.if_icmp .eq 6, 3) := by decide +kernel
theorem dX3_alikeFrom_47 : decode cX3_alikeFrom 47 = .ok (.iload 4, 2) := by decide +kernel
theorem dX3_alikeFrom_49 : decode cX3_alikeFrom 49 = .ok (.ireturn, 1) := by decide +kernel
theorem dX3_alikeFrom_50 : decode cX3_alikeFrom 50 = .ok (.iinc 4 1, 3) := by decide +kernel
theorem dX3_alikeFrom_53 : decode cX3_alikeFrom 53 = .ok (.iinc 5 1, 3) := by decide +kernel
theorem dX3_alikeFrom_56 : decode cX3_alikeFrom 56 = .ok (.goto (-50), 3) := by decide +kernel
theorem dX3_alikeFrom_59 : decode cX3_alikeFrom 59 = .ok (.iload 4, 2) := by decide +kernel
theorem dX3_alikeFrom_61 : decode cX3_alikeFrom 61 = .ok (.ireturn, 1) := by decide +kernel
theorem dX3_linesOf_0 : decode cX3_linesOf 0 = .ok (.iconst 0, 1) := by decide +kernel
theorem dX3_linesOf_1 : decode cX3_linesOf 1 = .ok (.istore_n 2, 1) := by decide +kernel
theorem dX3_linesOf_2 : decode cX3_linesOf 2 = .ok (.iconst 0, 1) := by decide +kernel
theorem dX3_linesOf_3 : decode cX3_linesOf 3 = .ok (.istore_n 3, 1) := by decide +kernel
theorem dX3_linesOf_4 : decode cX3_linesOf 4 = .ok (.iload_n 3, 1) := by decide +kernel
theorem dX3_linesOf_5 : decode cX3_linesOf 5 = .ok (.aload_n 0, 1) := by decide +kernel
theorem dX3_linesOf_6 : decode cX3_linesOf 6 = .ok (.getfield 24, 3) := by decide +kernel
theorem dX3_linesOf_9 : decode cX3_linesOf 9 = .ok (.if_icmp .ge 22, 3) := by decide +kernel
theorem dX3_linesOf_12 : decode cX3_linesOf 12 = .ok (.aload_n 0, 1) := by decide +kernel
theorem dX3_linesOf_13 : decode cX3_linesOf 13 = .ok (.getfield 15, 3) := by decide +kernel
theorem dX3_linesOf_16 : decode cX3_linesOf 16 = .ok (.iload_n 3, 1) := by decide +kernel
theorem dX3_linesOf_17 : decode cX3_linesOf 17 = .ok (.iaload, 1) := by decide +kernel
theorem dX3_linesOf_18 : decode cX3_linesOf 18 = .ok (.iload_n 1, 1) := by decide +kernel
theorem dX3_linesOf_19 : decode cX3_linesOf 19 = .ok (.if_icmp .ne 6, 3) := by decide +kernel
theorem dX3_linesOf_22 : decode cX3_linesOf 22 = .ok (.iinc 2 1, 3) := by decide +kernel
theorem dX3_linesOf_25 : decode cX3_linesOf 25 = .ok (.iinc 3 1, 3) := by decide +kernel
theorem dX3_linesOf_28 : decode cX3_linesOf 28 = .ok (.goto (-24), 3) := by decide +kernel
theorem dX3_linesOf_31 : decode cX3_linesOf 31 = .ok (.iload_n 2, 1) := by decide +kernel
theorem dX3_linesOf_32 : decode cX3_linesOf 32 = .ok (.ireturn, 1) := by decide +kernel
theorem dX4_init_0 : decode cX4_init 0 = .ok (.aload_n 0, 1) := by decide +kernel
theorem dX4_init_1 : decode cX4_init 1 = .ok (.invokespecial 3, 3) := by decide +kernel
theorem dX4_init_4 : decode cX4_init 4 = .ok (.aload_n 0, 1) := by decide +kernel
theorem dX4_init_5 : decode cX4_init 5 = .ok (.bipush 12, 2) := by decide +kernel
theorem dX4_init_7 : decode cX4_init 7 = .ok (.anewarray 9, 3) := by decide +kernel
theorem dX4_init_10 : decode cX4_init 10 = .ok (.putfield 11, 3) := by decide +kernel
theorem dX4_init_13 : decode cX4_init 13 = .ok (.iconst 0, 1) := by decide +kernel
theorem dX4_init_14 : decode cX4_init 14 = .ok (.istore_n 1, 1) := by decide +kernel
theorem dX4_init_15 : decode cX4_init 15 = .ok (.iload_n 1, 1) := by decide +kernel
theorem dX4_init_16 : decode cX4_init 16 = .ok (.bipush 12, 2) := by decide +kernel
theorem dX4_init_18 : decode cX4_init 18 = .ok (.if_icmp .ge 22, 3) := by decide +kernel
theorem dX4_init_21 : decode cX4_init 21 = .ok (.aload_n 0, 1) := by decide +kernel
theorem dX4_init_22 : decode cX4_init 22 = .ok (.getfield 11, 3) := by decide +kernel
theorem dX4_init_25 : decode cX4_init 25 = .ok (.iload_n 1, 1) := by decide +kernel
theorem dX4_init_26 : decode cX4_init 26 = .ok (.new 9, 3) := by decide +kernel
theorem dX4_init_29 : decode cX4_init 29 = .ok (.dup, 1) := by decide +kernel
theorem dX4_init_30 : decode cX4_init 30 = .ok (.invokespecial 17, 3) := by decide +kernel
theorem dX4_init_33 : decode cX4_init 33 = .ok (.aastore, 1) := by decide +kernel
theorem dX4_init_34 : decode cX4_init 34 = .ok (.iinc 1 1, 3) := by decide +kernel
theorem dX4_init_37 : decode cX4_init 37 = .ok (.goto (-22), 3) := by decide +kernel
theorem dX4_init_40 : decode cX4_init 40 = .ok (.return_, 1) := by decide +kernel
theorem dX4_remember_0 : decode cX4_remember 0 = .ok (.aload_n 0, 1) := by decide +kernel
theorem dX4_remember_1 : decode cX4_remember 1 = .ok (.getfield 11, 3) := by decide +kernel
theorem dX4_remember_4 : decode cX4_remember 4 = .ok (.aload_n 0, 1) := by decide +kernel
theorem dX4_remember_5 : decode cX4_remember 5 = .ok (.getfield 18, 3) := by decide +kernel
theorem dX4_remember_8 : decode cX4_remember 8 = .ok (.aaload, 1) := by decide +kernel
theorem dX4_remember_9 : decode cX4_remember 9 = .ok (.aload_n 1, 1) := by decide +kernel
theorem dX4_remember_10 : decode cX4_remember 10 = .ok (.invokevirtual 22, 3) := by decide +kernel
theorem dX4_remember_13 : decode cX4_remember 13 = .ok (.aload_n 0, 1) := by decide +kernel
theorem dX4_remember_14 : decode cX4_remember 14 = .ok (.aload_n 0, 1) := by decide +kernel
theorem dX4_remember_15 : decode cX4_remember 15 = .ok (.getfield 18, 3) := by decide +kernel
theorem dX4_remember_18 : decode cX4_remember 18 = .ok (.iconst 1, 1) := by decide +kernel
theorem dX4_remember_19 : decode cX4_remember 19 = .ok (.iadd, 1) := by decide +kernel
theorem dX4_remember_20 : decode cX4_remember 20 = .ok (.bipush 12, 2) := by decide +kernel
theorem dX4_remember_22 : decode cX4_remember 22 = .ok (.irem, 1) := by decide +kernel
theorem dX4_remember_23 : decode cX4_remember 23 = .ok (.putfield 18, 3) := by decide +kernel
theorem dX4_remember_26 : decode cX4_remember 26 = .ok (.aload_n 0, 1) := by decide +kernel
theorem dX4_remember_27 : decode cX4_remember 27 = .ok (.aload_n 0, 1) := by decide +kernel
theorem dX4_remember_28 : decode cX4_remember 28 = .ok (.getfield 26, 3) := by decide +kernel
theorem dX4_remember_31 : decode cX4_remember 31 = .ok (.iconst 1, 1) := by decide +kernel
theorem dX4_remember_32 : decode cX4_remember 32 = .ok (.iadd, 1) := by decide +kernel
theorem dX4_remember_33 : decode cX4_remember 33 = .ok (.bipush 12, 2) := by decide +kernel
theorem dX4_remember_35 : decode cX4_remember 35 = .ok (.invokestatic 29, 3) := by decide +kernel
theorem dX4_remember_38 : decode cX4_remember 38 = .ok (.putfield 26, 3) := by decide +kernel
theorem dX4_remember_41 : decode cX4_remember 41 = .ok (.return_, 1) := by decide +kernel
theorem dX4_takeBack_0 : decode cX4_takeBack 0 = .ok (.aload_n 0, 1) := by decide +kernel
theorem dX4_takeBack_1 : decode cX4_takeBack 1 = .ok (.getfield 26, 3) := by decide +kernel
theorem dX4_takeBack_4 : decode cX4_takeBack 4 = .ok (.ifCond .ne 5, 3) := by decide +kernel
theorem dX4_takeBack_7 : decode cX4_takeBack 7 = .ok (.iconst 0, 1) := by decide +kernel
theorem dX4_takeBack_8 : decode cX4_takeBack 8 = .ok (.ireturn, 1) := by decide +kernel
theorem dX4_takeBack_9 : decode cX4_takeBack 9 = .ok (.aload_n 0, 1) := by decide +kernel
theorem dX4_takeBack_10 : decode cX4_takeBack 10 = .ok (.aload_n 0, 1) := by decide +kernel
theorem dX4_takeBack_11 : decode cX4_takeBack 11 = .ok (.getfield 18, 3) := by decide +kernel
theorem dX4_takeBack_14 : decode cX4_takeBack 14 = .ok (.bipush 12, 2) := by decide +kernel
theorem dX4_takeBack_16 : decode cX4_takeBack 16 = .ok (.iadd, 1) := by decide +kernel
theorem dX4_takeBack_17 : decode cX4_takeBack 17 = .ok (.iconst 1, 1) := by decide +kernel
theorem dX4_takeBack_18 : decode cX4_takeBack 18 = .ok (.isub, 1) := by decide +kernel
theorem dX4_takeBack_19 : decode cX4_takeBack 19 = .ok (.bipush 12, 2) := by decide +kernel
theorem dX4_takeBack_21 : decode cX4_takeBack 21 = .ok (.irem, 1) := by decide +kernel
theorem dX4_takeBack_22 : decode cX4_takeBack 22 = .ok (.putfield 18, 3) := by decide +kernel
theorem dX4_takeBack_25 : decode cX4_takeBack 25 = .ok (.aload_n 0, 1) := by decide +kernel
theorem dX4_takeBack_26 : decode cX4_takeBack 26 = .ok (.dup, 1) := by decide +kernel
theorem dX4_takeBack_27 : decode cX4_takeBack 27 = .ok (.getfield 26, 3) := by decide +kernel
theorem dX4_takeBack_30 : decode cX4_takeBack 30 = .ok (.iconst 1, 1) := by decide +kernel
theorem dX4_takeBack_31 : decode cX4_takeBack 31 = .ok (.isub, 1) := by decide +kernel
theorem dX4_takeBack_32 : decode cX4_takeBack 32 = .ok (.putfield 26, 3) := by decide +kernel
theorem dX4_takeBack_35 : decode cX4_takeBack 35 = .ok (.aload_n 1, 1) := by decide +kernel
theorem dX4_takeBack_36 : decode cX4_takeBack 36 = .ok (.aload_n 0, 1) := by decide +kernel
theorem dX4_takeBack_37 : decode cX4_takeBack 37 = .ok (.getfield 11, 3) := by decide +kernel
theorem dX4_takeBack_40 : decode cX4_takeBack 40 = .ok (.aload_n 0, 1) := by decide +kernel
theorem dX4_takeBack_41 : decode cX4_takeBack 41 = .ok (.getfield 18, 3) := by decide +kernel
theorem dX4_takeBack_44 : decode cX4_takeBack 44 = .ok (.aaload, 1) := by decide +kernel
theorem dX4_takeBack_45 : decode cX4_takeBack 45 = .ok (.invokevirtual 22, 3) := by decide +kernel
theorem dX4_takeBack_48 : decode cX4_takeBack 48 = .ok (.iconst 1, 1) := by decide +kernel
theorem dX4_takeBack_49 : decode cX4_takeBack 49 = .ok (.ireturn, 1) := by decide +kernel
theorem dX4_forget_0 : decode cX4_forget 0 = .ok (.aload_n 0, 1) := by decide +kernel
theorem dX4_forget_1 : decode cX4_forget 1 = .ok (.iconst 0, 1) := by decide +kernel
theorem dX4_forget_2 : decode cX4_forget 2 = .ok (.putfield 26, 3) := by decide +kernel
theorem dX4_forget_5 : decode cX4_forget 5 = .ok (.return_, 1) := by decide +kernel
theorem dX5_init_0 : decode cX5_init 0 = .ok (.aload_n 0, 1) := by decide +kernel
theorem dX5_init_1 : decode cX5_init 1 = .ok (.invokespecial 3, 3) := by decide +kernel
theorem dX5_init_4 : decode cX5_init 4 = .ok (.aload_n 0, 1) := by decide +kernel
theorem dX5_init_5 : decode cX5_init 5 = .ok (.new 9, 3) := by decide +kernel
theorem dX5_init_8 : decode cX5_init 8 = .ok (.dup, 1) := by decide +kernel
theorem dX5_init_9 : decode cX5_init 9 = .ok (.invokespecial 11, 3) := by decide +kernel
theorem dX5_init_12 : decode cX5_init 12 = .ok (.putfield 12, 3) := by decide +kernel
theorem dX5_init_15 : decode cX5_init 15 = .ok (.return_, 1) := by decide +kernel
theorem dX5_readLine_0 : decode cX5_readLine 0 = .ok (.aload_n 0, 1) := by decide +kernel
theorem dX5_readLine_1 : decode cX5_readLine 1 = .ok (.getfield 18, 3) := by decide +kernel
theorem dX5_readLine_4 : decode cX5_readLine 4 = .ok (.invokevirtual 22, 3) := by decide +kernel
theorem dX5_readLine_7 : decode cX5_readLine 7 = .ok (.tableswitch 126 1000 1018 #[109, 126, 126, 126, 126, 121, 126, 126, 126, 126, 126, 126, 126, 89, 126, 94, 99, 104, 115], 89) := by decide +kernel
theorem dX5_readLine_96 : decode cX5_readLine 96 = .ok (.aload_n 0, 1) := by decide +kernel
theorem dX5_readLine_97 : decode cX5_readLine 97 = .ok (.invokevirtual 28, 3) := by decide +kernel
theorem dX5_readLine_100 : decode cX5_readLine 100 = .ok (.ireturn, 1) := by decide +kernel
theorem dX5_readLine_101 : decode cX5_readLine 101 = .ok (.aload_n 0, 1) := by decide +kernel
theorem dX5_readLine_102 : decode cX5_readLine 102 = .ok (.invokevirtual 32, 3) := by decide +kernel
theorem dX5_readLine_105 : decode cX5_readLine 105 = .ok (.ireturn, 1) := by decide +kernel
theorem dX5_readLine_106 : decode cX5_readLine 106 = .ok (.aload_n 0, 1) := by decide +kernel
theorem dX5_readLine_107 : decode cX5_readLine 107 = .ok (.invokevirtual 35, 3) := by decide +kernel
theorem dX5_readLine_110 : decode cX5_readLine 110 = .ok (.ireturn, 1) := by decide +kernel
theorem dX5_readLine_111 : decode cX5_readLine 111 = .ok (.aload_n 0, 1) := by decide +kernel
theorem dX5_readLine_112 : decode cX5_readLine 112 = .ok (.invokevirtual 38, 3) := by decide +kernel
theorem dX5_readLine_115 : decode cX5_readLine 115 = .ok (.ireturn, 1) := by decide +kernel
theorem dX5_readLine_116 : decode cX5_readLine 116 = .ok (.aload_n 0, 1) := by decide +kernel
theorem dX5_readLine_117 : decode cX5_readLine 117 = .ok (.iconst 1, 1) := by decide +kernel
theorem dX5_readLine_118 : decode cX5_readLine 118 = .ok (.invokevirtual 41, 3) := by decide +kernel
theorem dX5_readLine_121 : decode cX5_readLine 121 = .ok (.ireturn, 1) := by decide +kernel
theorem dX5_readLine_122 : decode cX5_readLine 122 = .ok (.aload_n 0, 1) := by decide +kernel
theorem dX5_readLine_123 : decode cX5_readLine 123 = .ok (.iconst 0, 1) := by decide +kernel
theorem dX5_readLine_124 : decode cX5_readLine 124 = .ok (.invokevirtual 41, 3) := by decide +kernel
theorem dX5_readLine_127 : decode cX5_readLine 127 = .ok (.ireturn, 1) := by decide +kernel
theorem dX5_readLine_128 : decode cX5_readLine 128 = .ok (.aload_n 0, 1) := by decide +kernel
theorem dX5_readLine_129 : decode cX5_readLine 129 = .ok (.invokevirtual 45, 3) := by decide +kernel
theorem dX5_readLine_132 : decode cX5_readLine 132 = .ok (.ireturn, 1) := by decide +kernel
theorem dX5_readLine_133 : decode cX5_readLine 133 = .ok (.aload_n 0, 1) := by decide +kernel
theorem dX5_readLine_134 : decode cX5_readLine 134 = .ok (.getfield 18, 3) := by decide +kernel
theorem dX5_readLine_137 : decode cX5_readLine 137 = .ok (.invokevirtual 48, 3) := by decide +kernel
theorem dX5_readLine_140 : decode cX5_readLine 140 = .ok (.ireturn, 1) := by decide +kernel
theorem dX5_readLetter_0 : decode cX5_readLetter 0 = .ok (.aload_n 0, 1) := by decide +kernel
theorem dX5_readLetter_1 : decode cX5_readLetter 1 = .ok (.getfield 12, 3) := by decide +kernel
theorem dX5_readLetter_4 : decode cX5_readLetter 4 = .ok (.getfield 51, 3) := by decide +kernel
theorem dX5_readLetter_7 : decode cX5_readLetter 7 = .ok (.getfield 55, 3) := by decide +kernel
theorem dX5_readLetter_10 : decode cX5_readLetter 10 = .ok (.bipush 8, 2) := by decide +kernel
theorem dX5_readLetter_12 : decode cX5_readLetter 12 = .ok (.if_icmp .lt 11, 3) := by decide +kernel
theorem dX5_readLetter_15 : decode cX5_readLetter 15 = .ok (.aload_n 0, 1) := by decide +kernel
theorem dX5_readLetter_16 : decode cX5_readLetter 16 = .ok (.getfield 18, 3) := by decide +kernel
theorem dX5_readLetter_19 : decode cX5_readLetter 19 = .ok (.invokevirtual 48, 3) := by decide +kernel
theorem dX5_readLetter_22 : decode cX5_readLetter 22 = .ok (.ireturn, 1) := by decide +kernel
theorem dX5_readLetter_23 : decode cX5_readLetter 23 = .ok (.aload_n 0, 1) := by decide +kernel
theorem dX5_readLetter_24 : decode cX5_readLetter 24 = .ok (.getfield 18, 3) := by decide +kernel
theorem dX5_readLetter_27 : decode cX5_readLetter 27 = .ok (.invokevirtual 61, 3) := by decide +kernel
theorem dX5_readLetter_30 : decode cX5_readLetter 30 = .ok (.aload_n 0, 1) := by decide +kernel
theorem dX5_readLetter_31 : decode cX5_readLetter 31 = .ok (.getfield 18, 3) := by decide +kernel
theorem dX5_readLetter_34 : decode cX5_readLetter 34 = .ok (.sipush 1014, 3) := by decide +kernel
theorem dX5_readLetter_37 : decode cX5_readLetter 37 = .ok (.invokevirtual 64, 3) := by decide +kernel
theorem dX5_readLetter_40 : decode cX5_readLetter 40 = .ok (.ifCond .eq 16, 3) := by decide +kernel
theorem dX5_readLetter_43 : decode cX5_readLetter 43 = .ok (.aload_n 0, 1) := by decide +kernel
theorem dX5_readLetter_44 : decode cX5_readLetter 44 = .ok (.getfield 18, 3) := by decide +kernel
theorem dX5_readLetter_47 : decode cX5_readLetter 47 = .ok (.iconst 0, 1) := by decide +kernel
theorem dX5_readLetter_48 : decode cX5_readLetter 48 = .ok (.bipush 9, 2) := by decide +kernel
theorem dX5_readLetter_50 : decode cX5_readLetter 50 = .ok (.invokevirtual 68, 3) := by decide +kernel
theorem dX5_readLetter_53 : decode cX5_readLetter 53 = .ok (.goto 4, 3) := by decide +kernel
theorem dX5_readLetter_56 : decode cX5_readLetter 56 = .ok (.iconst (-1), 1) := by decide +kernel
theorem dX5_readLetter_57 : decode cX5_readLetter 57 = .ok (.istore_n 1, 1) := by decide +kernel
theorem dX5_readLetter_58 : decode cX5_readLetter 58 = .ok (.iload_n 1, 1) := by decide +kernel
theorem dX5_readLetter_59 : decode cX5_readLetter 59 = .ok (.iconst (-1), 1) := by decide +kernel
theorem dX5_readLetter_60 : decode cX5_readLetter 60 = .ok (.if_icmp .ne 5, 3) := by decide +kernel
theorem dX5_readLetter_63 : decode cX5_readLetter 63 = .ok (.iconst 0, 1) := by decide +kernel
theorem dX5_readLetter_64 : decode cX5_readLetter 64 = .ok (.ireturn, 1) := by decide +kernel
theorem dX5_readLetter_65 : decode cX5_readLetter 65 = .ok (.aload_n 0, 1) := by decide +kernel
theorem dX5_readLetter_66 : decode cX5_readLetter 66 = .ok (.getfield 18, 3) := by decide +kernel
theorem dX5_readLetter_69 : decode cX5_readLetter 69 = .ok (.sipush 1003, 3) := by decide +kernel
theorem dX5_readLetter_72 : decode cX5_readLetter 72 = .ok (.invokevirtual 64, 3) := by decide +kernel
theorem dX5_readLetter_75 : decode cX5_readLetter 75 = .ok (.ifCond .eq 16, 3) := by decide +kernel
theorem dX5_readLetter_78 : decode cX5_readLetter 78 = .ok (.aload_n 0, 1) := by decide +kernel
theorem dX5_readLetter_79 : decode cX5_readLetter 79 = .ok (.getfield 18, 3) := by decide +kernel
theorem dX5_readLetter_82 : decode cX5_readLetter 82 = .ok (.iconst 0, 1) := by decide +kernel
theorem dX5_readLetter_83 : decode cX5_readLetter 83 = .ok (.bipush 9, 2) := by decide +kernel
theorem dX5_readLetter_85 : decode cX5_readLetter 85 = .ok (.invokevirtual 68, 3) := by decide +kernel
theorem dX5_readLetter_88 : decode cX5_readLetter 88 = .ok (.goto 4, 3) := by decide +kernel
theorem dX5_readLetter_91 : decode cX5_readLetter 91 = .ok (.iconst (-1), 1) := by decide +kernel
theorem dX5_readLetter_92 : decode cX5_readLetter 92 = .ok (.istore_n 2, 1) := by decide +kernel
theorem dX5_readLetter_93 : decode cX5_readLetter 93 = .ok (.iload_n 2, 1) := by decide +kernel
theorem dX5_readLetter_94 : decode cX5_readLetter 94 = .ok (.iconst (-1), 1) := by decide +kernel
theorem dX5_readLetter_95 : decode cX5_readLetter 95 = .ok (.if_icmp .ne 5, 3) := by decide +kernel
theorem dX5_readLetter_98 : decode cX5_readLetter 98 = .ok (.iconst 0, 1) := by decide +kernel
theorem dX5_readLetter_99 : decode cX5_readLetter 99 = .ok (.ireturn, 1) := by decide +kernel
theorem dX5_readLetter_100 : decode cX5_readLetter 100 = .ok (.aload_n 0, 1) := by decide +kernel
theorem dX5_readLetter_101 : decode cX5_readLetter 101 = .ok (.getfield 18, 3) := by decide +kernel
theorem dX5_readLetter_104 : decode cX5_readLetter 104 = .ok (.invokevirtual 72, 3) := by decide +kernel
theorem dX5_readLetter_107 : decode cX5_readLetter 107 = .ok (.istore_n 3, 1) := by decide +kernel
theorem dX5_readLetter_108 : decode cX5_readLetter 108 = .ok (.iload_n 3, 1) := by decide +kernel
theorem dX5_readLetter_109 : decode cX5_readLetter 109 = .ok (.ifCond .ne 11, 3) := by decide +kernel
theorem dX5_readLetter_112 : decode cX5_readLetter 112 = .ok (.aload_n 0, 1) := by decide +kernel
theorem dX5_readLetter_113 : decode cX5_readLetter 113 = .ok (.getfield 18, 3) := by decide +kernel
theorem dX5_readLetter_116 : decode cX5_readLetter 116 = .ok (.invokevirtual 48, 3) := by decide +kernel
theorem dX5_readLetter_119 : decode cX5_readLetter 119 = .ok (.ireturn, 1) := by decide +kernel
theorem dX5_readLetter_120 : decode cX5_readLetter 120 = .ok (.aload_n 0, 1) := by decide +kernel
theorem dX5_readLetter_121 : decode cX5_readLetter 121 = .ok (.getfield 12, 3) := by decide +kernel
theorem dX5_readLetter_124 : decode cX5_readLetter 124 = .ok (.getfield 51, 3) := by decide +kernel
theorem dX5_readLetter_127 : decode cX5_readLetter 127 = .ok (.getfield 75, 3) := by decide +kernel
theorem dX5_readLetter_130 : decode cX5_readLetter 130 = .ok (.aload_n 0, 1) := by decide +kernel
theorem dX5_readLetter_131 : decode cX5_readLetter 131 = .ok (.getfield 12, 3) := by decide +kernel
theorem dX5_readLetter_134 : decode cX5_readLetter 134 = .ok (.getfield 51, 3) := by decide +kernel
theorem dX5_readLetter_137 : decode cX5_readLetter 137 = .ok (.getfield 55, 3) := by decide +kernel
theorem dX5_readLetter_140 : decode cX5_readLetter 140 = .ok (.aaload, 1) := by decide +kernel
theorem dX5_readLetter_141 : decode cX5_readLetter 141 = .ok (.astore 4, 2) := by decide +kernel
theorem dX5_readLetter_143 : decode cX5_readLetter 143 = .ok (.aload 4, 2) := by decide +kernel
theorem dX5_readLetter_145 : decode cX5_readLetter 145 = .ok (.iload_n 1, 1) := by decide +kernel
theorem dX5_readLetter_146 : decode cX5_readLetter 146 = .ok (.iload_n 2, 1) := by decide +kernel
theorem dX5_readLetter_147 : decode cX5_readLetter 147 = .ok (.invokevirtual 79, 3) := by decide +kernel
theorem dX5_readLetter_150 : decode cX5_readLetter 150 = .ok (.iconst 0, 1) := by decide +kernel
theorem dX5_readLetter_151 : decode cX5_readLetter 151 = .ok (.istore 5, 2) := by decide +kernel
theorem dX5_readLetter_153 : decode cX5_readLetter 153 = .ok (.iload 5, 2) := by decide +kernel
theorem dX5_readLetter_155 : decode cX5_readLetter 155 = .ok (.iload_n 3, 1) := by decide +kernel
theorem dX5_readLetter_156 : decode cX5_readLetter 156 = .ok (.if_icmp .ge 33, 3) := by decide +kernel
theorem dX5_readLetter_159 : decode cX5_readLetter 159 = .ok (.aload 4, 2) := by decide +kernel
theorem dX5_readLetter_161 : decode cX5_readLetter 161 = .ok (.aload_n 0, 1) := by decide +kernel
theorem dX5_readLetter_162 : decode cX5_readLetter 162 = .ok (.getfield 18, 3) := by decide +kernel
theorem dX5_readLetter_165 : decode cX5_readLetter 165 = .ok (.iload 5, 2) := by decide +kernel
theorem dX5_readLetter_167 : decode cX5_readLetter 167 = .ok (.invokevirtual 85, 3) := by decide +kernel
theorem dX5_readLetter_170 : decode cX5_readLetter 170 = .ok (.aload_n 0, 1) := by decide +kernel
theorem dX5_readLetter_171 : decode cX5_readLetter 171 = .ok (.getfield 12, 3) := by decide +kernel
theorem dX5_readLetter_174 : decode cX5_readLetter 174 = .ok (.getfield 51, 3) := by decide +kernel
theorem dX5_readLetter_177 : decode cX5_readLetter 177 = .ok (.getfield 89, 3) := by decide +kernel
theorem dX5_readLetter_180 : decode cX5_readLetter 180 = .ok (.invokevirtual 92, 3) := by decide +kernel
theorem dX5_readLetter_183 : decode cX5_readLetter 183 = .ok (.iinc 5 1, 3) := by decide +kernel
theorem dX5_readLetter_186 : decode cX5_readLetter 186 = .ok (.goto (-33), 3) := by decide +kernel
theorem dX5_readLetter_189 : decode cX5_readLetter 189 = .ok (.aload_n 0, 1) := by decide +kernel
theorem dX5_readLetter_190 : decode cX5_readLetter 190 = .ok (.getfield 12, 3) := by decide +kernel
theorem dX5_readLetter_193 : decode cX5_readLetter 193 = .ok (.getfield 51, 3) := by decide +kernel
theorem dX5_readLetter_196 : decode cX5_readLetter 196 = .ok (.dup, 1) := by decide +kernel
theorem dX5_readLetter_197 : decode cX5_readLetter 197 = .ok (.getfield 55, 3) := by decide +kernel
theorem dX5_readLetter_200 : decode cX5_readLetter 200 = .ok (.iconst 1, 1) := by decide +kernel
theorem dX5_readLetter_201 : decode cX5_readLetter 201 = .ok (.iadd, 1) := by decide +kernel
theorem dX5_readLetter_202 : decode cX5_readLetter 202 = .ok (.putfield 55, 3) := by decide +kernel
theorem dX5_readLetter_205 : decode cX5_readLetter 205 = .ok (.aload_n 0, 1) := by decide +kernel
theorem dX5_readLetter_206 : decode cX5_readLetter 206 = .ok (.getfield 18, 3) := by decide +kernel
theorem dX5_readLetter_209 : decode cX5_readLetter 209 = .ok (.invokevirtual 61, 3) := by decide +kernel
theorem dX5_readLetter_212 : decode cX5_readLetter 212 = .ok (.iconst 1, 1) := by decide +kernel
theorem dX5_readLetter_213 : decode cX5_readLetter 213 = .ok (.ireturn, 1) := by decide +kernel
theorem dX5_readWords_0 : decode cX5_readWords 0 = .ok (.aload_n 0, 1) := by decide +kernel
theorem dX5_readWords_1 : decode cX5_readWords 1 = .ok (.getfield 18, 3) := by decide +kernel
theorem dX5_readWords_4 : decode cX5_readWords 4 = .ok (.invokevirtual 61, 3) := by decide +kernel
theorem dX5_readWords_7 : decode cX5_readWords 7 = .ok (.aload_n 0, 1) := by decide +kernel
theorem dX5_readWords_8 : decode cX5_readWords 8 = .ok (.getfield 18, 3) := by decide +kernel
theorem dX5_readWords_11 : decode cX5_readWords 11 = .ok (.invokevirtual 95, 3) := by decide +kernel
theorem dX5_readWords_14 : decode cX5_readWords 14 = .ok (.istore_n 1, 1) := by decide +kernel
theorem dX5_readWords_15 : decode cX5_readWords 15 = .ok (.iload_n 1, 1) := by decide +kernel
theorem dX5_readWords_16 : decode cX5_readWords 16 = .ok (.iconst (-1), 1) := by decide +kernel
theorem dX5_readWords_17 : decode cX5_readWords 17 = .ok (.if_icmp .ne 7, 3) := by decide +kernel
theorem dX5_readWords_20 : decode cX5_readWords 20 = .ok (.iconst (-1), 1) := by decide +kernel
theorem dX5_readWords_21 : decode cX5_readWords 21 = .ok (.goto 13, 3) := by decide +kernel
theorem dX5_readWords_24 : decode cX5_readWords 24 = .ok (.aload_n 0, 1) := by decide +kernel
theorem dX5_readWords_25 : decode cX5_readWords 25 = .ok (.getfield 18, 3) := by decide +kernel
theorem dX5_readWords_28 : decode cX5_readWords 28 = .ok (.iconst 1, 1) := by decide +kernel
theorem dX5_readWords_29 : decode cX5_readWords 29 = .ok (.bipush 9, 2) := by decide +kernel
theorem dX5_readWords_31 : decode cX5_readWords 31 = .ok (.invokevirtual 68, 3) := by decide +kernel
theorem dX5_readWords_34 : decode cX5_readWords 34 = .ok (.istore_n 2, 1) := by decide +kernel
theorem dX5_readWords_35 : decode cX5_readWords 35 = .ok (.iload_n 2, 1) := by decide +kernel
theorem dX5_readWords_36 : decode cX5_readWords 36 = .ok (.iconst (-1), 1) := by decide +kernel
theorem dX5_readWords_37 : decode cX5_readWords 37 = .ok (.if_icmp .ne 5, 3) := by decide +kernel
theorem dX5_readWords_40 : decode cX5_readWords 40 = .ok (.iconst 0, 1) := by decide +kernel
theorem dX5_readWords_41 : decode cX5_readWords 41 = .ok (.ireturn, 1) := by decide +kernel
theorem dX5_readWords_42 : decode cX5_readWords 42 = .ok (.aload_n 0, 1) := by decide +kernel
theorem dX5_readWords_43 : decode cX5_readWords 43 = .ok (.getfield 12, 3) := by decide +kernel
theorem dX5_readWords_46 : decode cX5_readWords 46 = .ok (.iload_n 1, 1) := by decide +kernel
theorem dX5_readWords_47 : decode cX5_readWords 47 = .ok (.iload_n 2, 1) := by decide +kernel
theorem dX5_readWords_48 : decode cX5_readWords 48 = .ok (.invokevirtual 98, 3) := by decide +kernel
theorem dX5_readWords_51 : decode cX5_readWords 51 = .ok (.iconst 1, 1) := by decide +kernel
theorem dX5_readWords_52 : decode cX5_readWords 52 = .ok (.ireturn, 1) := by decide +kernel
theorem dX5_readPromise_0 : decode cX5_readPromise 0 = .ok (.aload_n 0, 1) := by decide +kernel
theorem dX5_readPromise_1 : decode cX5_readPromise 1 = .ok (.getfield 12, 3) := by decide +kernel
theorem dX5_readPromise_4 : decode cX5_readPromise 4 = .ok (.getfield 101, 3) := by decide +kernel
theorem dX5_readPromise_7 : decode cX5_readPromise 7 = .ok (.bipush 8, 2) := by decide +kernel
theorem dX5_readPromise_9 : decode cX5_readPromise 9 = .ok (.if_icmp .lt 11, 3) := by decide +kernel
theorem dX5_readPromise_12 : decode cX5_readPromise 12 = .ok (.aload_n 0, 1) := by decide +kernel
theorem dX5_readPromise_13 : decode cX5_readPromise 13 = .ok (.getfield 18, 3) := by decide +kernel
theorem dX5_readPromise_16 : decode cX5_readPromise 16 = .ok (.invokevirtual 48, 3) := by decide +kernel
theorem dX5_readPromise_19 : decode cX5_readPromise 19 = .ok (.ireturn, 1) := by decide +kernel
theorem dX5_readPromise_20 : decode cX5_readPromise 20 = .ok (.aload_n 0, 1) := by decide +kernel
theorem dX5_readPromise_21 : decode cX5_readPromise 21 = .ok (.getfield 18, 3) := by decide +kernel
theorem dX5_readPromise_24 : decode cX5_readPromise 24 = .ok (.invokevirtual 61, 3) := by decide +kernel
theorem dX5_readPromise_27 : decode cX5_readPromise 27 = .ok (.aload_n 0, 1) := by decide +kernel
theorem dX5_readPromise_28 : decode cX5_readPromise 28 = .ok (.getfield 18, 3) := by decide +kernel
theorem dX5_readPromise_31 : decode cX5_readPromise 31 = .ok (.invokevirtual 95, 3) := by decide +kernel
theorem dX5_readPromise_34 : decode cX5_readPromise 34 = .ok (.istore_n 1, 1) := by decide +kernel
theorem dX5_readPromise_35 : decode cX5_readPromise 35 = .ok (.iload_n 1, 1) := by decide +kernel
theorem dX5_readPromise_36 : decode cX5_readPromise 36 = .ok (.iconst (-1), 1) := by decide +kernel
theorem dX5_readPromise_37 : decode cX5_readPromise 37 = .ok (.if_icmp .ne 7, 3) := by decide +kernel
theorem dX5_readPromise_40 : decode cX5_readPromise 40 = .ok (.iconst (-1), 1) := by decide +kernel
theorem dX5_readPromise_41 : decode cX5_readPromise 41 = .ok (.goto 10, 3) := by decide +kernel
theorem dX5_readPromise_44 : decode cX5_readPromise 44 = .ok (.aload_n 0, 1) := by decide +kernel
theorem dX5_readPromise_45 : decode cX5_readPromise 45 = .ok (.getfield 18, 3) := by decide +kernel
theorem dX5_readPromise_48 : decode cX5_readPromise 48 = .ok (.invokevirtual 95, 3) := by decide +kernel
theorem dX5_readPromise_51 : decode cX5_readPromise 51 = .ok (.istore_n 2, 1) := by decide +kernel
theorem dX5_readPromise_52 : decode cX5_readPromise 52 = .ok (.iload_n 2, 1) := by decide +kernel
theorem dX5_readPromise_53 : decode cX5_readPromise 53 = .ok (.iconst (-1), 1) := by decide +kernel
theorem dX5_readPromise_54 : decode cX5_readPromise 54 = .ok (.if_icmp .ne 5, 3) := by decide +kernel
theorem dX5_readPromise_57 : decode cX5_readPromise 57 = .ok (.iconst 0, 1) := by decide +kernel
theorem dX5_readPromise_58 : decode cX5_readPromise 58 = .ok (.ireturn, 1) := by decide +kernel
theorem dX5_readPromise_59 : decode cX5_readPromise 59 = .ok (.aload_n 0, 1) := by decide +kernel
theorem dX5_readPromise_60 : decode cX5_readPromise 60 = .ok (.getfield 12, 3) := by decide +kernel
theorem dX5_readPromise_63 : decode cX5_readPromise 63 = .ok (.iload_n 1, 1) := by decide +kernel
theorem dX5_readPromise_64 : decode cX5_readPromise 64 = .ok (.iload_n 2, 1) := by decide +kernel
theorem dX5_readPromise_65 : decode cX5_readPromise 65 = .ok (.invokevirtual 104, 3) := by decide +kernel
theorem dX5_readPromise_68 : decode cX5_readPromise 68 = .ok (.iconst 1, 1) := by decide +kernel
theorem dX5_readPromise_69 : decode cX5_readPromise 69 = .ok (.ireturn, 1) := by decide +kernel
theorem dX5_readSlip_0 : decode cX5_readSlip 0 = .ok (.aload_n 0, 1) := by decide +kernel
theorem dX5_readSlip_1 : decode cX5_readSlip 1 = .ok (.getfield 18, 3) := by decide +kernel
theorem dX5_readSlip_4 : decode cX5_readSlip 4 = .ok (.invokevirtual 61, 3) := by decide +kernel
theorem dX5_readSlip_7 : decode cX5_readSlip 7 = .ok (.aload_n 0, 1) := by decide +kernel
theorem dX5_readSlip_8 : decode cX5_readSlip 8 = .ok (.getfield 18, 3) := by decide +kernel
theorem dX5_readSlip_11 : decode cX5_readSlip 11 = .ok (.iconst 0, 1) := by decide +kernel
theorem dX5_readSlip_12 : decode cX5_readSlip 12 = .ok (.bipush 100, 2) := by decide +kernel
theorem dX5_readSlip_14 : decode cX5_readSlip 14 = .ok (.invokevirtual 68, 3) := by decide +kernel
theorem dX5_readSlip_17 : decode cX5_readSlip 17 = .ok (.istore_n 1, 1) := by decide +kernel
theorem dX5_readSlip_18 : decode cX5_readSlip 18 = .ok (.iload_n 1, 1) := by decide +kernel
theorem dX5_readSlip_19 : decode cX5_readSlip 19 = .ok (.iconst (-1), 1) := by decide +kernel
theorem dX5_readSlip_20 : decode cX5_readSlip 20 = .ok (.if_icmp .ne 5, 3) := by decide +kernel
theorem dX5_readSlip_23 : decode cX5_readSlip 23 = .ok (.iconst 0, 1) := by decide +kernel
theorem dX5_readSlip_24 : decode cX5_readSlip 24 = .ok (.ireturn, 1) := by decide +kernel
theorem dX5_readSlip_25 : decode cX5_readSlip 25 = .ok (.aload_n 0, 1) := by decide +kernel
theorem dX5_readSlip_26 : decode cX5_readSlip 26 = .ok (.getfield 12, 3) := by decide +kernel
theorem dX5_readSlip_29 : decode cX5_readSlip 29 = .ok (.iload_n 1, 1) := by decide +kernel
theorem dX5_readSlip_30 : decode cX5_readSlip 30 = .ok (.putfield 107, 3) := by decide +kernel
theorem dX5_readSlip_33 : decode cX5_readSlip 33 = .ok (.iconst 1, 1) := by decide +kernel
theorem dX5_readSlip_34 : decode cX5_readSlip 34 = .ok (.ireturn, 1) := by decide +kernel
theorem dX5_readState_0 : decode cX5_readState 0 = .ok (.aload_n 0, 1) := by decide +kernel
theorem dX5_readState_1 : decode cX5_readState 1 = .ok (.getfield 18, 3) := by decide +kernel
theorem dX5_readState_4 : decode cX5_readState 4 = .ok (.invokevirtual 61, 3) := by decide +kernel
theorem dX5_readState_7 : decode cX5_readState 7 = .ok (.aload_n 0, 1) := by decide +kernel
theorem dX5_readState_8 : decode cX5_readState 8 = .ok (.getfield 18, 3) := by decide +kernel
theorem dX5_readState_11 : decode cX5_readState 11 = .ok (.iconst 0, 1) := by decide +kernel
theorem dX5_readState_12 : decode cX5_readState 12 = .ok (.aload_n 0, 1) := by decide +kernel
theorem dX5_readState_13 : decode cX5_readState 13 = .ok (.getfield 12, 3) := by decide +kernel
theorem dX5_readState_16 : decode cX5_readState 16 = .ok (.getfield 51, 3) := by decide +kernel
theorem dX5_readState_19 : decode cX5_readState 19 = .ok (.getfield 55, 3) := by decide +kernel
theorem dX5_readState_22 : decode cX5_readState 22 = .ok (.iconst 1, 1) := by decide +kernel
theorem dX5_readState_23 : decode cX5_readState 23 = .ok (.isub, 1) := by decide +kernel
theorem dX5_readState_24 : decode cX5_readState 24 = .ok (.invokevirtual 68, 3) := by decide +kernel
theorem dX5_readState_27 : decode cX5_readState 27 = .ok (.istore_n 2, 1) := by decide +kernel
theorem dX5_readState_28 : decode cX5_readState 28 = .ok (.iload_n 2, 1) := by decide +kernel
theorem dX5_readState_29 : decode cX5_readState 29 = .ok (.ifCond .lt 17, 3) := by decide +kernel
theorem dX5_readState_32 : decode cX5_readState 32 = .ok (.iload_n 2, 1) := by decide +kernel
theorem dX5_readState_33 : decode cX5_readState 33 = .ok (.aload_n 0, 1) := by decide +kernel
theorem dX5_readState_34 : decode cX5_readState 34 = .ok (.getfield 12, 3) := by decide +kernel
theorem dX5_readState_37 : decode cX5_readState 37 = .ok (.getfield 51, 3) := by decide +kernel
theorem dX5_readState_40 : decode cX5_readState 40 = .ok (.getfield 55, 3) := by decide +kernel
theorem dX5_readState_43 : decode cX5_readState 43 = .ok (.if_icmp .lt 5, 3) := by decide +kernel
theorem dX5_readState_46 : decode cX5_readState 46 = .ok (.iconst 0, 1) := by decide +kernel
theorem dX5_readState_47 : decode cX5_readState 47 = .ok (.ireturn, 1) := by decide +kernel
theorem dX5_readState_48 : decode cX5_readState 48 = .ok (.iload_n 1, 1) := by decide +kernel
theorem dX5_readState_49 : decode cX5_readState 49 = .ok (.ifCond .eq 22, 3) := by decide +kernel
theorem dX5_readState_52 : decode cX5_readState 52 = .ok (.aload_n 0, 1) := by decide +kernel
theorem dX5_readState_53 : decode cX5_readState 53 = .ok (.getfield 12, 3) := by decide +kernel
theorem dX5_readState_56 : decode cX5_readState 56 = .ok (.getfield 51, 3) := by decide +kernel
theorem dX5_readState_59 : decode cX5_readState 59 = .ok (.getfield 75, 3) := by decide +kernel
theorem dX5_readState_62 : decode cX5_readState 62 = .ok (.iload_n 2, 1) := by decide +kernel
theorem dX5_readState_63 : decode cX5_readState 63 = .ok (.aaload, 1) := by decide +kernel
theorem dX5_readState_64 : decode cX5_readState 64 = .ok (.iconst 1, 1) := by decide +kernel
theorem dX5_readState_65 : decode cX5_readState 65 = .ok (.putfield 110, 3) := by decide +kernel
theorem dX5_readState_68 : decode cX5_readState 68 = .ok (.goto 19, 3) := by decide +kernel
theorem dX5_readState_71 : decode cX5_readState 71 = .ok (.aload_n 0, 1) := by decide +kernel
theorem dX5_readState_72 : decode cX5_readState 72 = .ok (.getfield 12, 3) := by decide +kernel
theorem dX5_readState_75 : decode cX5_readState 75 = .ok (.getfield 51, 3) := by decide +kernel
theorem dX5_readState_78 : decode cX5_readState 78 = .ok (.getfield 75, 3) := by decide +kernel
theorem dX5_readState_81 : decode cX5_readState 81 = .ok (.iload_n 2, 1) := by decide +kernel
theorem dX5_readState_82 : decode cX5_readState 82 = .ok (.aaload, 1) := by decide +kernel
theorem dX5_readState_83 : decode cX5_readState 83 = .ok (.iconst 1, 1) := by decide +kernel
theorem dX5_readState_84 : decode cX5_readState 84 = .ok (.putfield 114, 3) := by decide +kernel
theorem dX5_readState_87 : decode cX5_readState 87 = .ok (.iconst 1, 1) := by decide +kernel
theorem dX5_readState_88 : decode cX5_readState 88 = .ok (.ireturn, 1) := by decide +kernel
theorem dX5_readWeek_0 : decode cX5_readWeek 0 = .ok (.aload_n 0, 1) := by decide +kernel
theorem dX5_readWeek_1 : decode cX5_readWeek 1 = .ok (.getfield 18, 3) := by decide +kernel
theorem dX5_readWeek_4 : decode cX5_readWeek 4 = .ok (.invokevirtual 61, 3) := by decide +kernel
theorem dX5_readWeek_7 : decode cX5_readWeek 7 = .ok (.aload_n 0, 1) := by decide +kernel
theorem dX5_readWeek_8 : decode cX5_readWeek 8 = .ok (.getfield 18, 3) := by decide +kernel
theorem dX5_readWeek_11 : decode cX5_readWeek 11 = .ok (.aload_n 0, 1) := by decide +kernel
theorem dX5_readWeek_12 : decode cX5_readWeek 12 = .ok (.getfield 12, 3) := by decide +kernel
theorem dX5_readWeek_15 : decode cX5_readWeek 15 = .ok (.getfield 51, 3) := by decide +kernel
theorem dX5_readWeek_18 : decode cX5_readWeek 18 = .ok (.getfield 89, 3) := by decide +kernel
theorem dX5_readWeek_21 : decode cX5_readWeek 21 = .ok (.sipush 999, 3) := by decide +kernel
theorem dX5_readWeek_24 : decode cX5_readWeek 24 = .ok (.invokevirtual 68, 3) := by decide +kernel
theorem dX5_readWeek_27 : decode cX5_readWeek 27 = .ok (.istore_n 1, 1) := by decide +kernel
theorem dX5_readWeek_28 : decode cX5_readWeek 28 = .ok (.iload_n 1, 1) := by decide +kernel
theorem dX5_readWeek_29 : decode cX5_readWeek 29 = .ok (.iconst (-1), 1) := by decide +kernel
theorem dX5_readWeek_30 : decode cX5_readWeek 30 = .ok (.if_icmp .ne 5, 3) := by decide +kernel
theorem dX5_readWeek_33 : decode cX5_readWeek 33 = .ok (.iconst 0, 1) := by decide +kernel
theorem dX5_readWeek_34 : decode cX5_readWeek 34 = .ok (.ireturn, 1) := by decide +kernel
theorem dX5_readWeek_35 : decode cX5_readWeek 35 = .ok (.aload_n 0, 1) := by decide +kernel
theorem dX5_readWeek_36 : decode cX5_readWeek 36 = .ok (.getfield 12, 3) := by decide +kernel
theorem dX5_readWeek_39 : decode cX5_readWeek 39 = .ok (.getfield 51, 3) := by decide +kernel
theorem dX5_readWeek_42 : decode cX5_readWeek 42 = .ok (.iload_n 1, 1) := by decide +kernel
theorem dX5_readWeek_43 : decode cX5_readWeek 43 = .ok (.putfield 89, 3) := by decide +kernel
theorem dX5_readWeek_46 : decode cX5_readWeek 46 = .ok (.iconst 1, 1) := by decide +kernel
theorem dX5_readWeek_47 : decode cX5_readWeek 47 = .ok (.ireturn, 1) := by decide +kernel
theorem dX6_init_0 : decode cX6_init 0 = .ok (.aload_n 0, 1) := by decide +kernel
theorem dX6_init_1 : decode cX6_init 1 = .ok (.invokespecial 3, 3) := by decide +kernel
theorem dX6_init_4 : decode cX6_init 4 = .ok (.aload_n 0, 1) := by decide +kernel
theorem dX6_init_5 : decode cX6_init 5 = .ok (.sipush 256, 3) := by decide +kernel
theorem dX6_init_8 : decode cX6_init 8 = .ok (.newarray .int, 2) := by decide +kernel
theorem dX6_init_10 : decode cX6_init 10 = .ok (.putfield 9, 3) := by decide +kernel
theorem dX6_init_13 : decode cX6_init 13 = .ok (.aload_n 0, 1) := by decide +kernel
theorem dX6_init_14 : decode cX6_init 14 = .ok (.sipush 256, 3) := by decide +kernel
theorem dX6_init_17 : decode cX6_init 17 = .ok (.newarray .int, 2) := by decide +kernel
theorem dX6_init_19 : decode cX6_init 19 = .ok (.putfield 15, 3) := by decide +kernel
theorem dX6_init_22 : decode cX6_init 22 = .ok (.return_, 1) := by decide +kernel
theorem dX6_clear_0 : decode cX6_clear 0 = .ok (.aload_n 0, 1) := by decide +kernel
theorem dX6_clear_1 : decode cX6_clear 1 = .ok (.iconst 0, 1) := by decide +kernel
theorem dX6_clear_2 : decode cX6_clear 2 = .ok (.putfield 18, 3) := by decide +kernel
theorem dX6_clear_5 : decode cX6_clear 5 = .ok (.return_, 1) := by decide +kernel
theorem dX6_add_0 : decode cX6_add 0 = .ok (.aload_n 0, 1) := by decide +kernel
theorem dX6_add_1 : decode cX6_add 1 = .ok (.getfield 18, 3) := by decide +kernel
theorem dX6_add_4 : decode cX6_add 4 = .ok (.bipush 8, 2) := by decide +kernel
theorem dX6_add_6 : decode cX6_add 6 = .ok (.if_icmp .lt 4, 3) := by decide +kernel
theorem dX6_add_9 : decode cX6_add 9 = .ok (.return_, 1) := by decide +kernel
theorem dX6_add_10 : decode cX6_add 10 = .ok (.iconst 1, 1) := by decide +kernel
theorem dX6_add_11 : decode cX6_add 11 = .ok (.aload_n 0, 1) := by decide +kernel
theorem dX6_add_12 : decode cX6_add 12 = .ok (.getfield 18, 3) := by decide +kernel
theorem dX6_add_15 : decode cX6_add 15 = .ok (.ishl, 1) := by decide +kernel
theorem dX6_add_16 : decode cX6_add 16 = .ok (.istore_n 2, 1) := by decide +kernel
theorem dX6_add_17 : decode cX6_add 17 = .ok (.iconst 0, 1) := by decide +kernel
theorem dX6_add_18 : decode cX6_add 18 = .ok (.istore_n 3, 1) := by decide +kernel
theorem dX6_add_19 : decode cX6_add 19 = .ok (.iload_n 3, 1) := by decide +kernel
theorem dX6_add_20 : decode cX6_add 20 = .ok (.iload_n 2, 1) := by decide +kernel
theorem dX6_add_21 : decode cX6_add 21 = .ok (.if_icmp .ge 25, 3) := by decide +kernel
theorem dX6_add_24 : decode cX6_add 24 = .ok (.aload_n 0, 1) := by decide +kernel
theorem dX6_add_25 : decode cX6_add 25 = .ok (.getfield 9, 3) := by decide +kernel
theorem dX6_add_28 : decode cX6_add 28 = .ok (.iload_n 2, 1) := by decide +kernel
theorem dX6_add_29 : decode cX6_add 29 = .ok (.iload_n 3, 1) := by decide +kernel
theorem dX6_add_30 : decode cX6_add 30 = .ok (.iadd, 1) := by decide +kernel
theorem dX6_add_31 : decode cX6_add 31 = .ok (.aload_n 0, 1) := by decide +kernel
theorem dX6_add_32 : decode cX6_add 32 = .ok (.getfield 9, 3) := by decide +kernel
theorem dX6_add_35 : decode cX6_add 35 = .ok (.iload_n 3, 1) := by decide +kernel
theorem dX6_add_36 : decode cX6_add 36 = .ok (.iaload, 1) := by decide +kernel
theorem dX6_add_37 : decode cX6_add 37 = .ok (.iload_n 1, 1) := by decide +kernel
theorem dX6_add_38 : decode cX6_add 38 = .ok (.iadd, 1) := by decide +kernel
theorem dX6_add_39 : decode cX6_add 39 = .ok (.iastore, 1) := by decide +kernel
theorem dX6_add_40 : decode cX6_add 40 = .ok (.iinc 3 1, 3) := by decide +kernel
theorem dX6_add_43 : decode cX6_add 43 = .ok (.goto (-24), 3) := by decide +kernel
theorem dX6_add_46 : decode cX6_add 46 = .ok (.aload_n 0, 1) := by decide +kernel
theorem dX6_add_47 : decode cX6_add 47 = .ok (.dup, 1) := by decide +kernel
theorem dX6_add_48 : decode cX6_add 48 = .ok (.getfield 18, 3) := by decide +kernel
theorem dX6_add_51 : decode cX6_add 51 = .ok (.iconst 1, 1) := by decide +kernel
theorem dX6_add_52 : decode cX6_add 52 = .ok (.iadd, 1) := by decide +kernel
theorem dX6_add_53 : decode cX6_add 53 = .ok (.putfield 18, 3) := by decide +kernel
theorem dX6_add_56 : decode cX6_add 56 = .ok (.return_, 1) := by decide +kernel
theorem dX6_mostOnOne_0 : decode cX6_mostOnOne 0 = .ok (.iconst 0, 1) := by decide +kernel
theorem dX6_mostOnOne_1 : decode cX6_mostOnOne 1 = .ok (.istore_n 2, 1) := by decide +kernel
theorem dX6_mostOnOne_2 : decode cX6_mostOnOne 2 = .ok (.iconst 0, 1) := by decide +kernel
theorem dX6_mostOnOne_3 : decode cX6_mostOnOne 3 = .ok (.istore_n 3, 1) := by decide +kernel
theorem dX6_mostOnOne_4 : decode cX6_mostOnOne 4 = .ok (.iload_n 3, 1) := by decide +kernel
theorem dX6_mostOnOne_5 : decode cX6_mostOnOne 5 = .ok (.iconst 1, 1) := by decide +kernel
theorem dX6_mostOnOne_6 : decode cX6_mostOnOne 6 = .ok (.aload_n 0, 1) := by decide +kernel
theorem dX6_mostOnOne_7 : decode cX6_mostOnOne 7 = .ok (.getfield 18, 3) := by decide +kernel
theorem dX6_mostOnOne_10 : decode cX6_mostOnOne 10 = .ok (.ishl, 1) := by decide +kernel
theorem dX6_mostOnOne_11 : decode cX6_mostOnOne 11 = .ok (.if_icmp .ge 28, 3) := by decide +kernel
theorem dX6_mostOnOne_14 : decode cX6_mostOnOne 14 = .ok (.aload_n 0, 1) := by decide +kernel
theorem dX6_mostOnOne_15 : decode cX6_mostOnOne 15 = .ok (.getfield 9, 3) := by decide +kernel
theorem dX6_mostOnOne_18 : decode cX6_mostOnOne 18 = .ok (.iload_n 3, 1) := by decide +kernel
theorem dX6_mostOnOne_19 : decode cX6_mostOnOne 19 = .ok (.iaload, 1) := by decide +kernel
theorem dX6_mostOnOne_20 : decode cX6_mostOnOne 20 = .ok (.iload_n 1, 1) := by decide +kernel
theorem dX6_mostOnOne_21 : decode cX6_mostOnOne 21 = .ok (.if_icmp .gt 12, 3) := by decide +kernel
theorem dX6_mostOnOne_24 : decode cX6_mostOnOne 24 = .ok (.iload_n 2, 1) := by decide +kernel
theorem dX6_mostOnOne_25 : decode cX6_mostOnOne 25 = .ok (.iload_n 3, 1) := by decide +kernel
theorem dX6_mostOnOne_26 : decode cX6_mostOnOne 26 = .ok (.invokestatic 22, 3) := by decide +kernel
theorem dX6_mostOnOne_29 : decode cX6_mostOnOne 29 = .ok (.invokestatic 28, 3) := by decide +kernel
theorem dX6_mostOnOne_32 : decode cX6_mostOnOne 32 = .ok (.istore_n 2, 1) := by decide +kernel
theorem dX6_mostOnOne_33 : decode cX6_mostOnOne 33 = .ok (.iinc 3 1, 3) := by decide +kernel
theorem dX6_mostOnOne_36 : decode cX6_mostOnOne 36 = .ok (.goto (-32), 3) := by decide +kernel
theorem dX6_mostOnOne_39 : decode cX6_mostOnOne 39 = .ok (.iload_n 2, 1) := by decide +kernel
theorem dX6_mostOnOne_40 : decode cX6_mostOnOne 40 = .ok (.ireturn, 1) := by decide +kernel
theorem dX6_fewestShelves_0 : decode cX6_fewestShelves 0 = .ok (.iconst 1, 1) := by decide +kernel
theorem dX6_fewestShelves_1 : decode cX6_fewestShelves 1 = .ok (.aload_n 0, 1) := by decide +kernel
theorem dX6_fewestShelves_2 : decode cX6_fewestShelves 2 = .ok (.getfield 18, 3) := by decide +kernel
theorem dX6_fewestShelves_5 : decode cX6_fewestShelves 5 = .ok (.ishl, 1) := by decide +kernel
theorem dX6_fewestShelves_6 : decode cX6_fewestShelves 6 = .ok (.istore_n 2, 1) := by decide +kernel
theorem dX6_fewestShelves_7 : decode cX6_fewestShelves 7 = .ok (.iconst 1, 1) := by decide +kernel
theorem dX6_fewestShelves_8 : decode cX6_fewestShelves 8 = .ok (.istore_n 3, 1) := by decide +kernel
theorem dX6_fewestShelves_9 : decode cX6_fewestShelves 9 = .ok (.iload_n 3, 1) := by decide +kernel
theorem dX6_fewestShelves_10 : decode cX6_fewestShelves 10 = .ok (.iload_n 2, 1) := by decide +kernel
theorem dX6_fewestShelves_11 : decode cX6_fewestShelves 11 = .ok (.if_icmp .ge 108, 3) := by decide +kernel
theorem dX6_fewestShelves_14 : decode cX6_fewestShelves 14 = .ok (.aload_n 0, 1) := by decide +kernel
theorem dX6_fewestShelves_15 : decode cX6_fewestShelves 15 = .ok (.getfield 15, 3) := by decide +kernel
theorem dX6_fewestShelves_18 : decode cX6_fewestShelves 18 = .ok (.iload_n 3, 1) := by decide +kernel
theorem dX6_fewestShelves_19 : decode cX6_fewestShelves 19 = .ok (.iconst (-1), 1) := by decide +kernel
theorem dX6_fewestShelves_20 : decode cX6_fewestShelves 20 = .ok (.iastore, 1) := by decide +kernel
theorem dX6_fewestShelves_21 : decode cX6_fewestShelves 21 = .ok (.iload_n 3, 1) := by decide +kernel
theorem dX6_fewestShelves_22 : decode cX6_fewestShelves 22 = .ok (.istore 4, 2) := by decide +kernel
theorem dX6_fewestShelves_24 : decode cX6_fewestShelves 24 = .ok (.iload 4, 2) := by decide +kernel
theorem dX6_fewestShelves_26 : decode cX6_fewestShelves 26 = .ok (.ifCond .le 87, 3) := by decide +kernel
theorem dX6_fewestShelves_29 : decode cX6_fewestShelves 29 = .ok (.aload_n 0, 1) := by decide +kernel
theorem dX6_fewestShelves_30 : decode cX6_fewestShelves 30 = .ok (.getfield 15, 3) := by decide +kernel
theorem dX6_fewestShelves_33 : decode cX6_fewestShelves 33 = .ok (.iload_n 3, 1) := by decide +kernel
theorem dX6_fewestShelves_34 : decode cX6_fewestShelves 34 = .ok (.iload 4, 2) := by decide +kernel
theorem dX6_fewestShelves_36 : decode cX6_fewestShelves 36 = .ok (.isub, 1) := by decide +kernel
theorem dX6_fewestShelves_37 : decode cX6_fewestShelves 37 = .ok (.iaload, 1) := by decide +kernel
theorem dX6_fewestShelves_38 : decode cX6_fewestShelves 38 = .ok (.istore 5, 2) := by decide +kernel
theorem dX6_fewestShelves_40 : decode cX6_fewestShelves 40 = .ok (.aload_n 0, 1) := by decide +kernel
theorem dX6_fewestShelves_41 : decode cX6_fewestShelves 41 = .ok (.getfield 9, 3) := by decide +kernel
theorem dX6_fewestShelves_44 : decode cX6_fewestShelves 44 = .ok (.iload 4, 2) := by decide +kernel
theorem dX6_fewestShelves_46 : decode cX6_fewestShelves 46 = .ok (.iaload, 1) := by decide +kernel
theorem dX6_fewestShelves_47 : decode cX6_fewestShelves 47 = .ok (.iload_n 1, 1) := by decide +kernel
theorem dX6_fewestShelves_48 : decode cX6_fewestShelves 48 = .ok (.if_icmp .gt 13, 3) := by decide +kernel
theorem dX6_fewestShelves_51 : decode cX6_fewestShelves 51 = .ok (.iload 5, 2) := by decide +kernel
theorem dX6_fewestShelves_53 : decode cX6_fewestShelves 53 = .ok (.iconst (-1), 1) := by decide +kernel
theorem dX6_fewestShelves_54 : decode cX6_fewestShelves 54 = .ok (.if_icmp .eq 7, 3) := by decide +kernel
theorem dX6_fewestShelves_57 : decode cX6_fewestShelves 57 = .ok (.iconst 1, 1) := by decide +kernel
theorem dX6_fewestShelves_58 : decode cX6_fewestShelves 58 = .ok (.goto 4, 3) := by decide +kernel
theorem dX6_fewestShelves_61 : decode cX6_fewestShelves 61 = .ok (.iconst 0, 1) := by decide +kernel
theorem dX6_fewestShelves_62 : decode cX6_fewestShelves 62 = .ok (.istore 6, 2) := by decide +kernel
theorem dX6_fewestShelves_64 : decode cX6_fewestShelves 64 = .ok (.iload 6, 2) := by decide +kernel
theorem dX6_fewestShelves_66 : decode cX6_fewestShelves 66 = .ok (.ifCond .eq 36, 3) := by decide +kernel
theorem dX6_fewestShelves_69 : decode cX6_fewestShelves 69 = .ok (.aload_n 0, 1) := by decide +kernel
theorem dX6_fewestShelves_70 : decode cX6_fewestShelves 70 = .ok (.getfield 15, 3) := by decide +kernel
theorem dX6_fewestShelves_73 : decode cX6_fewestShelves 73 = .ok (.iload_n 3, 1) := by decide +kernel
theorem dX6_fewestShelves_74 : decode cX6_fewestShelves 74 = .ok (.iaload, 1) := by decide +kernel
theorem dX6_fewestShelves_75 : decode cX6_fewestShelves 75 = .ok (.iconst (-1), 1) := by decide +kernel
theorem dX6_fewestShelves_76 : decode cX6_fewestShelves 76 = .ok (.if_icmp .eq 16, 3) := by decide +kernel
theorem dX6_fewestShelves_79 : decode cX6_fewestShelves 79 = .ok (.iload 5, 2) := by decide +kernel
theorem dX6_fewestShelves_81 : decode cX6_fewestShelves 81 = .ok (.iconst 1, 1) := by decide +kernel
theorem dX6_fewestShelves_82 : decode cX6_fewestShelves 82 = .ok (.iadd, 1) := by decide +kernel
theorem dX6_fewestShelves_83 : decode cX6_fewestShelves 83 = .ok (.aload_n 0, 1) := by decide +kernel
theorem dX6_fewestShelves_84 : decode cX6_fewestShelves 84 = .ok (.getfield 15, 3) := by decide +kernel
theorem dX6_fewestShelves_87 : decode cX6_fewestShelves 87 = .ok (.iload_n 3, 1) := by decide +kernel
theorem dX6_fewestShelves_88 : decode cX6_fewestShelves 88 = .ok (.iaload, 1) := by decide +kernel
theorem dX6_fewestShelves_89 : decode cX6_fewestShelves 89 = .ok (.if_icmp .ge 13, 3) := by decide +kernel
theorem dX6_fewestShelves_92 : decode cX6_fewestShelves 92 = .ok (.aload_n 0, 1) := by decide +kernel
theorem dX6_fewestShelves_93 : decode cX6_fewestShelves 93 = .ok (.getfield 15, 3) := by decide +kernel
theorem dX6_fewestShelves_96 : decode cX6_fewestShelves 96 = .ok (.iload_n 3, 1) := by decide +kernel
theorem dX6_fewestShelves_97 : decode cX6_fewestShelves 97 = .ok (.iload 5, 2) := by decide +kernel
theorem dX6_fewestShelves_99 : decode cX6_fewestShelves 99 = .ok (.iconst 1, 1) := by decide +kernel
theorem dX6_fewestShelves_100 : decode cX6_fewestShelves 100 = .ok (.iadd, 1) := by decide +kernel
theorem dX6_fewestShelves_101 : decode cX6_fewestShelves 101 = .ok (.iastore, 1) := by decide +kernel
theorem dX6_fewestShelves_102 : decode cX6_fewestShelves 102 = .ok (.iload 4, 2) := by decide +kernel
theorem dX6_fewestShelves_104 : decode cX6_fewestShelves 104 = .ok (.iconst 1, 1) := by decide +kernel
theorem dX6_fewestShelves_105 : decode cX6_fewestShelves 105 = .ok (.isub, 1) := by decide +kernel
theorem dX6_fewestShelves_106 : decode cX6_fewestShelves 106 = .ok (.iload_n 3, 1) := by decide +kernel
theorem dX6_fewestShelves_107 : decode cX6_fewestShelves 107 = .ok (.iand, 1) := by decide +kernel
theorem dX6_fewestShelves_108 : decode cX6_fewestShelves 108 = .ok (.istore 4, 2) := by decide +kernel
theorem dX6_fewestShelves_110 : decode cX6_fewestShelves 110 = .ok (.goto (-86), 3) := by decide +kernel
theorem dX6_fewestShelves_113 : decode cX6_fewestShelves 113 = .ok (.iinc 3 1, 3) := by decide +kernel
theorem dX6_fewestShelves_116 : decode cX6_fewestShelves 116 = .ok (.goto (-107), 3) := by decide +kernel
theorem dX6_fewestShelves_119 : decode cX6_fewestShelves 119 = .ok (.aload_n 0, 1) := by decide +kernel
theorem dX6_fewestShelves_120 : decode cX6_fewestShelves 120 = .ok (.getfield 15, 3) := by decide +kernel
theorem dX6_fewestShelves_123 : decode cX6_fewestShelves 123 = .ok (.iload_n 2, 1) := by decide +kernel
theorem dX6_fewestShelves_124 : decode cX6_fewestShelves 124 = .ok (.iconst 1, 1) := by decide +kernel
theorem dX6_fewestShelves_125 : decode cX6_fewestShelves 125 = .ok (.isub, 1) := by decide +kernel
theorem dX6_fewestShelves_126 : decode cX6_fewestShelves 126 = .ok (.iaload, 1) := by decide +kernel
theorem dX6_fewestShelves_127 : decode cX6_fewestShelves 127 = .ok (.ireturn, 1) := by decide +kernel
theorem dX7_init_0 : decode cX7_init 0 = .ok (.aload_n 0, 1) := by decide +kernel
theorem dX7_init_1 : decode cX7_init 1 = .ok (.invokespecial 3, 3) := by decide +kernel
theorem dX7_init_4 : decode cX7_init 4 = .ok (.aload_n 0, 1) := by decide +kernel
theorem dX7_init_5 : decode cX7_init 5 = .ok (.new 9, 3) := by decide +kernel
theorem dX7_init_8 : decode cX7_init 8 = .ok (.dup, 1) := by decide +kernel
theorem dX7_init_9 : decode cX7_init 9 = .ok (.invokespecial 11, 3) := by decide +kernel
theorem dX7_init_12 : decode cX7_init 12 = .ok (.putfield 12, 3) := by decide +kernel
theorem dX7_init_15 : decode cX7_init 15 = .ok (.aload_n 0, 1) := by decide +kernel
theorem dX7_init_16 : decode cX7_init 16 = .ok (.iconst (-1), 1) := by decide +kernel
theorem dX7_init_17 : decode cX7_init 17 = .ok (.putfield 18, 3) := by decide +kernel
theorem dX7_init_20 : decode cX7_init 20 = .ok (.return_, 1) := by decide +kernel
theorem dX7_look_0 : decode cX7_look 0 = .ok (.aload_n 0, 1) := by decide +kernel
theorem dX7_look_1 : decode cX7_look 1 = .ok (.getfield 12, 3) := by decide +kernel
theorem dX7_look_4 : decode cX7_look 4 = .ok (.aload_n 1, 1) := by decide +kernel
theorem dX7_look_5 : decode cX7_look 5 = .ok (.invokevirtual 22, 3) := by decide +kernel
theorem dX7_look_8 : decode cX7_look 8 = .ok (.aload_n 0, 1) := by decide +kernel
theorem dX7_look_9 : decode cX7_look 9 = .ok (.iload_n 2, 1) := by decide +kernel
theorem dX7_look_10 : decode cX7_look 10 = .ok (.putfield 26, 3) := by decide +kernel
theorem dX7_look_13 : decode cX7_look 13 = .ok (.aload_n 0, 1) := by decide +kernel
theorem dX7_look_14 : decode cX7_look 14 = .ok (.iconst (-1), 1) := by decide +kernel
theorem dX7_look_15 : decode cX7_look 15 = .ok (.putfield 18, 3) := by decide +kernel
theorem dX7_look_18 : decode cX7_look 18 = .ok (.return_, 1) := by decide +kernel
theorem dX7_lookAtRow_0 : decode cX7_lookAtRow 0 = .ok (.aload_n 0, 1) := by decide +kernel
theorem dX7_lookAtRow_1 : decode cX7_lookAtRow 1 = .ok (.getfield 12, 3) := by decide +kernel
theorem dX7_lookAtRow_4 : decode cX7_lookAtRow 4 = .ok (.iload_n 2, 1) := by decide +kernel
theorem dX7_lookAtRow_5 : decode cX7_lookAtRow 5 = .ok (.iload_n 3, 1) := by decide +kernel
theorem dX7_lookAtRow_6 : decode cX7_lookAtRow 6 = .ok (.invokevirtual 29, 3) := by decide +kernel
theorem dX7_lookAtRow_9 : decode cX7_lookAtRow 9 = .ok (.iload_n 1, 1) := by decide +kernel
theorem dX7_lookAtRow_10 : decode cX7_lookAtRow 10 = .ok (.bipush 12, 2) := by decide +kernel
theorem dX7_lookAtRow_12 : decode cX7_lookAtRow 12 = .ok (.if_icmp .lt 18, 3) := by decide +kernel
theorem dX7_lookAtRow_15 : decode cX7_lookAtRow 15 = .ok (.aload_n 0, 1) := by decide +kernel
theorem dX7_lookAtRow_16 : decode cX7_lookAtRow 16 = .ok (.getfield 12, 3) := by decide +kernel
theorem dX7_lookAtRow_19 : decode cX7_lookAtRow 19 = .ok (.iload_n 1, 1) := by decide +kernel
theorem dX7_lookAtRow_20 : decode cX7_lookAtRow 20 = .ok (.bipush 12, 2) := by decide +kernel
theorem dX7_lookAtRow_22 : decode cX7_lookAtRow 22 = .ok (.idiv, 1) := by decide +kernel
theorem dX7_lookAtRow_23 : decode cX7_lookAtRow 23 = .ok (.iconst 1, 1) := by decide +kernel
theorem dX7_lookAtRow_24 : decode cX7_lookAtRow 24 = .ok (.isub, 1) := by decide +kernel
theorem dX7_lookAtRow_25 : decode cX7_lookAtRow 25 = .ok (.iload 4, 2) := by decide +kernel
theorem dX7_lookAtRow_27 : decode cX7_lookAtRow 27 = .ok (.invokevirtual 33, 3) := by decide +kernel
theorem dX7_lookAtRow_30 : decode cX7_lookAtRow 30 = .ok (.aload_n 0, 1) := by decide +kernel
theorem dX7_lookAtRow_31 : decode cX7_lookAtRow 31 = .ok (.getfield 12, 3) := by decide +kernel
theorem dX7_lookAtRow_34 : decode cX7_lookAtRow 34 = .ok (.iload_n 1, 1) := by decide +kernel
theorem dX7_lookAtRow_35 : decode cX7_lookAtRow 35 = .ok (.bipush 12, 2) := by decide +kernel
theorem dX7_lookAtRow_37 : decode cX7_lookAtRow 37 = .ok (.irem, 1) := by decide +kernel
theorem dX7_lookAtRow_38 : decode cX7_lookAtRow 38 = .ok (.iload 4, 2) := by decide +kernel
theorem dX7_lookAtRow_40 : decode cX7_lookAtRow 40 = .ok (.invokevirtual 33, 3) := by decide +kernel
theorem dX7_lookAtRow_43 : decode cX7_lookAtRow 43 = .ok (.aload_n 0, 1) := by decide +kernel
theorem dX7_lookAtRow_44 : decode cX7_lookAtRow 44 = .ok (.iload 4, 2) := by decide +kernel
theorem dX7_lookAtRow_46 : decode cX7_lookAtRow 46 = .ok (.putfield 26, 3) := by decide +kernel
theorem dX7_lookAtRow_49 : decode cX7_lookAtRow 49 = .ok (.aload_n 0, 1) := by decide +kernel
theorem dX7_lookAtRow_50 : decode cX7_lookAtRow 50 = .ok (.iconst (-1), 1) := by decide +kernel
theorem dX7_lookAtRow_51 : decode cX7_lookAtRow 51 = .ok (.putfield 18, 3) := by decide +kernel
theorem dX7_lookAtRow_54 : decode cX7_lookAtRow 54 = .ok (.return_, 1) := by decide +kernel
theorem dX7_go_0 : decode cX7_go 0 = .ok (.iconst 0, 1) := by decide +kernel
theorem dX7_go_1 : decode cX7_go 1 = .ok (.istore_n 3, 1) := by decide +kernel
theorem dX7_go_2 : decode cX7_go 2 = .ok (.iload_n 3, 1) := by decide +kernel
theorem dX7_go_3 : decode cX7_go 3 = .ok (.iload_n 2, 1) := by decide +kernel
theorem dX7_go_4 : decode cX7_go 4 = .ok (.if_icmp .ge 14, 3) := by decide +kernel
theorem dX7_go_7 : decode cX7_go 7 = .ok (.aload_n 0, 1) := by decide +kernel
theorem dX7_go_8 : decode cX7_go 8 = .ok (.aload_n 1, 1) := by decide +kernel
theorem dX7_go_9 : decode cX7_go 9 = .ok (.invokevirtual 36, 3) := by decide +kernel
theorem dX7_go_12 : decode cX7_go 12 = .ok (.iinc 3 1, 3) := by decide +kernel
theorem dX7_go_15 : decode cX7_go 15 = .ok (.goto (-13), 3) := by decide +kernel
theorem dX7_go_18 : decode cX7_go 18 = .ok (.return_, 1) := by decide +kernel
theorem dX7_goWeek_0 : decode cX7_goWeek 0 = .ok (.aload_n 0, 1) := by decide +kernel
theorem dX7_goWeek_1 : decode cX7_goWeek 1 = .ok (.getfield 12, 3) := by decide +kernel
theorem dX7_goWeek_4 : decode cX7_goWeek 4 = .ok (.getfield 40, 3) := by decide +kernel
theorem dX7_goWeek_7 : decode cX7_goWeek 7 = .ok (.ifCond .eq 7, 3) := by decide +kernel
theorem dX7_goWeek_10 : decode cX7_goWeek 10 = .ok (.iconst 2, 1) := by decide +kernel
theorem dX7_goWeek_11 : decode cX7_goWeek 11 = .ok (.goto 4, 3) := by decide +kernel
theorem dX7_goWeek_14 : decode cX7_goWeek 14 = .ok (.iconst 1, 1) := by decide +kernel
theorem dX7_goWeek_15 : decode cX7_goWeek 15 = .ok (.istore_n 2, 1) := by decide +kernel
theorem dX7_goWeek_16 : decode cX7_goWeek 16 = .ok (.iconst 0, 1) := by decide +kernel
theorem dX7_goWeek_17 : decode cX7_goWeek 17 = .ok (.istore_n 3, 1) := by decide +kernel
theorem dX7_goWeek_18 : decode cX7_goWeek 18 = .ok (.iload_n 3, 1) := by decide +kernel
theorem dX7_goWeek_19 : decode cX7_goWeek 19 = .ok (.iload_n 2, 1) := by decide +kernel
theorem dX7_goWeek_20 : decode cX7_goWeek 20 = .ok (.if_icmp .ge 62, 3) := by decide +kernel
theorem dX7_goWeek_23 : decode cX7_goWeek 23 = .ok (.aload_n 1, 1) := by decide +kernel
theorem dX7_goWeek_24 : decode cX7_goWeek 24 = .ok (.aload_n 0, 1) := by decide +kernel
theorem dX7_goWeek_25 : decode cX7_goWeek 25 = .ok (.getfield 12, 3) := by decide +kernel
theorem dX7_goWeek_28 : decode cX7_goWeek 28 = .ok (.aload_n 0, 1) := by decide +kernel
theorem dX7_goWeek_29 : decode cX7_goWeek 29 = .ok (.getfield 26, 3) := by decide +kernel
theorem dX7_goWeek_32 : decode cX7_goWeek 32 = .ok (.invokevirtual 44, 3) := by decide +kernel
theorem dX7_goWeek_35 : decode cX7_goWeek 35 = .ok (.istore 4, 2) := by decide +kernel
theorem dX7_goWeek_37 : decode cX7_goWeek 37 = .ok (.iload 4, 2) := by decide +kernel
theorem dX7_goWeek_39 : decode cX7_goWeek 39 = .ok (.iconst (-1), 1) := by decide +kernel
theorem dX7_goWeek_40 : decode cX7_goWeek 40 = .ok (.if_icmp .eq 36, 3) := by decide +kernel
theorem dX7_goWeek_43 : decode cX7_goWeek 43 = .ok (.aload_n 0, 1) := by decide +kernel
theorem dX7_goWeek_44 : decode cX7_goWeek 44 = .ok (.getfield 12, 3) := by decide +kernel
theorem dX7_goWeek_47 : decode cX7_goWeek 47 = .ok (.aload_n 0, 1) := by decide +kernel
theorem dX7_goWeek_48 : decode cX7_goWeek 48 = .ok (.getfield 18, 3) := by decide +kernel
theorem dX7_goWeek_51 : decode cX7_goWeek 51 = .ok (.iconst (-1), 1) := by decide +kernel
theorem dX7_goWeek_52 : decode cX7_goWeek 52 = .ok (.if_icmp .ne 8, 3) := by decide +kernel
theorem dX7_goWeek_55 : decode cX7_goWeek 55 = .ok (.iload 4, 2) := by decide +kernel
theorem dX7_goWeek_57 : decode cX7_goWeek 57 = .ok (.goto 7, 3) := by decide +kernel
theorem dX7_goWeek_60 : decode cX7_goWeek 60 = .ok (.aload_n 0, 1) := by decide +kernel
theorem dX7_goWeek_61 : decode cX7_goWeek 61 = .ok (.getfield 18, 3) := by decide +kernel
theorem dX7_goWeek_64 : decode cX7_goWeek 64 = .ok (.aload_n 0, 1) := by decide +kernel
theorem dX7_goWeek_65 : decode cX7_goWeek 65 = .ok (.getfield 26, 3) := by decide +kernel
theorem dX7_goWeek_68 : decode cX7_goWeek 68 = .ok (.invokevirtual 33, 3) := by decide +kernel
theorem dX7_goWeek_71 : decode cX7_goWeek 71 = .ok (.aload_n 0, 1) := by decide +kernel
theorem dX7_goWeek_72 : decode cX7_goWeek 72 = .ok (.iconst (-1), 1) := by decide +kernel
theorem dX7_goWeek_73 : decode cX7_goWeek 73 = .ok (.putfield 18, 3) := by decide +kernel
theorem dX7_goWeek_76 : decode cX7_goWeek 76 = .ok (.iinc 3 1, 3) := by decide +kernel
theorem dX7_goWeek_79 : decode cX7_goWeek 79 = .ok (.goto (-61), 3) := by decide +kernel
theorem dX7_goWeek_82 : decode cX7_goWeek 82 = .ok (.aload_n 0, 1) := by decide +kernel
theorem dX7_goWeek_83 : decode cX7_goWeek 83 = .ok (.aload_n 0, 1) := by decide +kernel
theorem dX7_goWeek_84 : decode cX7_goWeek 84 = .ok (.getfield 26, 3) := by decide +kernel
theorem dX7_goWeek_87 : decode cX7_goWeek 87 = .ok (.iconst 1, 1) := by decide +kernel
theorem dX7_goWeek_88 : decode cX7_goWeek 88 = .ok (.iadd, 1) := by decide +kernel
theorem dX7_goWeek_89 : decode cX7_goWeek 89 = .ok (.sipush 9999, 3) := by decide +kernel
theorem dX7_goWeek_92 : decode cX7_goWeek 92 = .ok (.invokestatic 50, 3) := by decide +kernel
theorem dX7_goWeek_95 : decode cX7_goWeek 95 = .ok (.putfield 26, 3) := by decide +kernel
theorem dX7_goWeek_98 : decode cX7_goWeek 98 = .ok (.return_, 1) := by decide +kernel
theorem dX8_init_0 : decode cX8_init 0 = .ok (.aload_n 0, 1) := by decide +kernel
theorem dX8_init_1 : decode cX8_init 1 = .ok (.invokespecial 3, 3) := by decide +kernel
theorem dX8_init_4 : decode cX8_init 4 = .ok (.aload_n 0, 1) := by decide +kernel
theorem dX8_init_5 : decode cX8_init 5 = .ok (.new 9, 3) := by decide +kernel
theorem dX8_init_8 : decode cX8_init 8 = .ok (.dup, 1) := by decide +kernel
theorem dX8_init_9 : decode cX8_init 9 = .ok (.invokespecial 11, 3) := by decide +kernel
theorem dX8_init_12 : decode cX8_init 12 = .ok (.putfield 12, 3) := by decide +kernel
theorem dX8_init_15 : decode cX8_init 15 = .ok (.return_, 1) := by decide +kernel
theorem dX8_readText_0 : decode cX8_readText 0 = .ok (.aload_n 0, 1) := by decide +kernel
theorem dX8_readText_1 : decode cX8_readText 1 = .ok (.getfield 12, 3) := by decide +kernel
theorem dX8_readText_4 : decode cX8_readText 4 = .ok (.aload_n 1, 1) := by decide +kernel
theorem dX8_readText_5 : decode cX8_readText 5 = .ok (.iload_n 2, 1) := by decide +kernel
theorem dX8_readText_6 : decode cX8_readText 6 = .ok (.invokevirtual 18, 3) := by decide +kernel
theorem dX8_readText_9 : decode cX8_readText 9 = .ok (.aload_n 0, 1) := by decide +kernel
theorem dX8_readText_10 : decode cX8_readText 10 = .ok (.getfield 12, 3) := by decide +kernel
theorem dX8_readText_13 : decode cX8_readText 13 = .ok (.invokevirtual 22, 3) := by decide +kernel
theorem dX8_readText_16 : decode cX8_readText 16 = .ok (.sipush 1021, 3) := by decide +kernel
theorem dX8_readText_19 : decode cX8_readText 19 = .ok (.if_icmp .ne 5, 3) := by decide +kernel
theorem dX8_readText_22 : decode cX8_readText 22 = .ok (.iconst 1, 1) := by decide +kernel
theorem dX8_readText_23 : decode cX8_readText 23 = .ok (.ireturn, 1) := by decide +kernel
theorem dX8_readText_24 : decode cX8_readText 24 = .ok (.iconst 0, 1) := by decide +kernel
theorem dX8_readText_25 : decode cX8_readText 25 = .ok (.istore 4, 2) := by decide +kernel
theorem dX8_readText_27 : decode cX8_readText 27 = .ok (.iload 4, 2) := by decide +kernel
theorem dX8_readText_29 : decode cX8_readText 29 = .ok (.iload_n 3, 1) := by decide +kernel
theorem dX8_readText_30 : decode cX8_readText 30 = .ok (.if_icmp .ge 48, 3) := by decide +kernel
theorem dX8_readText_33 : decode cX8_readText 33 = .ok (.aload_n 0, 1) := by decide +kernel
theorem dX8_readText_34 : decode cX8_readText 34 = .ok (.invokevirtual 26, 3) := by decide +kernel
theorem dX8_readText_37 : decode cX8_readText 37 = .ok (.ifCond .ne 5, 3) := by decide +kernel
theorem dX8_readText_40 : decode cX8_readText 40 = .ok (.iconst 0, 1) := by decide +kernel
theorem dX8_readText_41 : decode cX8_readText 41 = .ok (.ireturn, 1) := by decide +kernel
theorem dX8_readText_42 : decode cX8_readText 42 = .ok (.aload_n 0, 1) := by decide +kernel
theorem dX8_readText_43 : decode cX8_readText 43 = .ok (.getfield 12, 3) := by decide +kernel
theorem dX8_readText_46 : decode cX8_readText 46 = .ok (.invokevirtual 22, 3) := by decide +kernel
theorem dX8_readText_49 : decode cX8_readText 49 = .ok (.sipush 1021, 3) := by decide +kernel
theorem dX8_readText_52 : decode cX8_readText 52 = .ok (.if_icmp .ne 5, 3) := by decide +kernel
theorem dX8_readText_55 : decode cX8_readText 55 = .ok (.iconst 1, 1) := by decide +kernel
theorem dX8_readText_56 : decode cX8_readText 56 = .ok (.ireturn, 1) := by decide +kernel
theorem dX8_readText_57 : decode cX8_readText 57 = .ok (.aload_n 0, 1) := by decide +kernel
theorem dX8_readText_58 : decode cX8_readText 58 = .ok (.getfield 12, 3) := by decide +kernel
theorem dX8_readText_61 : decode cX8_readText 61 = .ok (.sipush 1159, 3) := by decide +kernel
theorem dX8_readText_64 : decode cX8_readText 64 = .ok (.invokevirtual 30, 3) := by decide +kernel
theorem dX8_readText_67 : decode cX8_readText 67 = .ok (.ifCond .ne 5, 3) := by decide +kernel
theorem dX8_readText_70 : decode cX8_readText 70 = .ok (.iconst 0, 1) := by decide +kernel
theorem dX8_readText_71 : decode cX8_readText 71 = .ok (.ireturn, 1) := by decide +kernel
theorem dX8_readText_72 : decode cX8_readText 72 = .ok (.iinc 4 1, 3) := by decide +kernel
theorem dX8_readText_75 : decode cX8_readText 75 = .ok (.goto (-48), 3) := by decide +kernel
theorem dX8_readText_78 : decode cX8_readText 78 = .ok (.aload_n 0, 1) := by decide +kernel
theorem dX8_readText_79 : decode cX8_readText 79 = .ok (.getfield 12, 3) := by decide +kernel
theorem dX8_readText_82 : decode cX8_readText 82 = .ok (.invokevirtual 34, 3) := by decide +kernel
theorem dX8_readText_85 : decode cX8_readText 85 = .ok (.ireturn, 1) := by decide +kernel
theorem dX9_init_0 : decode cX9_init 0 = .ok (.aload_n 0, 1) := by decide +kernel
theorem dX9_init_1 : decode cX9_init 1 = .ok (.invokespecial 3, 3) := by decide +kernel
theorem dX9_init_4 : decode cX9_init 4 = .ok (.aload_n 0, 1) := by decide +kernel
theorem dX9_init_5 : decode cX9_init 5 = .ok (.sipush 400, 3) := by decide +kernel
theorem dX9_init_8 : decode cX9_init 8 = .ok (.newarray .int, 2) := by decide +kernel
theorem dX9_init_10 : decode cX9_init 10 = .ok (.putfield 9, 3) := by decide +kernel
theorem dX9_init_13 : decode cX9_init 13 = .ok (.aload_n 0, 1) := by decide +kernel
theorem dX9_init_14 : decode cX9_init 14 = .ok (.sipush 401, 3) := by decide +kernel
theorem dX9_init_17 : decode cX9_init 17 = .ok (.newarray .int, 2) := by decide +kernel
theorem dX9_init_19 : decode cX9_init 19 = .ok (.putfield 15, 3) := by decide +kernel
theorem dX9_init_22 : decode cX9_init 22 = .ok (.aload_n 0, 1) := by decide +kernel
theorem dX9_init_23 : decode cX9_init 23 = .ok (.sipush 401, 3) := by decide +kernel
theorem dX9_init_26 : decode cX9_init 26 = .ok (.newarray .int, 2) := by decide +kernel
theorem dX9_init_28 : decode cX9_init 28 = .ok (.putfield 18, 3) := by decide +kernel
theorem dX9_init_31 : decode cX9_init 31 = .ok (.aload_n 0, 1) := by decide +kernel
theorem dX9_init_32 : decode cX9_init 32 = .ok (.sipush 401, 3) := by decide +kernel
theorem dX9_init_35 : decode cX9_init 35 = .ok (.newarray .int, 2) := by decide +kernel
theorem dX9_init_37 : decode cX9_init 37 = .ok (.putfield 21, 3) := by decide +kernel
theorem dX9_init_40 : decode cX9_init 40 = .ok (.aload_n 0, 1) := by decide +kernel
theorem dX9_init_41 : decode cX9_init 41 = .ok (.iconst (-1), 1) := by decide +kernel
theorem dX9_init_42 : decode cX9_init 42 = .ok (.putfield 24, 3) := by decide +kernel
theorem dX9_init_45 : decode cX9_init 45 = .ok (.return_, 1) := by decide +kernel
theorem dX9_scan_0 : decode cX9_scan 0 = .ok (.aload_n 0, 1) := by decide +kernel
theorem dX9_scan_1 : decode cX9_scan 1 = .ok (.iload_n 2, 1) := by decide +kernel
theorem dX9_scan_2 : decode cX9_scan 2 = .ok (.sipush 400, 3) := by decide +kernel
theorem dX9_scan_5 : decode cX9_scan 5 = .ok (.invokestatic 28, 3) := by decide +kernel
theorem dX9_scan_8 : decode cX9_scan 8 = .ok (.putfield 34, 3) := by decide +kernel
theorem dX9_scan_11 : decode cX9_scan 11 = .ok (.aload_n 1, 1) := by decide +kernel
theorem dX9_scan_12 : decode cX9_scan 12 = .ok (.iconst 0, 1) := by decide +kernel
theorem dX9_scan_13 : decode cX9_scan 13 = .ok (.aload_n 0, 1) := by decide +kernel
theorem dX9_scan_14 : decode cX9_scan 14 = .ok (.getfield 9, 3) := by decide +kernel
theorem dX9_scan_17 : decode cX9_scan 17 = .ok (.iconst 0, 1) := by decide +kernel
theorem dX9_scan_18 : decode cX9_scan 18 = .ok (.aload_n 0, 1) := by decide +kernel
theorem dX9_scan_19 : decode cX9_scan 19 = .ok (.getfield 34, 3) := by decide +kernel
theorem dX9_scan_22 : decode cX9_scan 22 = .ok (.invokestatic 37, 3) := by decide +kernel
theorem dX9_scan_25 : decode cX9_scan 25 = .ok (.aload_n 0, 1) := by decide +kernel
theorem dX9_scan_26 : decode cX9_scan 26 = .ok (.iconst 0, 1) := by decide +kernel
theorem dX9_scan_27 : decode cX9_scan 27 = .ok (.putfield 43, 3) := by decide +kernel
theorem dX9_scan_30 : decode cX9_scan 30 = .ok (.aload_n 0, 1) := by decide +kernel
theorem dX9_scan_31 : decode cX9_scan 31 = .ok (.iconst 0, 1) := by decide +kernel
theorem dX9_scan_32 : decode cX9_scan 32 = .ok (.putfield 46, 3) := by decide +kernel
theorem dX9_scan_35 : decode cX9_scan 35 = .ok (.aload_n 0, 1) := by decide +kernel
theorem dX9_scan_36 : decode cX9_scan 36 = .ok (.iconst (-1), 1) := by decide +kernel
theorem dX9_scan_37 : decode cX9_scan 37 = .ok (.putfield 24, 3) := by decide +kernel
theorem dX9_scan_40 : decode cX9_scan 40 = .ok (.iconst 0, 1) := by decide +kernel
theorem dX9_scan_41 : decode cX9_scan 41 = .ok (.istore_n 3, 1) := by decide +kernel
theorem dX9_scan_42 : decode cX9_scan 42 = .ok (.iconst 0, 1) := by decide +kernel
theorem dX9_scan_43 : decode cX9_scan 43 = .ok (.istore 4, 2) := by decide +kernel
theorem dX9_scan_45 : decode cX9_scan 45 = .ok (.iload 4, 2) := by decide +kernel
theorem dX9_scan_47 : decode cX9_scan 47 = .ok (.sipush 400, 3) := by decide +kernel
theorem dX9_scan_50 : decode cX9_scan 50 = .ok (.if_icmp .gt 47, 3) := by decide +kernel
theorem dX9_scan_53 : decode cX9_scan 53 = .ok (.iload_n 3, 1) := by decide +kernel
theorem dX9_scan_54 : decode cX9_scan 54 = .ok (.aload_n 0, 1) := by decide +kernel
theorem dX9_scan_55 : decode cX9_scan 55 = .ok (.getfield 34, 3) := by decide +kernel
theorem dX9_scan_58 : decode cX9_scan 58 = .ok (.if_icmp .ge 39, 3) := by decide +kernel
theorem dX9_scan_61 : decode cX9_scan 61 = .ok (.aload_n 0, 1) := by decide +kernel
theorem dX9_scan_62 : decode cX9_scan 62 = .ok (.iload_n 3, 1) := by decide +kernel
theorem dX9_scan_63 : decode cX9_scan 63 = .ok (.invokevirtual 49, 3) := by decide +kernel
theorem dX9_scan_66 : decode cX9_scan 66 = .ok (.istore 5, 2) := by decide +kernel
theorem dX9_scan_68 : decode cX9_scan 68 = .ok (.aload_n 0, 1) := by decide +kernel
theorem dX9_scan_69 : decode cX9_scan 69 = .ok (.getfield 9, 3) := by decide +kernel
theorem dX9_scan_72 : decode cX9_scan 72 = .ok (.iload_n 3, 1) := by decide +kernel
theorem dX9_scan_73 : decode cX9_scan 73 = .ok (.iaload, 1) := by decide +kernel
theorem dX9_scan_74 : decode cX9_scan 74 = .ok (.bipush 32, 2) := by decide +kernel
theorem dX9_scan_76 : decode cX9_scan 76 = .ok (.if_icmp .eq 12, 3) := by decide +kernel
theorem dX9_scan_79 : decode cX9_scan 79 = .ok (.aload_n 0, 1) := by decide +kernel
theorem dX9_scan_80 : decode cX9_scan 80 = .ok (.iload_n 3, 1) := by decide +kernel
theorem dX9_scan_81 : decode cX9_scan 81 = .ok (.iload 5, 2) := by decide +kernel
theorem dX9_scan_83 : decode cX9_scan 83 = .ok (.iload_n 3, 1) := by decide +kernel
theorem dX9_scan_84 : decode cX9_scan 84 = .ok (.isub, 1) := by decide +kernel
theorem dX9_scan_85 : decode cX9_scan 85 = .ok (.invokevirtual 53, 3) := by decide +kernel
theorem dX9_scan_88 : decode cX9_scan 88 = .ok (.iload 5, 2) := by decide +kernel
theorem dX9_scan_90 : decode cX9_scan 90 = .ok (.istore_n 3, 1) := by decide +kernel
theorem dX9_scan_91 : decode cX9_scan 91 = .ok (.iinc 4 1, 3) := by decide +kernel
theorem dX9_scan_94 : decode cX9_scan 94 = .ok (.goto (-49), 3) := by decide +kernel
theorem dX9_scan_97 : decode cX9_scan 97 = .ok (.aload_n 0, 1) := by decide +kernel
theorem dX9_scan_98 : decode cX9_scan 98 = .ok (.getfield 15, 3) := by decide +kernel
theorem dX9_scan_101 : decode cX9_scan 101 = .ok (.aload_n 0, 1) := by decide +kernel
theorem dX9_scan_102 : decode cX9_scan 102 = .ok (.getfield 43, 3) := by decide +kernel
theorem dX9_scan_105 : decode cX9_scan 105 = .ok (.sipush 1021, 3) := by decide +kernel
theorem dX9_scan_108 : decode cX9_scan 108 = .ok (.iastore, 1) := by decide +kernel
theorem dX9_scan_109 : decode cX9_scan 109 = .ok (.aload_n 0, 1) := by decide +kernel
theorem dX9_scan_110 : decode cX9_scan 110 = .ok (.getfield 18, 3) := by decide +kernel
theorem dX9_scan_113 : decode cX9_scan 113 = .ok (.aload_n 0, 1) := by decide +kernel
theorem dX9_scan_114 : decode cX9_scan 114 = .ok (.getfield 43, 3) := by decide +kernel
theorem dX9_scan_117 : decode cX9_scan 117 = .ok (.aload_n 0, 1) := by decide +kernel
theorem dX9_scan_118 : decode cX9_scan 118 = .ok (.getfield 34, 3) := by decide +kernel
theorem dX9_scan_121 : decode cX9_scan 121 = .ok (.iastore, 1) := by decide +kernel
theorem dX9_scan_122 : decode cX9_scan 122 = .ok (.aload_n 0, 1) := by decide +kernel
theorem dX9_scan_123 : decode cX9_scan 123 = .ok (.getfield 21, 3) := by decide +kernel
theorem dX9_scan_126 : decode cX9_scan 126 = .ok (.aload_n 0, 1) := by decide +kernel
theorem dX9_scan_127 : decode cX9_scan 127 = .ok (.getfield 43, 3) := by decide +kernel
theorem dX9_scan_130 : decode cX9_scan 130 = .ok (.iconst 0, 1) := by decide +kernel
theorem dX9_scan_131 : decode cX9_scan 131 = .ok (.iastore, 1) := by decide +kernel
theorem dX9_scan_132 : decode cX9_scan 132 = .ok (.return_, 1) := by decide +kernel
theorem dX9_addToken_0 : decode cX9_addToken 0 = .ok (.aload_n 0, 1) := by decide +kernel
theorem dX9_addToken_1 : decode cX9_addToken 1 = .ok (.getfield 43, 3) := by decide +kernel
theorem dX9_addToken_4 : decode cX9_addToken 4 = .ok (.sipush 400, 3) := by decide +kernel
theorem dX9_addToken_7 : decode cX9_addToken 7 = .ok (.if_icmp .ge 48, 3) := by decide +kernel
theorem dX9_addToken_10 : decode cX9_addToken 10 = .ok (.aload_n 0, 1) := by decide +kernel
theorem dX9_addToken_11 : decode cX9_addToken 11 = .ok (.getfield 15, 3) := by decide +kernel
theorem dX9_addToken_14 : decode cX9_addToken 14 = .ok (.aload_n 0, 1) := by decide +kernel
theorem dX9_addToken_15 : decode cX9_addToken 15 = .ok (.getfield 43, 3) := by decide +kernel
theorem dX9_addToken_18 : decode cX9_addToken 18 = .ok (.aload_n 0, 1) := by decide +kernel
theorem dX9_addToken_19 : decode cX9_addToken 19 = .ok (.iload_n 1, 1) := by decide +kernel
theorem dX9_addToken_20 : decode cX9_addToken 20 = .ok (.iload_n 2, 1) := by decide +kernel
theorem dX9_addToken_21 : decode cX9_addToken 21 = .ok (.invokevirtual 57, 3) := by decide +kernel
theorem dX9_addToken_24 : decode cX9_addToken 24 = .ok (.iastore, 1) := by decide +kernel
theorem dX9_addToken_25 : decode cX9_addToken 25 = .ok (.aload_n 0, 1) := by decide +kernel
theorem dX9_addToken_26 : decode cX9_addToken 26 = .ok (.getfield 18, 3) := by decide +kernel
theorem dX9_addToken_29 : decode cX9_addToken 29 = .ok (.aload_n 0, 1) := by decide +kernel
theorem dX9_addToken_30 : decode cX9_addToken 30 = .ok (.getfield 43, 3) := by decide +kernel
theorem dX9_addToken_33 : decode cX9_addToken 33 = .ok (.iload_n 1, 1) := by decide +kernel
theorem dX9_addToken_34 : decode cX9_addToken 34 = .ok (.iastore, 1) := by decide +kernel
theorem dX9_addToken_35 : decode cX9_addToken 35 = .ok (.aload_n 0, 1) := by decide +kernel
theorem dX9_addToken_36 : decode cX9_addToken 36 = .ok (.getfield 21, 3) := by decide +kernel
theorem dX9_addToken_39 : decode cX9_addToken 39 = .ok (.aload_n 0, 1) := by decide +kernel
theorem dX9_addToken_40 : decode cX9_addToken 40 = .ok (.getfield 43, 3) := by decide +kernel
theorem dX9_addToken_43 : decode cX9_addToken 43 = .ok (.iload_n 2, 1) := by decide +kernel
theorem dX9_addToken_44 : decode cX9_addToken 44 = .ok (.iastore, 1) := by decide +kernel
theorem dX9_addToken_45 : decode cX9_addToken 45 = .ok (.aload_n 0, 1) := by decide +kernel
theorem dX9_addToken_46 : decode cX9_addToken 46 = .ok (.dup, 1) := by decide +kernel
theorem dX9_addToken_47 : decode cX9_addToken 47 = .ok (.getfield 43, 3) := by decide +kernel
theorem dX9_addToken_50 : decode cX9_addToken 50 = .ok (.iconst 1, 1) := by decide +kernel
theorem dX9_addToken_51 : decode cX9_addToken 51 = .ok (.iadd, 1) := by decide +kernel
theorem dX9_addToken_52 : decode cX9_addToken 52 = .ok (.putfield 43, 3) := by decide +kernel
theorem dX9_addToken_55 : decode cX9_addToken 55 = .ok (.return_, 1) := by decide +kernel
theorem dX9_endOf_0 : decode cX9_endOf 0 = .ok (.aload_n 0, 1) := by decide +kernel
theorem dX9_endOf_1 : decode cX9_endOf 1 = .ok (.getfield 9, 3) := by decide +kernel
theorem dX9_endOf_4 : decode cX9_endOf 4 = .ok (.iload_n 1, 1) := by decide +kernel
theorem dX9_endOf_5 : decode cX9_endOf 5 = .ok (.iaload, 1) := by decide +kernel
theorem dX9_endOf_6 : decode cX9_endOf 6 = .ok (.invokestatic 60, 3) := by decide +kernel
theorem dX9_endOf_9 : decode cX9_endOf 9 = .ok (.istore_n 2, 1) := by decide +kernel
theorem dX9_endOf_10 : decode cX9_endOf 10 = .ok (.iload_n 1, 1) := by decide +kernel
theorem dX9_endOf_11 : decode cX9_endOf 11 = .ok (.iconst 1, 1) := by decide +kernel
theorem dX9_endOf_12 : decode cX9_endOf 12 = .ok (.iadd, 1) := by decide +kernel
theorem dX9_endOf_13 : decode cX9_endOf 13 = .ok (.istore_n 3, 1) := by decide +kernel
theorem dX9_endOf_14 : decode cX9_endOf 14 = .ok (.iload_n 2, 1) := by decide +kernel
theorem dX9_endOf_15 : decode cX9_endOf 15 = .ok (.ifCond .eq 30, 3) := by decide +kernel
theorem dX9_endOf_18 : decode cX9_endOf 18 = .ok (.iload_n 3, 1) := by decide +kernel
theorem dX9_endOf_19 : decode cX9_endOf 19 = .ok (.aload_n 0, 1) := by decide +kernel
theorem dX9_endOf_20 : decode cX9_endOf 20 = .ok (.getfield 34, 3) := by decide +kernel
theorem dX9_endOf_23 : decode cX9_endOf 23 = .ok (.if_icmp .ge 22, 3) := by decide +kernel
theorem dX9_endOf_26 : decode cX9_endOf 26 = .ok (.aload_n 0, 1) := by decide +kernel
theorem dX9_endOf_27 : decode cX9_endOf 27 = .ok (.getfield 9, 3) := by decide +kernel
theorem dX9_endOf_30 : decode cX9_endOf 30 = .ok (.iload_n 3, 1) := by decide +kernel
theorem dX9_endOf_31 : decode cX9_endOf 31 = .ok (.iaload, 1) := by decide +kernel
theorem dX9_endOf_32 : decode cX9_endOf 32 = .ok (.invokestatic 60, 3) := by decide +kernel
theorem dX9_endOf_35 : decode cX9_endOf 35 = .ok (.iload_n 2, 1) := by decide +kernel
theorem dX9_endOf_36 : decode cX9_endOf 36 = .ok (.if_icmp .ne 9, 3) := by decide +kernel
theorem dX9_endOf_39 : decode cX9_endOf 39 = .ok (.iinc 3 1, 3) := by decide +kernel
theorem dX9_endOf_42 : decode cX9_endOf 42 = .ok (.goto (-28), 3) := by decide +kernel
theorem dX9_endOf_45 : decode cX9_endOf 45 = .ok (.iload_n 3, 1) := by decide +kernel
theorem dX9_endOf_46 : decode cX9_endOf 46 = .ok (.ireturn, 1) := by decide +kernel
theorem dX9_sortOf_0 : decode cX9_sortOf 0 = .ok (.iload_n 0, 1) := by decide +kernel
theorem dX9_sortOf_1 : decode cX9_sortOf 1 = .ok (.bipush 97, 2) := by decide +kernel
theorem dX9_sortOf_3 : decode cX9_sortOf 3 = .ok (.if_icmp .lt 11, 3) := by decide +kernel
theorem dX9_sortOf_6 : decode cX9_sortOf 6 = .ok (.iload_n 0, 1) := by decide +kernel
theorem dX9_sortOf_7 : decode cX9_sortOf 7 = .ok (.bipush 122, 2) := by decide +kernel
theorem dX9_sortOf_9 : decode cX9_sortOf 9 = .ok (.if_icmp .gt 5, 3) := by decide +kernel
theorem dX9_sortOf_12 : decode cX9_sortOf 12 = .ok (.iconst 1, 1) := by decide +kernel
theorem dX9_sortOf_13 : decode cX9_sortOf 13 = .ok (.ireturn, 1) := by decide +kernel
theorem dX9_sortOf_14 : decode cX9_sortOf 14 = .ok (.iload_n 0, 1) := by decide +kernel
theorem dX9_sortOf_15 : decode cX9_sortOf 15 = .ok (.bipush 48, 2) := by decide +kernel
theorem dX9_sortOf_17 : decode cX9_sortOf 17 = .ok (.if_icmp .lt 13, 3) := by decide +kernel
theorem dX9_sortOf_20 : decode cX9_sortOf 20 = .ok (.iload_n 0, 1) := by decide +kernel
theorem dX9_sortOf_21 : decode cX9_sortOf 21 = .ok (.bipush 57, 2) := by decide +kernel
theorem dX9_sortOf_23 : decode cX9_sortOf 23 = .ok (.if_icmp .gt 7, 3) := by decide +kernel
theorem dX9_sortOf_26 : decode cX9_sortOf 26 = .ok (.iconst 2, 1) := by decide +kernel
theorem dX9_sortOf_27 : decode cX9_sortOf 27 = .ok (.goto 4, 3) := by decide +kernel
theorem dX9_sortOf_30 : decode cX9_sortOf 30 = .ok (.iconst 0, 1) := by decide +kernel
theorem dX9_sortOf_31 : decode cX9_sortOf 31 = .ok (.ireturn, 1) := by decide +kernel
theorem dX9_codeOf_0 : decode cX9_codeOf 0 = .ok (.aload_n 0, 1) := by decide +kernel
theorem dX9_codeOf_1 : decode cX9_codeOf 1 = .ok (.getfield 9, 3) := by decide +kernel
theorem dX9_codeOf_4 : decode cX9_codeOf 4 = .ok (.iload_n 1, 1) := by decide +kernel
theorem dX9_codeOf_5 : decode cX9_codeOf 5 = .ok (.iaload, 1) := by decide +kernel
theorem dX9_codeOf_6 : decode cX9_codeOf 6 = .ok (.invokestatic 60, 3) := by decide +kernel
theorem dX9_codeOf_9 : decode cX9_codeOf 9 = .ok (.istore_n 3, 1) := by decide +kernel
theorem dX9_codeOf_10 : decode cX9_codeOf 10 = .ok (.iload_n 3, 1) := by decide +kernel
theorem dX9_codeOf_11 : decode cX9_codeOf 11 = .ok (.ifCond .ne 14, 3) := by decide +kernel
theorem dX9_codeOf_14 : decode cX9_codeOf 14 = .ok (.sipush 1100, 3) := by decide +kernel
theorem dX9_codeOf_17 : decode cX9_codeOf 17 = .ok (.aload_n 0, 1) := by decide +kernel
theorem dX9_codeOf_18 : decode cX9_codeOf 18 = .ok (.getfield 9, 3) := by decide +kernel
theorem dX9_codeOf_21 : decode cX9_codeOf 21 = .ok (.iload_n 1, 1) := by decide +kernel
theorem dX9_codeOf_22 : decode cX9_codeOf 22 = .ok (.iaload, 1) := by decide +kernel
theorem dX9_codeOf_23 : decode cX9_codeOf 23 = .ok (.iadd, 1) := by decide +kernel
theorem dX9_codeOf_24 : decode cX9_codeOf 24 = .ok (.ireturn, 1) := by decide +kernel
theorem dX9_codeOf_25 : decode cX9_codeOf 25 = .ok (.iload_n 3, 1) := by decide +kernel
theorem dX9_codeOf_26 : decode cX9_codeOf 26 = .ok (.iconst 1, 1) := by decide +kernel
theorem dX9_codeOf_27 : decode cX9_codeOf 27 = .ok (.if_icmp .ne 12, 3) := by decide +kernel
theorem dX9_codeOf_30 : decode cX9_codeOf 30 = .ok (.aload_n 0, 1) := by decide +kernel
theorem dX9_codeOf_31 : decode cX9_codeOf 31 = .ok (.iload_n 1, 1) := by decide +kernel
theorem dX9_codeOf_32 : decode cX9_codeOf 32 = .ok (.iload_n 2, 1) := by decide +kernel
theorem dX9_codeOf_33 : decode cX9_codeOf 33 = .ok (.invokevirtual 63, 3) := by decide +kernel
theorem dX9_codeOf_36 : decode cX9_codeOf 36 = .ok (.goto 9, 3) := by decide +kernel
theorem dX9_codeOf_39 : decode cX9_codeOf 39 = .ok (.aload_n 0, 1) := by decide +kernel
theorem dX9_codeOf_40 : decode cX9_codeOf 40 = .ok (.iload_n 1, 1) := by decide +kernel
theorem dX9_codeOf_41 : decode cX9_codeOf 41 = .ok (.iload_n 2, 1) := by decide +kernel
theorem dX9_codeOf_42 : decode cX9_codeOf 42 = .ok (.invokevirtual 66, 3) := by decide +kernel
theorem dX9_codeOf_45 : decode cX9_codeOf 45 = .ok (.ireturn, 1) := by decide +kernel
theorem dX9_numberCode_0 : decode cX9_numberCode 0 = .ok (.iload_n 2, 1) := by decide +kernel
theorem dX9_numberCode_1 : decode cX9_numberCode 1 = .ok (.iconst 3, 1) := by decide +kernel
theorem dX9_numberCode_2 : decode cX9_numberCode 2 = .ok (.if_icmp .le 7, 3) := by decide +kernel
theorem dX9_numberCode_5 : decode cX9_numberCode 5 = .ok (.sipush 1020, 3) := by decide +kernel
theorem dX9_numberCode_8 : decode cX9_numberCode 8 = .ok (.ireturn, 1) := by decide +kernel
theorem dX9_numberCode_9 : decode cX9_numberCode 9 = .ok (.iconst 0, 1) := by decide +kernel
theorem dX9_numberCode_10 : decode cX9_numberCode 10 = .ok (.istore_n 3, 1) := by decide +kernel
theorem dX9_numberCode_11 : decode cX9_numberCode 11 = .ok (.iload_n 1, 1) := by decide +kernel
theorem dX9_numberCode_12 : decode cX9_numberCode 12 = .ok (.istore 4, 2) := by decide +kernel
theorem dX9_numberCode_14 : decode cX9_numberCode 14 = .ok (.iload 4, 2) := by decide +kernel
theorem dX9_numberCode_16 : decode cX9_numberCode 16 = .ok (.iload_n 1, 1) := by decide +kernel
theorem dX9_numberCode_17 : decode cX9_numberCode 17 = .ok (.iload_n 2, 1) := by decide +kernel
theorem dX9_numberCode_18 : decode cX9_numberCode 18 = .ok (.iadd, 1) := by decide +kernel
theorem dX9_numberCode_19 : decode cX9_numberCode 19 = .ok (.if_icmp .ge 34, 3) := by decide +kernel
theorem dX9_numberCode_22 : decode cX9_numberCode 22 = .ok (.iload 4, 2) := by decide +kernel
theorem dX9_numberCode_24 : decode cX9_numberCode 24 = .ok (.aload_n 0, 1) := by decide +kernel
theorem dX9_numberCode_25 : decode cX9_numberCode 25 = .ok (.getfield 34, 3) := by decide +kernel
theorem dX9_numberCode_28 : decode cX9_numberCode 28 = .ok (.if_icmp .ge 25, 3) := by decide +kernel
theorem dX9_numberCode_31 : decode cX9_numberCode 31 = .ok (.bipush 10, 2) := by decide +kernel
theorem dX9_numberCode_33 : decode cX9_numberCode 33 = .ok (.iload_n 3, 1) := by decide +kernel
theorem dX9_numberCode_34 : decode cX9_numberCode 34 = .ok (.imul, 1) := by decide +kernel
theorem dX9_numberCode_35 : decode cX9_numberCode 35 = .ok (.aload_n 0, 1) := by decide +kernel
theorem dX9_numberCode_36 : decode cX9_numberCode 36 = .ok (.getfield 9, 3) := by decide +kernel
theorem dX9_numberCode_39 : decode cX9_numberCode 39 = .ok (.iload 4, 2) := by decide +kernel
theorem dX9_numberCode_41 : decode cX9_numberCode 41 = .ok (.iaload, 1) := by decide +kernel
theorem dX9_numberCode_42 : decode cX9_numberCode 42 = .ok (.iadd, 1) := by decide +kernel
theorem dX9_numberCode_43 : decode cX9_numberCode 43 = .ok (.bipush 48, 2) := by decide +kernel
theorem dX9_numberCode_45 : decode cX9_numberCode 45 = .ok (.isub, 1) := by decide +kernel
theorem dX9_numberCode_46 : decode cX9_numberCode 46 = .ok (.istore_n 3, 1) := by decide +kernel
theorem dX9_numberCode_47 : decode cX9_numberCode 47 = .ok (.iinc 4 1, 3) := by decide +kernel
theorem dX9_numberCode_50 : decode cX9_numberCode 50 = .ok (.goto (-36), 3) := by decide +kernel
theorem dX9_numberCode_53 : decode cX9_numberCode 53 = .ok (.iload_n 3, 1) := by decide +kernel
theorem dX9_numberCode_54 : decode cX9_numberCode 54 = .ok (.ireturn, 1) := by decide +kernel
theorem dX9_wordCode_0 : decode cX9_wordCode 0 = .ok (.sipush 1000, 3) := by decide +kernel
theorem dX9_wordCode_3 : decode cX9_wordCode 3 = .ok (.istore_n 3, 1) := by decide +kernel
theorem dX9_wordCode_4 : decode cX9_wordCode 4 = .ok (.iconst 0, 1) := by decide +kernel
theorem dX9_wordCode_5 : decode cX9_wordCode 5 = .ok (.istore 4, 2) := by decide +kernel
theorem dX9_wordCode_7 : decode cX9_wordCode 7 = .ok (.iconst 0, 1) := by decide +kernel
theorem dX9_wordCode_8 : decode cX9_wordCode 8 = .ok (.istore 5, 2) := by decide +kernel
theorem dX9_wordCode_10 : decode cX9_wordCode 10 = .ok (.iload 5, 2) := by decide +kernel
theorem dX9_wordCode_12 : decode cX9_wordCode 12 = .ok (.ldc 69, 2) := by decide +kernel
theorem dX9_wordCode_14 : decode cX9_wordCode 14 = .ok (.invokevirtual 71, 3) := by decide +kernel
theorem dX9_wordCode_17 : decode cX9_wordCode 17 = .ok (.if_icmp .gt 62, 3) := by decide +kernel
theorem dX9_wordCode_20 : decode cX9_wordCode 20 = .ok (.iload 5, 2) := by decide +kernel
theorem dX9_wordCode_22 : decode cX9_wordCode 22 = .ok (.ldc 69, 2) := by decide +kernel
theorem dX9_wordCode_24 : decode cX9_wordCode 24 = .ok (.invokevirtual 71, 3) := by decide +kernel
theorem dX9_wordCode_27 : decode cX9_wordCode 27 = .ok (.if_icmp .eq 15, 3) := by decide +kernel
theorem dX9_wordCode_30 : decode cX9_wordCode 30 = .ok (.ldc 69, 2) := by decide +kernel
theorem dX9_wordCode_32 : decode cX9_wordCode 32 = .ok (.iload 5, 2) := by decide +kernel
theorem dX9_wordCode_34 : decode cX9_wordCode 34 = .ok (.invokevirtual 77, 3) := by decide +kernel
theorem dX9_wordCode_37 : decode cX9_wordCode 37 = .ok (.bipush 32, 2) := by decide +kernel
theorem dX9_wordCode_39 : decode cX9_wordCode 39 = .ok (.if_icmp .ne 34, 3) := by decide +kernel
theorem dX9_wordCode_42 : decode cX9_wordCode 42 = .ok (.iload 5, 2) := by decide +kernel
theorem dX9_wordCode_44 : decode cX9_wordCode 44 = .ok (.iload 4, 2) := by decide +kernel
theorem dX9_wordCode_46 : decode cX9_wordCode 46 = .ok (.isub, 1) := by decide +kernel
theorem dX9_wordCode_47 : decode cX9_wordCode 47 = .ok (.iload_n 2, 1) := by decide +kernel
theorem dX9_wordCode_48 : decode cX9_wordCode 48 = .ok (.if_icmp .ne 16, 3) := by decide +kernel
theorem dX9_wordCode_51 : decode cX9_wordCode 51 = .ok (.aload_n 0, 1) := by decide +kernel
theorem dX9_wordCode_52 : decode cX9_wordCode 52 = .ok (.iload 4, 2) := by decide +kernel
theorem dX9_wordCode_54 : decode cX9_wordCode 54 = .ok (.iload_n 1, 1) := by decide +kernel
theorem dX9_wordCode_55 : decode cX9_wordCode 55 = .ok (.iload_n 2, 1) := by decide +kernel
theorem dX9_wordCode_56 : decode cX9_wordCode 56 = .ok (.invokevirtual 81, 3) := by decide +kernel
theorem dX9_wordCode_59 : decode cX9_wordCode 59 = .ok (.ifCond .eq 5, 3) := by decide +kernel
theorem dX9_wordCode_62 : decode cX9_wordCode 62 = .ok (.iload_n 3, 1) := by decide +kernel
theorem dX9_wordCode_63 : decode cX9_wordCode 63 = .ok (.ireturn, 1) := by decide +kernel
theorem dX9_wordCode_64 : decode cX9_wordCode 64 = .ok (.iload 5, 2) := by decide +kernel
theorem dX9_wordCode_66 : decode cX9_wordCode 66 = .ok (.iconst 1, 1) := by decide +kernel
theorem dX9_wordCode_67 : decode cX9_wordCode 67 = .ok (.iadd, 1) := by decide +kernel
theorem dX9_wordCode_68 : decode cX9_wordCode 68 = .ok (.istore 4, 2) := by decide +kernel
theorem dX9_wordCode_70 : decode cX9_wordCode 70 = .ok (.iinc 3 1, 3) := by decide +kernel
theorem dX9_wordCode_73 : decode cX9_wordCode 73 = .ok (.iinc 5 1, 3) := by decide +kernel
theorem dX9_wordCode_76 : decode cX9_wordCode 76 = .ok (.goto (-66), 3) := by decide +kernel
theorem dX9_wordCode_79 : decode cX9_wordCode 79 = .ok (.sipush 1019, 3) := by decide +kernel
theorem dX9_wordCode_82 : decode cX9_wordCode 82 = .ok (.ireturn, 1) := by decide +kernel
theorem dX9_isKnown_0 : decode cX9_isKnown 0 = .ok (.iconst 0, 1) := by decide +kernel
theorem dX9_isKnown_1 : decode cX9_isKnown 1 = .ok (.istore 4, 2) := by decide +kernel
theorem dX9_isKnown_3 : decode cX9_isKnown 3 = .ok (.iload 4, 2) := by decide +kernel
theorem dX9_isKnown_5 : decode cX9_isKnown 5 = .ok (.iload_n 3, 1) := by decide +kernel
theorem dX9_isKnown_6 : decode cX9_isKnown 6 = .ok (.if_icmp .ge 55, 3) := by decide +kernel
theorem dX9_isKnown_9 : decode cX9_isKnown 9 = .ok (.iload_n 1, 1) := by decide +kernel
theorem dX9_isKnown_10 : decode cX9_isKnown 10 = .ok (.iload 4, 2) := by decide +kernel
theorem dX9_isKnown_12 : decode cX9_isKnown 12 = .ok (.iadd, 1) := by decide +kernel
theorem dX9_isKnown_13 : decode cX9_isKnown 13 = .ok (.ldc 69, 2) := by decide +kernel
theorem dX9_isKnown_15 : decode cX9_isKnown 15 = .ok (.invokevirtual 71, 3) := by decide +kernel
theorem dX9_isKnown_18 : decode cX9_isKnown 18 = .ok (.if_icmp .ge 43, 3) := by decide +kernel
theorem dX9_isKnown_21 : decode cX9_isKnown 21 = .ok (.iload_n 2, 1) := by decide +kernel
theorem dX9_isKnown_22 : decode cX9_isKnown 22 = .ok (.iload 4, 2) := by decide +kernel
theorem dX9_isKnown_24 : decode cX9_isKnown 24 = .ok (.iadd, 1) := by decide +kernel
theorem dX9_isKnown_25 : decode cX9_isKnown 25 = .ok (.aload_n 0, 1) := by decide +kernel
theorem dX9_isKnown_26 : decode cX9_isKnown 26 = .ok (.getfield 34, 3) := by decide +kernel
theorem dX9_isKnown_29 : decode cX9_isKnown 29 = .ok (.if_icmp .ge 32, 3) := by decide +kernel
theorem dX9_isKnown_32 : decode cX9_isKnown 32 = .ok (.ldc 69, 2) := by decide +kernel
theorem dX9_isKnown_34 : decode cX9_isKnown 34 = .ok (.iload_n 1, 1) := by decide +kernel
theorem dX9_isKnown_35 : decode cX9_isKnown 35 = .ok (.iload 4, 2) := by decide +kernel
theorem dX9_isKnown_37 : decode cX9_isKnown 37 = .ok (.iadd, 1) := by decide +kernel
theorem dX9_isKnown_38 : decode cX9_isKnown 38 = .ok (.invokevirtual 77, 3) := by decide +kernel
theorem dX9_isKnown_41 : decode cX9_isKnown 41 = .ok (.aload_n 0, 1) := by decide +kernel
theorem dX9_isKnown_42 : decode cX9_isKnown 42 = .ok (.getfield 9, 3) := by decide +kernel
theorem dX9_isKnown_45 : decode cX9_isKnown 45 = .ok (.iload_n 2, 1) := by decide +kernel
theorem dX9_isKnown_46 : decode cX9_isKnown 46 = .ok (.iload 4, 2) := by decide +kernel
theorem dX9_isKnown_48 : decode cX9_isKnown 48 = .ok (.iadd, 1) := by decide +kernel
theorem dX9_isKnown_49 : decode cX9_isKnown 49 = .ok (.iaload, 1) := by decide +kernel
theorem dX9_isKnown_50 : decode cX9_isKnown 50 = .ok (.if_icmp .eq 5, 3) := by decide +kernel
theorem dX9_isKnown_53 : decode cX9_isKnown 53 = .ok (.iconst 0, 1) := by decide +kernel
theorem dX9_isKnown_54 : decode cX9_isKnown 54 = .ok (.ireturn, 1) := by decide +kernel
theorem dX9_isKnown_55 : decode cX9_isKnown 55 = .ok (.iinc 4 1, 3) := by decide +kernel
theorem dX9_isKnown_58 : decode cX9_isKnown 58 = .ok (.goto (-55), 3) := by decide +kernel
theorem dX9_isKnown_61 : decode cX9_isKnown 61 = .ok (.iconst 1, 1) := by decide +kernel
theorem dX9_isKnown_62 : decode cX9_isKnown 62 = .ok (.ireturn, 1) := by decide +kernel
theorem dX9_code_0 : decode cX9_code 0 = .ok (.aload_n 0, 1) := by decide +kernel
theorem dX9_code_1 : decode cX9_code 1 = .ok (.getfield 15, 3) := by decide +kernel
theorem dX9_code_4 : decode cX9_code 4 = .ok (.aload_n 0, 1) := by decide +kernel
theorem dX9_code_5 : decode cX9_code 5 = .ok (.getfield 46, 3) := by decide +kernel
theorem dX9_code_8 : decode cX9_code 8 = .ok (.iaload, 1) := by decide +kernel
theorem dX9_code_9 : decode cX9_code 9 = .ok (.ireturn, 1) := by decide +kernel
theorem dX9_step_0 : decode cX9_step 0 = .ok (.aload_n 0, 1) := by decide +kernel
theorem dX9_step_1 : decode cX9_step 1 = .ok (.getfield 46, 3) := by decide +kernel
theorem dX9_step_4 : decode cX9_step 4 = .ok (.aload_n 0, 1) := by decide +kernel
theorem dX9_step_5 : decode cX9_step 5 = .ok (.getfield 43, 3) := by decide +kernel
theorem dX9_step_8 : decode cX9_step 8 = .ok (.if_icmp .ge 13, 3) := by decide +kernel
theorem dX9_step_11 : decode cX9_step 11 = .ok (.aload_n 0, 1) := by decide +kernel
theorem dX9_step_12 : decode cX9_step 12 = .ok (.dup, 1) := by decide +kernel
theorem dX9_step_13 : decode cX9_step 13 = .ok (.getfield 46, 3) := by decide +kernel
theorem dX9_step_16 : decode cX9_step 16 = .ok (.iconst 1, 1) := by decide +kernel
theorem dX9_step_17 : decode cX9_step 17 = .ok (.iadd, 1) := by decide +kernel
theorem dX9_step_18 : decode cX9_step 18 = .ok (.putfield 46, 3) := by decide +kernel
theorem dX9_step_21 : decode cX9_step 21 = .ok (.return_, 1) := by decide +kernel
theorem dX9_fail_0 : decode cX9_fail 0 = .ok (.aload_n 0, 1) := by decide +kernel
theorem dX9_fail_1 : decode cX9_fail 1 = .ok (.aload_n 0, 1) := by decide +kernel
theorem dX9_fail_2 : decode cX9_fail 2 = .ok (.getfield 18, 3) := by decide +kernel
theorem dX9_fail_5 : decode cX9_fail 5 = .ok (.aload_n 0, 1) := by decide +kernel
theorem dX9_fail_6 : decode cX9_fail 6 = .ok (.getfield 46, 3) := by decide +kernel
theorem dX9_fail_9 : decode cX9_fail 9 = .ok (.iaload, 1) := by decide +kernel
theorem dX9_fail_10 : decode cX9_fail 10 = .ok (.putfield 24, 3) := by decide +kernel
theorem dX9_fail_13 : decode cX9_fail 13 = .ok (.iconst 0, 1) := by decide +kernel
theorem dX9_fail_14 : decode cX9_fail 14 = .ok (.ireturn, 1) := by decide +kernel
theorem dX9_pass_0 : decode cX9_pass 0 = .ok (.aload_n 0, 1) := by decide +kernel
theorem dX9_pass_1 : decode cX9_pass 1 = .ok (.getfield 46, 3) := by decide +kernel
theorem dX9_pass_4 : decode cX9_pass 4 = .ok (.aload_n 0, 1) := by decide +kernel
theorem dX9_pass_5 : decode cX9_pass 5 = .ok (.getfield 43, 3) := by decide +kernel
theorem dX9_pass_8 : decode cX9_pass 8 = .ok (.if_icmp .ge 16, 3) := by decide +kernel
theorem dX9_pass_11 : decode cX9_pass 11 = .ok (.aload_n 0, 1) := by decide +kernel
theorem dX9_pass_12 : decode cX9_pass 12 = .ok (.getfield 15, 3) := by decide +kernel
theorem dX9_pass_15 : decode cX9_pass 15 = .ok (.aload_n 0, 1) := by decide +kernel
theorem dX9_pass_16 : decode cX9_pass 16 = .ok (.getfield 46, 3) := by decide +kernel
theorem dX9_pass_19 : decode cX9_pass 19 = .ok (.iaload, 1) := by decide +kernel
theorem dX9_pass_20 : decode cX9_pass 20 = .ok (.iload_n 1, 1) := by decide +kernel
theorem dX9_pass_21 : decode cX9_pass 21 = .ok (.if_icmp .eq 18, 3) := by decide +kernel
theorem dX9_pass_24 : decode cX9_pass 24 = .ok (.aload_n 0, 1) := by decide +kernel
theorem dX9_pass_25 : decode cX9_pass 25 = .ok (.aload_n 0, 1) := by decide +kernel
theorem dX9_pass_26 : decode cX9_pass 26 = .ok (.getfield 18, 3) := by decide +kernel
theorem dX9_pass_29 : decode cX9_pass 29 = .ok (.aload_n 0, 1) := by decide +kernel
theorem dX9_pass_30 : decode cX9_pass 30 = .ok (.getfield 46, 3) := by decide +kernel
theorem dX9_pass_33 : decode cX9_pass 33 = .ok (.iaload, 1) := by decide +kernel
theorem dX9_pass_34 : decode cX9_pass 34 = .ok (.putfield 24, 3) := by decide +kernel
theorem dX9_pass_37 : decode cX9_pass 37 = .ok (.iconst 0, 1) := by decide +kernel
theorem dX9_pass_38 : decode cX9_pass 38 = .ok (.ireturn, 1) := by decide +kernel
theorem dX9_pass_39 : decode cX9_pass 39 = .ok (.aload_n 0, 1) := by decide +kernel
theorem dX9_pass_40 : decode cX9_pass 40 = .ok (.dup, 1) := by decide +kernel
theorem dX9_pass_41 : decode cX9_pass 41 = .ok (.getfield 46, 3) := by decide +kernel
theorem dX9_pass_44 : decode cX9_pass 44 = .ok (.iconst 1, 1) := by decide +kernel
theorem dX9_pass_45 : decode cX9_pass 45 = .ok (.iadd, 1) := by decide +kernel
theorem dX9_pass_46 : decode cX9_pass 46 = .ok (.putfield 46, 3) := by decide +kernel
theorem dX9_pass_49 : decode cX9_pass 49 = .ok (.iconst 1, 1) := by decide +kernel
theorem dX9_pass_50 : decode cX9_pass 50 = .ok (.ireturn, 1) := by decide +kernel
theorem dX9_takeNumber_0 : decode cX9_takeNumber 0 = .ok (.aload_n 0, 1) := by decide +kernel
theorem dX9_takeNumber_1 : decode cX9_takeNumber 1 = .ok (.getfield 15, 3) := by decide +kernel
theorem dX9_takeNumber_4 : decode cX9_takeNumber 4 = .ok (.aload_n 0, 1) := by decide +kernel
theorem dX9_takeNumber_5 : decode cX9_takeNumber 5 = .ok (.getfield 46, 3) := by decide +kernel
theorem dX9_takeNumber_8 : decode cX9_takeNumber 8 = .ok (.iaload, 1) := by decide +kernel
theorem dX9_takeNumber_9 : decode cX9_takeNumber 9 = .ok (.istore_n 3, 1) := by decide +kernel
theorem dX9_takeNumber_10 : decode cX9_takeNumber 10 = .ok (.iload_n 3, 1) := by decide +kernel
theorem dX9_takeNumber_11 : decode cX9_takeNumber 11 = .ok (.sipush 999, 3) := by decide +kernel
theorem dX9_takeNumber_14 : decode cX9_takeNumber 14 = .ok (.if_icmp .gt 13, 3) := by decide +kernel
theorem dX9_takeNumber_17 : decode cX9_takeNumber 17 = .ok (.iload_n 3, 1) := by decide +kernel
theorem dX9_takeNumber_18 : decode cX9_takeNumber 18 = .ok (.iload_n 1, 1) := by decide +kernel
theorem dX9_takeNumber_19 : decode cX9_takeNumber 19 = .ok (.if_icmp .lt 8, 3) := by decide +kernel
theorem dX9_takeNumber_22 : decode cX9_takeNumber 22 = .ok (.iload_n 3, 1) := by decide +kernel
theorem dX9_takeNumber_23 : decode cX9_takeNumber 23 = .ok (.iload_n 2, 1) := by decide +kernel
theorem dX9_takeNumber_24 : decode cX9_takeNumber 24 = .ok (.if_icmp .le 10, 3) := by decide +kernel
theorem dX9_takeNumber_27 : decode cX9_takeNumber 27 = .ok (.aload_n 0, 1) := by decide +kernel
theorem dX9_takeNumber_28 : decode cX9_takeNumber 28 = .ok (.invokevirtual 85, 3) := by decide +kernel
theorem dX9_takeNumber_31 : decode cX9_takeNumber 31 = .ok (.pop, 1) := by decide +kernel
theorem dX9_takeNumber_32 : decode cX9_takeNumber 32 = .ok (.iconst (-1), 1) := by decide +kernel
theorem dX9_takeNumber_33 : decode cX9_takeNumber 33 = .ok (.ireturn, 1) := by decide +kernel
theorem dX9_takeNumber_34 : decode cX9_takeNumber 34 = .ok (.aload_n 0, 1) := by decide +kernel
theorem dX9_takeNumber_35 : decode cX9_takeNumber 35 = .ok (.invokevirtual 89, 3) := by decide +kernel
theorem dX9_takeNumber_38 : decode cX9_takeNumber 38 = .ok (.iload_n 3, 1) := by decide +kernel
theorem dX9_takeNumber_39 : decode cX9_takeNumber 39 = .ok (.ireturn, 1) := by decide +kernel
theorem dX9_takeKind_0 : decode cX9_takeKind 0 = .ok (.aload_n 0, 1) := by decide +kernel
theorem dX9_takeKind_1 : decode cX9_takeKind 1 = .ok (.invokevirtual 92, 3) := by decide +kernel
theorem dX9_takeKind_4 : decode cX9_takeKind 4 = .ok (.iconst 1, 1) := by decide +kernel
theorem dX9_takeKind_5 : decode cX9_takeKind 5 = .ok (.if_icmp .eq 10, 3) := by decide +kernel
theorem dX9_takeKind_8 : decode cX9_takeKind 8 = .ok (.aload_n 0, 1) := by decide +kernel
theorem dX9_takeKind_9 : decode cX9_takeKind 9 = .ok (.invokevirtual 85, 3) := by decide +kernel
theorem dX9_takeKind_12 : decode cX9_takeKind 12 = .ok (.pop, 1) := by decide +kernel
theorem dX9_takeKind_13 : decode cX9_takeKind 13 = .ok (.iconst (-1), 1) := by decide +kernel
theorem dX9_takeKind_14 : decode cX9_takeKind 14 = .ok (.ireturn, 1) := by decide +kernel
theorem dX9_takeKind_15 : decode cX9_takeKind 15 = .ok (.aload_n 0, 1) := by decide +kernel
theorem dX9_takeKind_16 : decode cX9_takeKind 16 = .ok (.iconst 0, 1) := by decide +kernel
theorem dX9_takeKind_17 : decode cX9_takeKind 17 = .ok (.invokevirtual 95, 3) := by decide +kernel
theorem dX9_takeKind_20 : decode cX9_takeKind 20 = .ok (.istore_n 1, 1) := by decide +kernel
theorem dX9_takeKind_21 : decode cX9_takeKind 21 = .ok (.aload_n 0, 1) := by decide +kernel
theorem dX9_takeKind_22 : decode cX9_takeKind 22 = .ok (.invokevirtual 89, 3) := by decide +kernel
theorem dX9_takeKind_25 : decode cX9_takeKind 25 = .ok (.iload_n 1, 1) := by decide +kernel
theorem dX9_takeKind_26 : decode cX9_takeKind 26 = .ok (.ireturn, 1) := by decide +kernel
theorem dX9_countKinds_0 : decode cX9_countKinds 0 = .ok (.aload_n 0, 1) := by decide +kernel
theorem dX9_countKinds_1 : decode cX9_countKinds 1 = .ok (.getfield 21, 3) := by decide +kernel
theorem dX9_countKinds_4 : decode cX9_countKinds 4 = .ok (.aload_n 0, 1) := by decide +kernel
theorem dX9_countKinds_5 : decode cX9_countKinds 5 = .ok (.getfield 46, 3) := by decide +kernel
theorem dX9_countKinds_8 : decode cX9_countKinds 8 = .ok (.iaload, 1) := by decide +kernel
theorem dX9_countKinds_9 : decode cX9_countKinds 9 = .ok (.istore_n 1, 1) := by decide +kernel
theorem dX9_countKinds_10 : decode cX9_countKinds 10 = .ok (.iconst 0, 1) := by decide +kernel
theorem dX9_countKinds_11 : decode cX9_countKinds 11 = .ok (.istore_n 2, 1) := by decide +kernel
theorem dX9_countKinds_12 : decode cX9_countKinds 12 = .ok (.iload_n 2, 1) := by decide +kernel
theorem dX9_countKinds_13 : decode cX9_countKinds 13 = .ok (.iload_n 1, 1) := by decide +kernel
theorem dX9_countKinds_14 : decode cX9_countKinds 14 = .ok (.if_icmp .ge 20, 3) := by decide +kernel
theorem dX9_countKinds_17 : decode cX9_countKinds 17 = .ok (.aload_n 0, 1) := by decide +kernel
theorem dX9_countKinds_18 : decode cX9_countKinds 18 = .ok (.iload_n 2, 1) := by decide +kernel
theorem dX9_countKinds_19 : decode cX9_countKinds 19 = .ok (.invokevirtual 95, 3) := by decide +kernel
theorem dX9_countKinds_22 : decode cX9_countKinds 22 = .ok (.iconst (-1), 1) := by decide +kernel
theorem dX9_countKinds_23 : decode cX9_countKinds 23 = .ok (.if_icmp .ne 5, 3) := by decide +kernel
theorem dX9_countKinds_26 : decode cX9_countKinds 26 = .ok (.iconst 0, 1) := by decide +kernel
theorem dX9_countKinds_27 : decode cX9_countKinds 27 = .ok (.ireturn, 1) := by decide +kernel
theorem dX9_countKinds_28 : decode cX9_countKinds 28 = .ok (.iinc 2 1, 3) := by decide +kernel
theorem dX9_countKinds_31 : decode cX9_countKinds 31 = .ok (.goto (-19), 3) := by decide +kernel
theorem dX9_countKinds_34 : decode cX9_countKinds 34 = .ok (.iload_n 1, 1) := by decide +kernel
theorem dX9_countKinds_35 : decode cX9_countKinds 35 = .ok (.bipush 24, 2) := by decide +kernel
theorem dX9_countKinds_37 : decode cX9_countKinds 37 = .ok (.if_icmp .gt 7, 3) := by decide +kernel
theorem dX9_countKinds_40 : decode cX9_countKinds 40 = .ok (.iload_n 1, 1) := by decide +kernel
theorem dX9_countKinds_41 : decode cX9_countKinds 41 = .ok (.goto 4, 3) := by decide +kernel
theorem dX9_countKinds_44 : decode cX9_countKinds 44 = .ok (.iconst 0, 1) := by decide +kernel
theorem dX9_countKinds_45 : decode cX9_countKinds 45 = .ok (.ireturn, 1) := by decide +kernel
theorem dX9_kindIn_0 : decode cX9_kindIn 0 = .ok (.aload_n 0, 1) := by decide +kernel
theorem dX9_kindIn_1 : decode cX9_kindIn 1 = .ok (.getfield 18, 3) := by decide +kernel
theorem dX9_kindIn_4 : decode cX9_kindIn 4 = .ok (.aload_n 0, 1) := by decide +kernel
theorem dX9_kindIn_5 : decode cX9_kindIn 5 = .ok (.getfield 46, 3) := by decide +kernel
theorem dX9_kindIn_8 : decode cX9_kindIn 8 = .ok (.iaload, 1) := by decide +kernel
theorem dX9_kindIn_9 : decode cX9_kindIn 9 = .ok (.iload_n 1, 1) := by decide +kernel
theorem dX9_kindIn_10 : decode cX9_kindIn 10 = .ok (.iadd, 1) := by decide +kernel
theorem dX9_kindIn_11 : decode cX9_kindIn 11 = .ok (.istore_n 2, 1) := by decide +kernel
theorem dX9_kindIn_12 : decode cX9_kindIn 12 = .ok (.iload_n 2, 1) := by decide +kernel
theorem dX9_kindIn_13 : decode cX9_kindIn 13 = .ok (.ifCond .lt 23, 3) := by decide +kernel
theorem dX9_kindIn_16 : decode cX9_kindIn 16 = .ok (.iload_n 2, 1) := by decide +kernel
theorem dX9_kindIn_17 : decode cX9_kindIn 17 = .ok (.aload_n 0, 1) := by decide +kernel
theorem dX9_kindIn_18 : decode cX9_kindIn 18 = .ok (.getfield 34, 3) := by decide +kernel
theorem dX9_kindIn_21 : decode cX9_kindIn 21 = .ok (.if_icmp .ge 15, 3) := by decide +kernel
theorem dX9_kindIn_24 : decode cX9_kindIn 24 = .ok (.aload_n 0, 1) := by decide +kernel
theorem dX9_kindIn_25 : decode cX9_kindIn 25 = .ok (.getfield 9, 3) := by decide +kernel
theorem dX9_kindIn_28 : decode cX9_kindIn 28 = .ok (.iload_n 2, 1) := by decide +kernel
theorem dX9_kindIn_29 : decode cX9_kindIn 29 = .ok (.iaload, 1) := by decide +kernel
theorem dX9_kindIn_30 : decode cX9_kindIn 30 = .ok (.bipush 97, 2) := by decide +kernel
theorem dX9_kindIn_32 : decode cX9_kindIn 32 = .ok (.isub, 1) := by decide +kernel
theorem dX9_kindIn_33 : decode cX9_kindIn 33 = .ok (.goto 4, 3) := by decide +kernel
theorem dX9_kindIn_36 : decode cX9_kindIn 36 = .ok (.iconst (-1), 1) := by decide +kernel
theorem dX9_kindIn_37 : decode cX9_kindIn 37 = .ok (.istore_n 3, 1) := by decide +kernel
theorem dX9_kindIn_38 : decode cX9_kindIn 38 = .ok (.iload_n 3, 1) := by decide +kernel
theorem dX9_kindIn_39 : decode cX9_kindIn 39 = .ok (.ifCond .lt 13, 3) := by decide +kernel
theorem dX9_kindIn_42 : decode cX9_kindIn 42 = .ok (.iload_n 3, 1) := by decide +kernel
theorem dX9_kindIn_43 : decode cX9_kindIn 43 = .ok (.bipush 12, 2) := by decide +kernel
theorem dX9_kindIn_45 : decode cX9_kindIn 45 = .ok (.if_icmp .ge 7, 3) := by decide +kernel
theorem dX9_kindIn_48 : decode cX9_kindIn 48 = .ok (.iload_n 3, 1) := by decide +kernel
theorem dX9_kindIn_49 : decode cX9_kindIn 49 = .ok (.goto 4, 3) := by decide +kernel
theorem dX9_kindIn_52 : decode cX9_kindIn 52 = .ok (.iconst (-1), 1) := by decide +kernel
theorem dX9_kindIn_53 : decode cX9_kindIn 53 = .ok (.ireturn, 1) := by decide +kernel
theorem dX10_init_0 : decode cX10_init 0 = .ok (.aload_n 0, 1) := by decide +kernel
theorem dX10_init_1 : decode cX10_init 1 = .ok (.invokespecial 3, 3) := by decide +kernel
theorem dX10_init_4 : decode cX10_init 4 = .ok (.aload_n 0, 1) := by decide +kernel
theorem dX10_init_5 : decode cX10_init 5 = .ok (.new 9, 3) := by decide +kernel
theorem dX10_init_8 : decode cX10_init 8 = .ok (.dup, 1) := by decide +kernel
theorem dX10_init_9 : decode cX10_init 9 = .ok (.invokespecial 11, 3) := by decide +kernel
theorem dX10_init_12 : decode cX10_init 12 = .ok (.putfield 12, 3) := by decide +kernel
theorem dX10_init_15 : decode cX10_init 15 = .ok (.aload_n 0, 1) := by decide +kernel
theorem dX10_init_16 : decode cX10_init 16 = .ok (.new 18, 3) := by decide +kernel
theorem dX10_init_19 : decode cX10_init 19 = .ok (.dup, 1) := by decide +kernel
theorem dX10_init_20 : decode cX10_init 20 = .ok (.invokespecial 20, 3) := by decide +kernel
theorem dX10_init_23 : decode cX10_init 23 = .ok (.putfield 21, 3) := by decide +kernel
theorem dX10_init_26 : decode cX10_init 26 = .ok (.aload_n 0, 1) := by decide +kernel
theorem dX10_init_27 : decode cX10_init 27 = .ok (.bipush 12, 2) := by decide +kernel
theorem dX10_init_29 : decode cX10_init 29 = .ok (.newarray .int, 2) := by decide +kernel
theorem dX10_init_31 : decode cX10_init 31 = .ok (.putfield 25, 3) := by decide +kernel
theorem dX10_init_34 : decode cX10_init 34 = .ok (.aload_n 0, 1) := by decide +kernel
theorem dX10_init_35 : decode cX10_init 35 = .ok (.bipush 8, 2) := by decide +kernel
theorem dX10_init_37 : decode cX10_init 37 = .ok (.newarray .int, 2) := by decide +kernel
theorem dX10_init_39 : decode cX10_init 39 = .ok (.putfield 29, 3) := by decide +kernel
theorem dX10_init_42 : decode cX10_init 42 = .ok (.aload_n 0, 1) := by decide +kernel
theorem dX10_init_43 : decode cX10_init 43 = .ok (.bipush 8, 2) := by decide +kernel
theorem dX10_init_45 : decode cX10_init 45 = .ok (.newarray .int, 2) := by decide +kernel
theorem dX10_init_47 : decode cX10_init 47 = .ok (.putfield 32, 3) := by decide +kernel
theorem dX10_init_50 : decode cX10_init 50 = .ok (.iconst 0, 1) := by decide +kernel
theorem dX10_init_51 : decode cX10_init 51 = .ok (.istore_n 1, 1) := by decide +kernel
theorem dX10_init_52 : decode cX10_init 52 = .ok (.iload_n 1, 1) := by decide +kernel
theorem dX10_init_53 : decode cX10_init 53 = .ok (.bipush 12, 2) := by decide +kernel
theorem dX10_init_55 : decode cX10_init 55 = .ok (.if_icmp .ge 16, 3) := by decide +kernel
theorem dX10_init_58 : decode cX10_init 58 = .ok (.aload_n 0, 1) := by decide +kernel
theorem dX10_init_59 : decode cX10_init 59 = .ok (.getfield 25, 3) := by decide +kernel
theorem dX10_init_62 : decode cX10_init 62 = .ok (.iload_n 1, 1) := by decide +kernel
theorem dX10_init_63 : decode cX10_init 63 = .ok (.iconst 3, 1) := by decide +kernel
theorem dX10_init_64 : decode cX10_init 64 = .ok (.iastore, 1) := by decide +kernel
theorem dX10_init_65 : decode cX10_init 65 = .ok (.iinc 1 1, 3) := by decide +kernel
theorem dX10_init_68 : decode cX10_init 68 = .ok (.goto (-16), 3) := by decide +kernel
theorem dX10_init_71 : decode cX10_init 71 = .ok (.return_, 1) := by decide +kernel
theorem dX10_become_0 : decode cX10_become 0 = .ok (.aload_n 0, 1) := by decide +kernel
theorem dX10_become_1 : decode cX10_become 1 = .ok (.getfield 12, 3) := by decide +kernel
theorem dX10_become_4 : decode cX10_become 4 = .ok (.aload_n 1, 1) := by decide +kernel
theorem dX10_become_5 : decode cX10_become 5 = .ok (.getfield 12, 3) := by decide +kernel
theorem dX10_become_8 : decode cX10_become 8 = .ok (.invokevirtual 35, 3) := by decide +kernel
theorem dX10_become_11 : decode cX10_become 11 = .ok (.aload_n 0, 1) := by decide +kernel
theorem dX10_become_12 : decode cX10_become 12 = .ok (.getfield 21, 3) := by decide +kernel
theorem dX10_become_15 : decode cX10_become 15 = .ok (.aload_n 1, 1) := by decide +kernel
theorem dX10_become_16 : decode cX10_become 16 = .ok (.getfield 21, 3) := by decide +kernel
theorem dX10_become_19 : decode cX10_become 19 = .ok (.invokevirtual 39, 3) := by decide +kernel
theorem dX10_become_22 : decode cX10_become 22 = .ok (.aload_n 1, 1) := by decide +kernel
theorem dX10_become_23 : decode cX10_become 23 = .ok (.getfield 25, 3) := by decide +kernel
theorem dX10_become_26 : decode cX10_become 26 = .ok (.iconst 0, 1) := by decide +kernel
theorem dX10_become_27 : decode cX10_become 27 = .ok (.aload_n 0, 1) := by decide +kernel
theorem dX10_become_28 : decode cX10_become 28 = .ok (.getfield 25, 3) := by decide +kernel
theorem dX10_become_31 : decode cX10_become 31 = .ok (.iconst 0, 1) := by decide +kernel
theorem dX10_become_32 : decode cX10_become 32 = .ok (.bipush 12, 2) := by decide +kernel
theorem dX10_become_34 : decode cX10_become 34 = .ok (.invokestatic 42, 3) := by decide +kernel
theorem dX10_become_37 : decode cX10_become 37 = .ok (.aload_n 1, 1) := by decide +kernel
theorem dX10_become_38 : decode cX10_become 38 = .ok (.getfield 29, 3) := by decide +kernel
theorem dX10_become_41 : decode cX10_become 41 = .ok (.iconst 0, 1) := by decide +kernel
theorem dX10_become_42 : decode cX10_become 42 = .ok (.aload_n 0, 1) := by decide +kernel
theorem dX10_become_43 : decode cX10_become 43 = .ok (.getfield 29, 3) := by decide +kernel
theorem dX10_become_46 : decode cX10_become 46 = .ok (.iconst 0, 1) := by decide +kernel
theorem dX10_become_47 : decode cX10_become 47 = .ok (.bipush 8, 2) := by decide +kernel
theorem dX10_become_49 : decode cX10_become 49 = .ok (.invokestatic 42, 3) := by decide +kernel
theorem dX10_become_52 : decode cX10_become 52 = .ok (.aload_n 1, 1) := by decide +kernel
theorem dX10_become_53 : decode cX10_become 53 = .ok (.getfield 32, 3) := by decide +kernel
theorem dX10_become_56 : decode cX10_become 56 = .ok (.iconst 0, 1) := by decide +kernel
theorem dX10_become_57 : decode cX10_become 57 = .ok (.aload_n 0, 1) := by decide +kernel
theorem dX10_become_58 : decode cX10_become 58 = .ok (.getfield 32, 3) := by decide +kernel
theorem dX10_become_61 : decode cX10_become 61 = .ok (.iconst 0, 1) := by decide +kernel
theorem dX10_become_62 : decode cX10_become 62 = .ok (.bipush 8, 2) := by decide +kernel
theorem dX10_become_64 : decode cX10_become 64 = .ok (.invokestatic 42, 3) := by decide +kernel
theorem dX10_become_67 : decode cX10_become 67 = .ok (.aload_n 0, 1) := by decide +kernel
theorem dX10_become_68 : decode cX10_become 68 = .ok (.aload_n 1, 1) := by decide +kernel
theorem dX10_become_69 : decode cX10_become 69 = .ok (.getfield 48, 3) := by decide +kernel
theorem dX10_become_72 : decode cX10_become 72 = .ok (.putfield 48, 3) := by decide +kernel
theorem dX10_become_75 : decode cX10_become 75 = .ok (.aload_n 0, 1) := by decide +kernel
theorem dX10_become_76 : decode cX10_become 76 = .ok (.aload_n 1, 1) := by decide +kernel
theorem dX10_become_77 : decode cX10_become 77 = .ok (.getfield 52, 3) := by decide +kernel
theorem dX10_become_80 : decode cX10_become 80 = .ok (.putfield 52, 3) := by decide +kernel
theorem dX10_become_83 : decode cX10_become 83 = .ok (.aload_n 0, 1) := by decide +kernel
theorem dX10_become_84 : decode cX10_become 84 = .ok (.aload_n 1, 1) := by decide +kernel
theorem dX10_become_85 : decode cX10_become 85 = .ok (.getfield 55, 3) := by decide +kernel
theorem dX10_become_88 : decode cX10_become 88 = .ok (.putfield 55, 3) := by decide +kernel
theorem dX10_become_91 : decode cX10_become 91 = .ok (.return_, 1) := by decide +kernel
theorem dX10_setWords_0 : decode cX10_setWords 0 = .ok (.iload_n 1, 1) := by decide +kernel
theorem dX10_setWords_1 : decode cX10_setWords 1 = .ok (.ifCond .lt 16, 3) := by decide +kernel
theorem dX10_setWords_4 : decode cX10_setWords 4 = .ok (.iload_n 1, 1) := by decide +kernel
theorem dX10_setWords_5 : decode cX10_setWords 5 = .ok (.bipush 12, 2) := by decide +kernel
theorem dX10_setWords_7 : decode cX10_setWords 7 = .ok (.if_icmp .ge 10, 3) := by decide +kernel
theorem dX10_setWords_10 : decode cX10_setWords 10 = .ok (.aload_n 0, 1) := by decide +kernel
theorem dX10_setWords_11 : decode cX10_setWords 11 = .ok (.getfield 25, 3) := by decide +kernel
theorem dX10_setWords_14 : decode cX10_setWords 14 = .ok (.iload_n 1, 1) := by decide +kernel
theorem dX10_setWords_15 : decode cX10_setWords 15 = .ok (.iload_n 2, 1) := by decide +kernel
theorem dX10_setWords_16 : decode cX10_setWords 16 = .ok (.iastore, 1) := by decide +kernel
theorem dX10_setWords_17 : decode cX10_setWords 17 = .ok (.return_, 1) := by decide +kernel
theorem dX10_addPromise_0 : decode cX10_addPromise 0 = .ok (.aload_n 0, 1) := by decide +kernel
theorem dX10_addPromise_1 : decode cX10_addPromise 1 = .ok (.getfield 48, 3) := by decide +kernel
theorem dX10_addPromise_4 : decode cX10_addPromise 4 = .ok (.bipush 8, 2) := by decide +kernel
theorem dX10_addPromise_6 : decode cX10_addPromise 6 = .ok (.if_icmp .ge 33, 3) := by decide +kernel
theorem dX10_addPromise_9 : decode cX10_addPromise 9 = .ok (.aload_n 0, 1) := by decide +kernel
theorem dX10_addPromise_10 : decode cX10_addPromise 10 = .ok (.getfield 29, 3) := by decide +kernel
theorem dX10_addPromise_13 : decode cX10_addPromise 13 = .ok (.aload_n 0, 1) := by decide +kernel
theorem dX10_addPromise_14 : decode cX10_addPromise 14 = .ok (.getfield 48, 3) := by decide +kernel
theorem dX10_addPromise_17 : decode cX10_addPromise 17 = .ok (.iload_n 1, 1) := by decide +kernel
theorem dX10_addPromise_18 : decode cX10_addPromise 18 = .ok (.iastore, 1) := by decide +kernel
theorem dX10_addPromise_19 : decode cX10_addPromise 19 = .ok (.aload_n 0, 1) := by decide +kernel
theorem dX10_addPromise_20 : decode cX10_addPromise 20 = .ok (.getfield 32, 3) := by decide +kernel
theorem dX10_addPromise_23 : decode cX10_addPromise 23 = .ok (.aload_n 0, 1) := by decide +kernel
theorem dX10_addPromise_24 : decode cX10_addPromise 24 = .ok (.getfield 48, 3) := by decide +kernel
theorem dX10_addPromise_27 : decode cX10_addPromise 27 = .ok (.iload_n 2, 1) := by decide +kernel
theorem dX10_addPromise_28 : decode cX10_addPromise 28 = .ok (.iastore, 1) := by decide +kernel
theorem dX10_addPromise_29 : decode cX10_addPromise 29 = .ok (.aload_n 0, 1) := by decide +kernel
theorem dX10_addPromise_30 : decode cX10_addPromise 30 = .ok (.dup, 1) := by decide +kernel
theorem dX10_addPromise_31 : decode cX10_addPromise 31 = .ok (.getfield 48, 3) := by decide +kernel
theorem dX10_addPromise_34 : decode cX10_addPromise 34 = .ok (.iconst 1, 1) := by decide +kernel
theorem dX10_addPromise_35 : decode cX10_addPromise 35 = .ok (.iadd, 1) := by decide +kernel
theorem dX10_addPromise_36 : decode cX10_addPromise 36 = .ok (.putfield 48, 3) := by decide +kernel
theorem dX10_addPromise_39 : decode cX10_addPromise 39 = .ok (.return_, 1) := by decide +kernel
theorem dX10_promised_0 : decode cX10_promised 0 = .ok (.iload_n 1, 1) := by decide +kernel
theorem dX10_promised_1 : decode cX10_promised 1 = .ok (.ifCond .lt 11, 3) := by decide +kernel
theorem dX10_promised_4 : decode cX10_promised 4 = .ok (.iload_n 1, 1) := by decide +kernel
theorem dX10_promised_5 : decode cX10_promised 5 = .ok (.aload_n 0, 1) := by decide +kernel
theorem dX10_promised_6 : decode cX10_promised 6 = .ok (.getfield 48, 3) := by decide +kernel
theorem dX10_promised_9 : decode cX10_promised 9 = .ok (.if_icmp .lt 5, 3) := by decide +kernel
theorem dX10_promised_12 : decode cX10_promised 12 = .ok (.iconst (-1), 1) := by decide +kernel
theorem dX10_promised_13 : decode cX10_promised 13 = .ok (.ireturn, 1) := by decide +kernel
theorem dX10_promised_14 : decode cX10_promised 14 = .ok (.iload_n 2, 1) := by decide +kernel
theorem dX10_promised_15 : decode cX10_promised 15 = .ok (.ifCond .eq 12, 3) := by decide +kernel
theorem dX10_promised_18 : decode cX10_promised 18 = .ok (.aload_n 0, 1) := by decide +kernel
theorem dX10_promised_19 : decode cX10_promised 19 = .ok (.getfield 32, 3) := by decide +kernel
theorem dX10_promised_22 : decode cX10_promised 22 = .ok (.iload_n 1, 1) := by decide +kernel
theorem dX10_promised_23 : decode cX10_promised 23 = .ok (.iaload, 1) := by decide +kernel
theorem dX10_promised_24 : decode cX10_promised 24 = .ok (.goto 9, 3) := by decide +kernel
theorem dX10_promised_27 : decode cX10_promised 27 = .ok (.aload_n 0, 1) := by decide +kernel
theorem dX10_promised_28 : decode cX10_promised 28 = .ok (.getfield 29, 3) := by decide +kernel
theorem dX10_promised_31 : decode cX10_promised 31 = .ok (.iload_n 1, 1) := by decide +kernel
theorem dX10_promised_32 : decode cX10_promised 32 = .ok (.iaload, 1) := by decide +kernel
theorem dX10_promised_33 : decode cX10_promised 33 = .ok (.ireturn, 1) := by decide +kernel
theorem dX10_wordsFor_0 : decode cX10_wordsFor 0 = .ok (.iload_n 1, 1) := by decide +kernel
theorem dX10_wordsFor_1 : decode cX10_wordsFor 1 = .ok (.ifCond .lt 18, 3) := by decide +kernel
theorem dX10_wordsFor_4 : decode cX10_wordsFor 4 = .ok (.iload_n 1, 1) := by decide +kernel
theorem dX10_wordsFor_5 : decode cX10_wordsFor 5 = .ok (.bipush 12, 2) := by decide +kernel
theorem dX10_wordsFor_7 : decode cX10_wordsFor 7 = .ok (.if_icmp .ge 12, 3) := by decide +kernel
theorem dX10_wordsFor_10 : decode cX10_wordsFor 10 = .ok (.aload_n 0, 1) := by decide +kernel
theorem dX10_wordsFor_11 : decode cX10_wordsFor 11 = .ok (.getfield 25, 3) := by decide +kernel
theorem dX10_wordsFor_14 : decode cX10_wordsFor 14 = .ok (.iload_n 1, 1) := by decide +kernel
theorem dX10_wordsFor_15 : decode cX10_wordsFor 15 = .ok (.iaload, 1) := by decide +kernel
theorem dX10_wordsFor_16 : decode cX10_wordsFor 16 = .ok (.goto 4, 3) := by decide +kernel
theorem dX10_wordsFor_19 : decode cX10_wordsFor 19 = .ok (.iconst 0, 1) := by decide +kernel
theorem dX10_wordsFor_20 : decode cX10_wordsFor 20 = .ok (.ireturn, 1) := by decide +kernel
theorem dX10_wordsIn_0 : decode cX10_wordsIn 0 = .ok (.iconst 0, 1) := by decide +kernel
theorem dX10_wordsIn_1 : decode cX10_wordsIn 1 = .ok (.istore_n 2, 1) := by decide +kernel
theorem dX10_wordsIn_2 : decode cX10_wordsIn 2 = .ok (.iconst 0, 1) := by decide +kernel
theorem dX10_wordsIn_3 : decode cX10_wordsIn 3 = .ok (.istore_n 3, 1) := by decide +kernel
theorem dX10_wordsIn_4 : decode cX10_wordsIn 4 = .ok (.iload_n 3, 1) := by decide +kernel
theorem dX10_wordsIn_5 : decode cX10_wordsIn 5 = .ok (.aload_n 1, 1) := by decide +kernel
theorem dX10_wordsIn_6 : decode cX10_wordsIn 6 = .ok (.getfield 58, 3) := by decide +kernel
theorem dX10_wordsIn_9 : decode cX10_wordsIn 9 = .ok (.if_icmp .ge 22, 3) := by decide +kernel
theorem dX10_wordsIn_12 : decode cX10_wordsIn 12 = .ok (.iload_n 2, 1) := by decide +kernel
theorem dX10_wordsIn_13 : decode cX10_wordsIn 13 = .ok (.aload_n 0, 1) := by decide +kernel
theorem dX10_wordsIn_14 : decode cX10_wordsIn 14 = .ok (.aload_n 1, 1) := by decide +kernel
theorem dX10_wordsIn_15 : decode cX10_wordsIn 15 = .ok (.getfield 63, 3) := by decide +kernel
theorem dX10_wordsIn_18 : decode cX10_wordsIn 18 = .ok (.iload_n 3, 1) := by decide +kernel
theorem dX10_wordsIn_19 : decode cX10_wordsIn 19 = .ok (.iaload, 1) := by decide +kernel
theorem dX10_wordsIn_20 : decode cX10_wordsIn 20 = .ok (.invokevirtual 66, 3) := by decide +kernel
theorem dX10_wordsIn_23 : decode cX10_wordsIn 23 = .ok (.iadd, 1) := by decide +kernel
theorem dX10_wordsIn_24 : decode cX10_wordsIn 24 = .ok (.istore_n 2, 1) := by decide +kernel
theorem dX10_wordsIn_25 : decode cX10_wordsIn 25 = .ok (.iinc 3 1, 3) := by decide +kernel
theorem dX10_wordsIn_28 : decode cX10_wordsIn 28 = .ok (.goto (-24), 3) := by decide +kernel
theorem dX10_wordsIn_31 : decode cX10_wordsIn 31 = .ok (.iload_n 2, 1) := by decide +kernel
theorem dX10_wordsIn_32 : decode cX10_wordsIn 32 = .ok (.ireturn, 1) := by decide +kernel
theorem dX10_binding_0 : decode cX10_binding 0 = .ok (.iconst 0, 1) := by decide +kernel
theorem dX10_binding_1 : decode cX10_binding 1 = .ok (.istore_n 2, 1) := by decide +kernel
theorem dX10_binding_2 : decode cX10_binding 2 = .ok (.iconst 0, 1) := by decide +kernel
theorem dX10_binding_3 : decode cX10_binding 3 = .ok (.istore_n 3, 1) := by decide +kernel
theorem dX10_binding_4 : decode cX10_binding 4 = .ok (.iload_n 3, 1) := by decide +kernel
theorem dX10_binding_5 : decode cX10_binding 5 = .ok (.aload_n 0, 1) := by decide +kernel
theorem dX10_binding_6 : decode cX10_binding 6 = .ok (.getfield 48, 3) := by decide +kernel
theorem dX10_binding_9 : decode cX10_binding 9 = .ok (.if_icmp .ge 34, 3) := by decide +kernel
theorem dX10_binding_12 : decode cX10_binding 12 = .ok (.aload_n 1, 1) := by decide +kernel
theorem dX10_binding_13 : decode cX10_binding 13 = .ok (.aload_n 0, 1) := by decide +kernel
theorem dX10_binding_14 : decode cX10_binding 14 = .ok (.getfield 29, 3) := by decide +kernel
theorem dX10_binding_17 : decode cX10_binding 17 = .ok (.iload_n 3, 1) := by decide +kernel
theorem dX10_binding_18 : decode cX10_binding 18 = .ok (.iaload, 1) := by decide +kernel
theorem dX10_binding_19 : decode cX10_binding 19 = .ok (.aload_n 0, 1) := by decide +kernel
theorem dX10_binding_20 : decode cX10_binding 20 = .ok (.getfield 32, 3) := by decide +kernel
theorem dX10_binding_23 : decode cX10_binding 23 = .ok (.iload_n 3, 1) := by decide +kernel
theorem dX10_binding_24 : decode cX10_binding 24 = .ok (.iaload, 1) := by decide +kernel
theorem dX10_binding_25 : decode cX10_binding 25 = .ok (.invokevirtual 70, 3) := by decide +kernel
theorem dX10_binding_28 : decode cX10_binding 28 = .ok (.ifCond .eq 9, 3) := by decide +kernel
theorem dX10_binding_31 : decode cX10_binding 31 = .ok (.iload_n 2, 1) := by decide +kernel
theorem dX10_binding_32 : decode cX10_binding 32 = .ok (.iconst 1, 1) := by decide +kernel
theorem dX10_binding_33 : decode cX10_binding 33 = .ok (.iload_n 3, 1) := by decide +kernel
theorem dX10_binding_34 : decode cX10_binding 34 = .ok (.ishl, 1) := by decide +kernel
theorem dX10_binding_35 : decode cX10_binding 35 = .ok (.ior, 1) := by decide +kernel
theorem dX10_binding_36 : decode cX10_binding 36 = .ok (.istore_n 2, 1) := by decide +kernel
theorem dX10_binding_37 : decode cX10_binding 37 = .ok (.iinc 3 1, 3) := by decide +kernel
theorem dX10_binding_40 : decode cX10_binding 40 = .ok (.goto (-36), 3) := by decide +kernel
theorem dX10_binding_43 : decode cX10_binding 43 = .ok (.iload_n 2, 1) := by decide +kernel
theorem dX10_binding_44 : decode cX10_binding 44 = .ok (.ireturn, 1) := by decide +kernel
theorem dX10_postageFor_0 : decode cX10_postageFor 0 = .ok (.aload_n 0, 1) := by decide +kernel
theorem dX10_postageFor_1 : decode cX10_postageFor 1 = .ok (.aload_n 1, 1) := by decide +kernel
theorem dX10_postageFor_2 : decode cX10_postageFor 2 = .ok (.invokevirtual 74, 3) := by decide +kernel
theorem dX10_postageFor_5 : decode cX10_postageFor 5 = .ok (.bipush 9, 2) := by decide +kernel
theorem dX10_postageFor_7 : decode cX10_postageFor 7 = .ok (.iadd, 1) := by decide +kernel
theorem dX10_postageFor_8 : decode cX10_postageFor 8 = .ok (.bipush 10, 2) := by decide +kernel
theorem dX10_postageFor_10 : decode cX10_postageFor 10 = .ok (.idiv, 1) := by decide +kernel
theorem dX10_postageFor_11 : decode cX10_postageFor 11 = .ok (.iconst 2, 1) := by decide +kernel
theorem dX10_postageFor_12 : decode cX10_postageFor 12 = .ok (.aload_n 0, 1) := by decide +kernel
theorem dX10_postageFor_13 : decode cX10_postageFor 13 = .ok (.aload_n 1, 1) := by decide +kernel
theorem dX10_postageFor_14 : decode cX10_postageFor 14 = .ok (.invokevirtual 78, 3) := by decide +kernel
theorem dX10_postageFor_17 : decode cX10_postageFor 17 = .ok (.invokestatic 81, 3) := by decide +kernel
theorem dX10_postageFor_20 : decode cX10_postageFor 20 = .ok (.imul, 1) := by decide +kernel
theorem dX10_postageFor_21 : decode cX10_postageFor 21 = .ok (.iadd, 1) := by decide +kernel
theorem dX10_postageFor_22 : decode cX10_postageFor 22 = .ok (.ireturn, 1) := by decide +kernel
theorem dX11_init_0 : decode cX11_init 0 = .ok (.aload_n 0, 1) := by decide +kernel
theorem dX11_init_1 : decode cX11_init 1 = .ok (.invokespecial 3, 3) := by decide +kernel
theorem dX11_init_4 : decode cX11_init 4 = .ok (.aload_n 0, 1) := by decide +kernel
theorem dX11_init_5 : decode cX11_init 5 = .ok (.sipush 400, 3) := by decide +kernel
theorem dX11_init_8 : decode cX11_init 8 = .ok (.newarray .int, 2) := by decide +kernel
theorem dX11_init_10 : decode cX11_init 10 = .ok (.putfield 9, 3) := by decide +kernel
theorem dX11_init_13 : decode cX11_init 13 = .ok (.aload_n 0, 1) := by decide +kernel
theorem dX11_init_14 : decode cX11_init 14 = .ok (.iconst (-1), 1) := by decide +kernel
theorem dX11_init_15 : decode cX11_init 15 = .ok (.putfield 13, 3) := by decide +kernel
theorem dX11_init_18 : decode cX11_init 18 = .ok (.aload_n 0, 1) := by decide +kernel
theorem dX11_init_19 : decode cX11_init 19 = .ok (.new 17, 3) := by decide +kernel
theorem dX11_init_22 : decode cX11_init 22 = .ok (.dup, 1) := by decide +kernel
theorem dX11_init_23 : decode cX11_init 23 = .ok (.invokespecial 19, 3) := by decide +kernel
theorem dX11_init_26 : decode cX11_init 26 = .ok (.putfield 20, 3) := by decide +kernel
theorem dX11_init_29 : decode cX11_init 29 = .ok (.aload_n 0, 1) := by decide +kernel
theorem dX11_init_30 : decode cX11_init 30 = .ok (.new 17, 3) := by decide +kernel
theorem dX11_init_33 : decode cX11_init 33 = .ok (.dup, 1) := by decide +kernel
theorem dX11_init_34 : decode cX11_init 34 = .ok (.invokespecial 19, 3) := by decide +kernel
theorem dX11_init_37 : decode cX11_init 37 = .ok (.putfield 24, 3) := by decide +kernel
theorem dX11_init_40 : decode cX11_init 40 = .ok (.aload_n 0, 1) := by decide +kernel
theorem dX11_init_41 : decode cX11_init 41 = .ok (.new 27, 3) := by decide +kernel
theorem dX11_init_44 : decode cX11_init 44 = .ok (.dup, 1) := by decide +kernel
theorem dX11_init_45 : decode cX11_init 45 = .ok (.invokespecial 29, 3) := by decide +kernel
theorem dX11_init_48 : decode cX11_init 48 = .ok (.putfield 30, 3) := by decide +kernel
theorem dX11_init_51 : decode cX11_init 51 = .ok (.aload_n 0, 1) := by decide +kernel
theorem dX11_init_52 : decode cX11_init 52 = .ok (.new 34, 3) := by decide +kernel
theorem dX11_init_55 : decode cX11_init 55 = .ok (.dup, 1) := by decide +kernel
theorem dX11_init_56 : decode cX11_init 56 = .ok (.invokespecial 36, 3) := by decide +kernel
theorem dX11_init_59 : decode cX11_init 59 = .ok (.putfield 37, 3) := by decide +kernel
theorem dX11_init_62 : decode cX11_init 62 = .ok (.aload_n 0, 1) := by decide +kernel
theorem dX11_init_63 : decode cX11_init 63 = .ok (.new 41, 3) := by decide +kernel
theorem dX11_init_66 : decode cX11_init 66 = .ok (.dup, 1) := by decide +kernel
theorem dX11_init_67 : decode cX11_init 67 = .ok (.invokespecial 43, 3) := by decide +kernel
theorem dX11_init_70 : decode cX11_init 70 = .ok (.putfield 44, 3) := by decide +kernel
theorem dX11_init_73 : decode cX11_init 73 = .ok (.aload_n 0, 1) := by decide +kernel
theorem dX11_init_74 : decode cX11_init 74 = .ok (.new 48, 3) := by decide +kernel
theorem dX11_init_77 : decode cX11_init 77 = .ok (.dup, 1) := by decide +kernel
theorem dX11_init_78 : decode cX11_init 78 = .ok (.invokespecial 50, 3) := by decide +kernel
theorem dX11_init_81 : decode cX11_init 81 = .ok (.putfield 51, 3) := by decide +kernel
theorem dX11_init_84 : decode cX11_init 84 = .ok (.aload_n 0, 1) := by decide +kernel
theorem dX11_init_85 : decode cX11_init 85 = .ok (.new 48, 3) := by decide +kernel
theorem dX11_init_88 : decode cX11_init 88 = .ok (.dup, 1) := by decide +kernel
theorem dX11_init_89 : decode cX11_init 89 = .ok (.invokespecial 50, 3) := by decide +kernel
theorem dX11_init_92 : decode cX11_init 92 = .ok (.putfield 55, 3) := by decide +kernel
theorem dX11_init_95 : decode cX11_init 95 = .ok (.aload_n 0, 1) := by decide +kernel
theorem dX11_init_96 : decode cX11_init 96 = .ok (.new 58, 3) := by decide +kernel
theorem dX11_init_99 : decode cX11_init 99 = .ok (.dup, 1) := by decide +kernel
theorem dX11_init_100 : decode cX11_init 100 = .ok (.invokespecial 60, 3) := by decide +kernel
theorem dX11_init_103 : decode cX11_init 103 = .ok (.putfield 61, 3) := by decide +kernel
theorem dX11_init_106 : decode cX11_init 106 = .ok (.aload_n 0, 1) := by decide +kernel
theorem dX11_init_107 : decode cX11_init 107 = .ok (.new 65, 3) := by decide +kernel
theorem dX11_init_110 : decode cX11_init 110 = .ok (.dup, 1) := by decide +kernel
theorem dX11_init_111 : decode cX11_init 111 = .ok (.invokespecial 67, 3) := by decide +kernel
theorem dX11_init_114 : decode cX11_init 114 = .ok (.putfield 68, 3) := by decide +kernel
theorem dX11_init_117 : decode cX11_init 117 = .ok (.aload_n 0, 1) := by decide +kernel
theorem dX11_init_118 : decode cX11_init 118 = .ok (.bipush 8, 2) := by decide +kernel
theorem dX11_init_120 : decode cX11_init 120 = .ok (.bipush 41, 2) := by decide +kernel
theorem dX11_init_122 : decode cX11_init 122 = .ok (.multianewarray 72 2, 4) := by decide +kernel
theorem dX11_init_126 : decode cX11_init 126 = .ok (.putfield 74, 3) := by decide +kernel
theorem dX11_init_129 : decode cX11_init 129 = .ok (.aload_n 0, 1) := by decide +kernel
theorem dX11_init_130 : decode cX11_init 130 = .ok (.bipush 12, 2) := by decide +kernel
theorem dX11_init_132 : decode cX11_init 132 = .ok (.newarray .int, 2) := by decide +kernel
theorem dX11_init_134 : decode cX11_init 134 = .ok (.putfield 77, 3) := by decide +kernel
theorem dX11_init_137 : decode cX11_init 137 = .ok (.return_, 1) := by decide +kernel
theorem dX11_feed_0 : decode cX11_feed 0 = .ok (.aload_n 0, 1) := by decide +kernel
theorem dX11_feed_1 : decode cX11_feed 1 = .ok (.getfield 80, 3) := by decide +kernel
theorem dX11_feed_4 : decode cX11_feed 4 = .ok (.bipush 20, 2) := by decide +kernel
theorem dX11_feed_6 : decode cX11_feed 6 = .ok (.iadd, 1) := by decide +kernel
theorem dX11_feed_7 : decode cX11_feed 7 = .ok (.sipush 400, 3) := by decide +kernel
theorem dX11_feed_10 : decode cX11_feed 10 = .ok (.if_icmp .le 5, 3) := by decide +kernel
theorem dX11_feed_13 : decode cX11_feed 13 = .ok (.iconst (-1), 1) := by decide +kernel
theorem dX11_feed_14 : decode cX11_feed 14 = .ok (.ireturn, 1) := by decide +kernel
theorem dX11_feed_15 : decode cX11_feed 15 = .ok (.aload_n 0, 1) := by decide +kernel
theorem dX11_feed_16 : decode cX11_feed 16 = .ok (.iload_n 1, 1) := by decide +kernel
theorem dX11_feed_17 : decode cX11_feed 17 = .ok (.invokevirtual 83, 3) := by decide +kernel
theorem dX11_feed_20 : decode cX11_feed 20 = .ok (.aload_n 0, 1) := by decide +kernel
theorem dX11_feed_21 : decode cX11_feed 21 = .ok (.iload_n 2, 1) := by decide +kernel
theorem dX11_feed_22 : decode cX11_feed 22 = .ok (.invokevirtual 83, 3) := by decide +kernel
theorem dX11_feed_25 : decode cX11_feed 25 = .ok (.aload_n 0, 1) := by decide +kernel
theorem dX11_feed_26 : decode cX11_feed 26 = .ok (.iload_n 3, 1) := by decide +kernel
theorem dX11_feed_27 : decode cX11_feed 27 = .ok (.invokevirtual 83, 3) := by decide +kernel
theorem dX11_feed_30 : decode cX11_feed 30 = .ok (.aload_n 0, 1) := by decide +kernel
theorem dX11_feed_31 : decode cX11_feed 31 = .ok (.iload 4, 2) := by decide +kernel
theorem dX11_feed_33 : decode cX11_feed 33 = .ok (.invokevirtual 83, 3) := by decide +kernel
theorem dX11_feed_36 : decode cX11_feed 36 = .ok (.aload_n 0, 1) := by decide +kernel
theorem dX11_feed_37 : decode cX11_feed 37 = .ok (.iload 5, 2) := by decide +kernel
theorem dX11_feed_39 : decode cX11_feed 39 = .ok (.invokevirtual 83, 3) := by decide +kernel
theorem dX11_feed_42 : decode cX11_feed 42 = .ok (.aload_n 0, 1) := by decide +kernel
theorem dX11_feed_43 : decode cX11_feed 43 = .ok (.getfield 80, 3) := by decide +kernel
theorem dX11_feed_46 : decode cX11_feed 46 = .ok (.ireturn, 1) := by decide +kernel
theorem dX11_end_0 : decode cX11_end 0 = .ok (.iload_n 1, 1) := by decide +kernel
theorem dX11_end_1 : decode cX11_end 1 = .ok (.ifCond .lt 11, 3) := by decide +kernel
theorem dX11_end_4 : decode cX11_end 4 = .ok (.iload_n 1, 1) := by decide +kernel
theorem dX11_end_5 : decode cX11_end 5 = .ok (.aload_n 0, 1) := by decide +kernel
theorem dX11_end_6 : decode cX11_end 6 = .ok (.getfield 80, 3) := by decide +kernel
theorem dX11_end_9 : decode cX11_end 9 = .ok (.if_icmp .le 5, 3) := by decide +kernel
theorem dX11_end_12 : decode cX11_end 12 = .ok (.iconst 0, 1) := by decide +kernel
theorem dX11_end_13 : decode cX11_end 13 = .ok (.ireturn, 1) := by decide +kernel
theorem dX11_end_14 : decode cX11_end 14 = .ok (.aload_n 0, 1) := by decide +kernel
theorem dX11_end_15 : decode cX11_end 15 = .ok (.iload_n 1, 1) := by decide +kernel
theorem dX11_end_16 : decode cX11_end 16 = .ok (.putfield 80, 3) := by decide +kernel
theorem dX11_end_19 : decode cX11_end 19 = .ok (.iconst 1, 1) := by decide +kernel
theorem dX11_end_20 : decode cX11_end 20 = .ok (.ireturn, 1) := by decide +kernel
theorem dX11_post_0 : decode cX11_post 0 = .ok (.aload_n 0, 1) := by decide +kernel
theorem dX11_post_1 : decode cX11_post 1 = .ok (.getfield 37, 3) := by decide +kernel
theorem dX11_post_4 : decode cX11_post 4 = .ok (.getfield 87, 3) := by decide +kernel
theorem dX11_post_7 : decode cX11_post 7 = .ok (.aload_n 0, 1) := by decide +kernel
theorem dX11_post_8 : decode cX11_post 8 = .ok (.getfield 20, 3) := by decide +kernel
theorem dX11_post_11 : decode cX11_post 11 = .ok (.invokevirtual 90, 3) := by decide +kernel
theorem dX11_post_14 : decode cX11_post 14 = .ok (.aload_n 0, 1) := by decide +kernel
theorem dX11_post_15 : decode cX11_post 15 = .ok (.getfield 37, 3) := by decide +kernel
theorem dX11_post_18 : decode cX11_post 18 = .ok (.aload_n 0, 1) := by decide +kernel
theorem dX11_post_19 : decode cX11_post 19 = .ok (.getfield 9, 3) := by decide +kernel
theorem dX11_post_22 : decode cX11_post 22 = .ok (.aload_n 0, 1) := by decide +kernel
theorem dX11_post_23 : decode cX11_post 23 = .ok (.getfield 80, 3) := by decide +kernel
theorem dX11_post_26 : decode cX11_post 26 = .ok (.bipush 14, 2) := by decide +kernel
theorem dX11_post_28 : decode cX11_post 28 = .ok (.invokevirtual 94, 3) := by decide +kernel
theorem dX11_post_31 : decode cX11_post 31 = .ok (.istore_n 1, 1) := by decide +kernel
theorem dX11_post_32 : decode cX11_post 32 = .ok (.aload_n 0, 1) := by decide +kernel
theorem dX11_post_33 : decode cX11_post 33 = .ok (.aload_n 0, 1) := by decide +kernel
theorem dX11_post_34 : decode cX11_post 34 = .ok (.getfield 37, 3) := by decide +kernel
theorem dX11_post_37 : decode cX11_post 37 = .ok (.getfield 98, 3) := by decide +kernel
theorem dX11_post_40 : decode cX11_post 40 = .ok (.getfield 102, 3) := by decide +kernel
theorem dX11_post_43 : decode cX11_post 43 = .ok (.invokevirtual 107, 3) := by decide +kernel
theorem dX11_post_46 : decode cX11_post 46 = .ok (.iload_n 1, 1) := by decide +kernel
theorem dX11_post_47 : decode cX11_post 47 = .ok (.ifCond .ne 13, 3) := by decide +kernel
theorem dX11_post_50 : decode cX11_post 50 = .ok (.new 110, 3) := by decide +kernel
theorem dX11_post_53 : decode cX11_post 53 = .ok (.dup, 1) := by decide +kernel
theorem dX11_post_54 : decode cX11_post 54 = .ok (.ldc 112, 2) := by decide +kernel
theorem dX11_post_56 : decode cX11_post 56 = .ok (.invokespecial 114, 3) := by decide +kernel
theorem dX11_post_59 : decode cX11_post 59 = .ok (.athrow, 1) := by decide +kernel
theorem dX11_post_60 : decode cX11_post 60 = .ok (.aload_n 0, 1) := by decide +kernel
theorem dX11_post_61 : decode cX11_post 61 = .ok (.getfield 20, 3) := by decide +kernel
theorem dX11_post_64 : decode cX11_post 64 = .ok (.getfield 117, 3) := by decide +kernel
theorem dX11_post_67 : decode cX11_post 67 = .ok (.bipush 12, 2) := by decide +kernel
theorem dX11_post_69 : decode cX11_post 69 = .ok (.if_icmp .lt 13, 3) := by decide +kernel
theorem dX11_post_72 : decode cX11_post 72 = .ok (.new 120, 3) := by decide +kernel
theorem dX11_post_75 : decode cX11_post 75 = .ok (.dup, 1) := by decide +kernel
theorem dX11_post_76 : decode cX11_post 76 = .ok (.ldc 122, 2) := by decide +kernel
theorem dX11_post_78 : decode cX11_post 78 = .ok (.invokespecial 124, 3) := by decide +kernel
theorem dX11_post_81 : decode cX11_post 81 = .ok (.athrow, 1) := by decide +kernel
theorem dX11_post_82 : decode cX11_post 82 = .ok (.aload_n 0, 1) := by decide +kernel
theorem dX11_post_83 : decode cX11_post 83 = .ok (.getfield 37, 3) := by decide +kernel
theorem dX11_post_86 : decode cX11_post 86 = .ok (.getfield 87, 3) := by decide +kernel
theorem dX11_post_89 : decode cX11_post 89 = .ok (.dup, 1) := by decide +kernel
theorem dX11_post_90 : decode cX11_post 90 = .ok (.getfield 117, 3) := by decide +kernel
theorem dX11_post_93 : decode cX11_post 93 = .ok (.iconst 1, 1) := by decide +kernel
theorem dX11_post_94 : decode cX11_post 94 = .ok (.iadd, 1) := by decide +kernel
theorem dX11_post_95 : decode cX11_post 95 = .ok (.putfield 117, 3) := by decide +kernel
theorem dX11_post_98 : decode cX11_post 98 = .ok (.aload_n 0, 1) := by decide +kernel
theorem dX11_post_99 : decode cX11_post 99 = .ok (.getfield 20, 3) := by decide +kernel
theorem dX11_post_102 : decode cX11_post 102 = .ok (.aload_n 0, 1) := by decide +kernel
theorem dX11_post_103 : decode cX11_post 103 = .ok (.getfield 37, 3) := by decide +kernel
theorem dX11_post_106 : decode cX11_post 106 = .ok (.getfield 87, 3) := by decide +kernel
theorem dX11_post_109 : decode cX11_post 109 = .ok (.invokevirtual 90, 3) := by decide +kernel
theorem dX11_post_112 : decode cX11_post 112 = .ok (.aload_n 0, 1) := by decide +kernel
theorem dX11_post_113 : decode cX11_post 113 = .ok (.getfield 30, 3) := by decide +kernel
theorem dX11_post_116 : decode cX11_post 116 = .ok (.invokevirtual 125, 3) := by decide +kernel
theorem dX11_post_119 : decode cX11_post 119 = .ok (.aload_n 0, 1) := by decide +kernel
theorem dX11_post_120 : decode cX11_post 120 = .ok (.getfield 20, 3) := by decide +kernel
theorem dX11_post_123 : decode cX11_post 123 = .ok (.getfield 117, 3) := by decide +kernel
theorem dX11_post_126 : decode cX11_post 126 = .ok (.ireturn, 1) := by decide +kernel
theorem dX11_law_0 : decode cX11_law 0 = .ok (.aload_n 0, 1) := by decide +kernel
theorem dX11_law_1 : decode cX11_law 1 = .ok (.getfield 44, 3) := by decide +kernel
theorem dX11_law_4 : decode cX11_law 4 = .ok (.getfield 128, 3) := by decide +kernel
theorem dX11_law_7 : decode cX11_law 7 = .ok (.invokevirtual 131, 3) := by decide +kernel
theorem dX11_law_10 : decode cX11_law 10 = .ok (.aload_n 0, 1) := by decide +kernel
theorem dX11_law_11 : decode cX11_law 11 = .ok (.getfield 44, 3) := by decide +kernel
theorem dX11_law_14 : decode cX11_law 14 = .ok (.aload_n 0, 1) := by decide +kernel
theorem dX11_law_15 : decode cX11_law 15 = .ok (.getfield 9, 3) := by decide +kernel
theorem dX11_law_18 : decode cX11_law 18 = .ok (.aload_n 0, 1) := by decide +kernel
theorem dX11_law_19 : decode cX11_law 19 = .ok (.getfield 80, 3) := by decide +kernel
theorem dX11_law_22 : decode cX11_law 22 = .ok (.bipush 12, 2) := by decide +kernel
theorem dX11_law_24 : decode cX11_law 24 = .ok (.invokevirtual 136, 3) := by decide +kernel
theorem dX11_law_27 : decode cX11_law 27 = .ok (.istore_n 1, 1) := by decide +kernel
theorem dX11_law_28 : decode cX11_law 28 = .ok (.aload_n 0, 1) := by decide +kernel
theorem dX11_law_29 : decode cX11_law 29 = .ok (.aload_n 0, 1) := by decide +kernel
theorem dX11_law_30 : decode cX11_law 30 = .ok (.getfield 44, 3) := by decide +kernel
theorem dX11_law_33 : decode cX11_law 33 = .ok (.getfield 137, 3) := by decide +kernel
theorem dX11_law_36 : decode cX11_law 36 = .ok (.getfield 102, 3) := by decide +kernel
theorem dX11_law_39 : decode cX11_law 39 = .ok (.invokevirtual 107, 3) := by decide +kernel
theorem dX11_law_42 : decode cX11_law 42 = .ok (.iload_n 1, 1) := by decide +kernel
theorem dX11_law_43 : decode cX11_law 43 = .ok (.ifCond .ne 13, 3) := by decide +kernel
theorem dX11_law_46 : decode cX11_law 46 = .ok (.new 110, 3) := by decide +kernel
theorem dX11_law_49 : decode cX11_law 49 = .ok (.dup, 1) := by decide +kernel
theorem dX11_law_50 : decode cX11_law 50 = .ok (.ldc 138, 2) := by decide +kernel
theorem dX11_law_52 : decode cX11_law 52 = .ok (.invokespecial 114, 3) := by decide +kernel
theorem dX11_law_55 : decode cX11_law 55 = .ok (.athrow, 1) := by decide +kernel
theorem dX11_law_56 : decode cX11_law 56 = .ok (.aload_n 0, 1) := by decide +kernel
theorem dX11_law_57 : decode cX11_law 57 = .ok (.getfield 44, 3) := by decide +kernel
theorem dX11_law_60 : decode cX11_law 60 = .ok (.getfield 128, 3) := by decide +kernel
theorem dX11_law_63 : decode cX11_law 63 = .ok (.iconst 1, 1) := by decide +kernel
theorem dX11_law_64 : decode cX11_law 64 = .ok (.putfield 140, 3) := by decide +kernel
theorem dX11_law_67 : decode cX11_law 67 = .ok (.aload_n 0, 1) := by decide +kernel
theorem dX11_law_68 : decode cX11_law 68 = .ok (.getfield 20, 3) := by decide +kernel
theorem dX11_law_71 : decode cX11_law 71 = .ok (.getfield 144, 3) := by decide +kernel
theorem dX11_law_74 : decode cX11_law 74 = .ok (.aload_n 0, 1) := by decide +kernel
theorem dX11_law_75 : decode cX11_law 75 = .ok (.getfield 44, 3) := by decide +kernel
theorem dX11_law_78 : decode cX11_law 78 = .ok (.getfield 128, 3) := by decide +kernel
theorem dX11_law_81 : decode cX11_law 81 = .ok (.invokevirtual 147, 3) := by decide +kernel
theorem dX11_law_84 : decode cX11_law 84 = .ok (.aload_n 0, 1) := by decide +kernel
theorem dX11_law_85 : decode cX11_law 85 = .ok (.getfield 30, 3) := by decide +kernel
theorem dX11_law_88 : decode cX11_law 88 = .ok (.invokevirtual 125, 3) := by decide +kernel
theorem dX11_law_91 : decode cX11_law 91 = .ok (.aload_n 0, 1) := by decide +kernel
theorem dX11_law_92 : decode cX11_law 92 = .ok (.getfield 20, 3) := by decide +kernel
theorem dX11_law_95 : decode cX11_law 95 = .ok (.getfield 144, 3) := by decide +kernel
theorem dX11_law_98 : decode cX11_law 98 = .ok (.getfield 150, 3) := by decide +kernel
theorem dX11_law_101 : decode cX11_law 101 = .ok (.ireturn, 1) := by decide +kernel
theorem dX11_fault_0 : decode cX11_fault 0 = .ok (.aload_n 0, 1) := by decide +kernel
theorem dX11_fault_1 : decode cX11_fault 1 = .ok (.getfield 13, 3) := by decide +kernel
theorem dX11_fault_4 : decode cX11_fault 4 = .ok (.ireturn, 1) := by decide +kernel
theorem dX11_letter_0 : decode cX11_letter 0 = .ok (.aload_n 0, 1) := by decide +kernel
theorem dX11_letter_1 : decode cX11_letter 1 = .ok (.iload_n 1, 1) := by decide +kernel
theorem dX11_letter_2 : decode cX11_letter 2 = .ok (.invokevirtual 153, 3) := by decide +kernel
theorem dX11_letter_5 : decode cX11_letter 5 = .ok (.astore_n 3, 1) := by decide +kernel
theorem dX11_letter_6 : decode cX11_letter 6 = .ok (.iload_n 2, 1) := by decide +kernel
theorem dX11_letter_7 : decode cX11_letter 7 = .ok (.tableswitch 122 0 7 #[45, 50, 55, 60, 73, 86, 95, 100], 45) := by decide +kernel
theorem dX11_letter_52 : decode cX11_letter 52 = .ok (.aload_n 3, 1) := by decide +kernel
theorem dX11_letter_53 : decode cX11_letter 53 = .ok (.getfield 157, 3) := by decide +kernel
theorem dX11_letter_56 : decode cX11_letter 56 = .ok (.ireturn, 1) := by decide +kernel
theorem dX11_letter_57 : decode cX11_letter 57 = .ok (.aload_n 3, 1) := by decide +kernel
theorem dX11_letter_58 : decode cX11_letter 58 = .ok (.getfield 162, 3) := by decide +kernel
theorem dX11_letter_61 : decode cX11_letter 61 = .ok (.ireturn, 1) := by decide +kernel
theorem dX11_letter_62 : decode cX11_letter 62 = .ok (.aload_n 3, 1) := by decide +kernel
theorem dX11_letter_63 : decode cX11_letter 63 = .ok (.getfield 165, 3) := by decide +kernel
theorem dX11_letter_66 : decode cX11_letter 66 = .ok (.ireturn, 1) := by decide +kernel
theorem dX11_letter_67 : decode cX11_letter 67 = .ok (.aload_n 3, 1) := by decide +kernel
theorem dX11_letter_68 : decode cX11_letter 68 = .ok (.getfield 168, 3) := by decide +kernel
theorem dX11_letter_71 : decode cX11_letter 71 = .ok (.ifCond .eq 7, 3) := by decide +kernel
theorem dX11_letter_74 : decode cX11_letter 74 = .ok (.iconst 1, 1) := by decide +kernel
theorem dX11_letter_75 : decode cX11_letter 75 = .ok (.goto 4, 3) := by decide +kernel
theorem dX11_letter_78 : decode cX11_letter 78 = .ok (.iconst 0, 1) := by decide +kernel
theorem dX11_letter_79 : decode cX11_letter 79 = .ok (.ireturn, 1) := by decide +kernel
theorem dX11_letter_80 : decode cX11_letter 80 = .ok (.aload_n 3, 1) := by decide +kernel
theorem dX11_letter_81 : decode cX11_letter 81 = .ok (.getfield 171, 3) := by decide +kernel
theorem dX11_letter_84 : decode cX11_letter 84 = .ok (.ifCond .eq 7, 3) := by decide +kernel
theorem dX11_letter_87 : decode cX11_letter 87 = .ok (.iconst 1, 1) := by decide +kernel
theorem dX11_letter_88 : decode cX11_letter 88 = .ok (.goto 4, 3) := by decide +kernel
theorem dX11_letter_91 : decode cX11_letter 91 = .ok (.iconst 0, 1) := by decide +kernel
theorem dX11_letter_92 : decode cX11_letter 92 = .ok (.ireturn, 1) := by decide +kernel
theorem dX11_letter_93 : decode cX11_letter 93 = .ok (.aload_n 0, 1) := by decide +kernel
theorem dX11_letter_94 : decode cX11_letter 94 = .ok (.getfield 20, 3) := by decide +kernel
theorem dX11_letter_97 : decode cX11_letter 97 = .ok (.aload_n 3, 1) := by decide +kernel
theorem dX11_letter_98 : decode cX11_letter 98 = .ok (.invokevirtual 174, 3) := by decide +kernel
theorem dX11_letter_101 : decode cX11_letter 101 = .ok (.ireturn, 1) := by decide +kernel
theorem dX11_letter_102 : decode cX11_letter 102 = .ok (.aload_n 3, 1) := by decide +kernel
theorem dX11_letter_103 : decode cX11_letter 103 = .ok (.invokevirtual 178, 3) := by decide +kernel
theorem dX11_letter_106 : decode cX11_letter 106 = .ok (.ireturn, 1) := by decide +kernel
theorem dX11_letter_107 : decode cX11_letter 107 = .ok (.aload_n 0, 1) := by decide +kernel
theorem dX11_letter_108 : decode cX11_letter 108 = .ok (.getfield 20, 3) := by decide +kernel
theorem dX11_letter_111 : decode cX11_letter 111 = .ok (.getfield 144, 3) := by decide +kernel
theorem dX11_letter_114 : decode cX11_letter 114 = .ok (.aload_n 3, 1) := by decide +kernel
theorem dX11_letter_115 : decode cX11_letter 115 = .ok (.aload_n 0, 1) := by decide +kernel
theorem dX11_letter_116 : decode cX11_letter 116 = .ok (.getfield 20, 3) := by decide +kernel
theorem dX11_letter_119 : decode cX11_letter 119 = .ok (.getfield 182, 3) := by decide +kernel
theorem dX11_letter_122 : decode cX11_letter 122 = .ok (.getfield 185, 3) := by decide +kernel
theorem dX11_letter_125 : decode cX11_letter 125 = .ok (.invokevirtual 188, 3) := by decide +kernel
theorem dX11_letter_128 : decode cX11_letter 128 = .ok (.ireturn, 1) := by decide +kernel
theorem dX11_letter_129 : decode cX11_letter 129 = .ok (.new 192, 3) := by decide +kernel
theorem dX11_letter_132 : decode cX11_letter 132 = .ok (.dup, 1) := by decide +kernel
theorem dX11_letter_133 : decode cX11_letter 133 = .ok (.ldc 194, 2) := by decide +kernel
theorem dX11_letter_135 : decode cX11_letter 135 = .ok (.invokespecial 196, 3) := by decide +kernel
theorem dX11_letter_138 : decode cX11_letter 138 = .ok (.athrow, 1) := by decide +kernel
theorem dX11_line_0 : decode cX11_line 0 = .ok (.aload_n 0, 1) := by decide +kernel
theorem dX11_line_1 : decode cX11_line 1 = .ok (.iload_n 1, 1) := by decide +kernel
theorem dX11_line_2 : decode cX11_line 2 = .ok (.invokevirtual 153, 3) := by decide +kernel
theorem dX11_line_5 : decode cX11_line 5 = .ok (.astore 4, 2) := by decide +kernel
theorem dX11_line_7 : decode cX11_line 7 = .ok (.aload 4, 2) := by decide +kernel
theorem dX11_line_9 : decode cX11_line 9 = .ok (.iload_n 2, 1) := by decide +kernel
theorem dX11_line_10 : decode cX11_line 10 = .ok (.invokestatic 197, 3) := by decide +kernel
theorem dX11_line_13 : decode cX11_line 13 = .ok (.iload_n 3, 1) := by decide +kernel
theorem dX11_line_14 : decode cX11_line 14 = .ok (.ifCond .eq 12, 3) := by decide +kernel
theorem dX11_line_17 : decode cX11_line 17 = .ok (.aload 4, 2) := by decide +kernel
theorem dX11_line_19 : decode cX11_line 19 = .ok (.iload_n 2, 1) := by decide +kernel
theorem dX11_line_20 : decode cX11_line 20 = .ok (.invokevirtual 201, 3) := by decide +kernel
theorem dX11_line_23 : decode cX11_line 23 = .ok (.goto 9, 3) := by decide +kernel
theorem dX11_line_26 : decode cX11_line 26 = .ok (.aload 4, 2) := by decide +kernel
theorem dX11_line_28 : decode cX11_line 28 = .ok (.iload_n 2, 1) := by decide +kernel
theorem dX11_line_29 : decode cX11_line 29 = .ok (.invokevirtual 205, 3) := by decide +kernel
theorem dX11_line_32 : decode cX11_line 32 = .ok (.ireturn, 1) := by decide +kernel
theorem dX11_words_0 : decode cX11_words 0 = .ok (.iload_n 1, 1) := by decide +kernel
theorem dX11_words_1 : decode cX11_words 1 = .ok (.invokestatic 208, 3) := by decide +kernel
theorem dX11_words_4 : decode cX11_words 4 = .ok (.aload_n 0, 1) := by decide +kernel
theorem dX11_words_5 : decode cX11_words 5 = .ok (.getfield 20, 3) := by decide +kernel
theorem dX11_words_8 : decode cX11_words 8 = .ok (.iload_n 1, 1) := by decide +kernel
theorem dX11_words_9 : decode cX11_words 9 = .ok (.invokevirtual 211, 3) := by decide +kernel
theorem dX11_words_12 : decode cX11_words 12 = .ok (.ireturn, 1) := by decide +kernel
theorem dX11_promise_0 : decode cX11_promise 0 = .ok (.aload_n 0, 1) := by decide +kernel
theorem dX11_promise_1 : decode cX11_promise 1 = .ok (.iload_n 1, 1) := by decide +kernel
theorem dX11_promise_2 : decode cX11_promise 2 = .ok (.invokevirtual 214, 3) := by decide +kernel
theorem dX11_promise_5 : decode cX11_promise 5 = .ok (.aload_n 0, 1) := by decide +kernel
theorem dX11_promise_6 : decode cX11_promise 6 = .ok (.getfield 20, 3) := by decide +kernel
theorem dX11_promise_9 : decode cX11_promise 9 = .ok (.iload_n 1, 1) := by decide +kernel
theorem dX11_promise_10 : decode cX11_promise 10 = .ok (.iload_n 2, 1) := by decide +kernel
theorem dX11_promise_11 : decode cX11_promise 11 = .ok (.invokevirtual 217, 3) := by decide +kernel
theorem dX11_promise_14 : decode cX11_promise 14 = .ok (.ireturn, 1) := by decide +kernel
theorem dX11_season_0 : decode cX11_season 0 = .ok (.iload_n 1, 1) := by decide +kernel
theorem dX11_season_1 : decode cX11_season 1 = .ok (.ifCond .lt 10, 3) := by decide +kernel
theorem dX11_season_4 : decode cX11_season 4 = .ok (.iload_n 1, 1) := by decide +kernel
theorem dX11_season_5 : decode cX11_season 5 = .ok (.sipush 9999, 3) := by decide +kernel
theorem dX11_season_8 : decode cX11_season 8 = .ok (.if_icmp .le 13, 3) := by decide +kernel
theorem dX11_season_11 : decode cX11_season 11 = .ok (.new 110, 3) := by decide +kernel
theorem dX11_season_14 : decode cX11_season 14 = .ok (.dup, 1) := by decide +kernel
theorem dX11_season_15 : decode cX11_season 15 = .ok (.ldc 221, 2) := by decide +kernel
theorem dX11_season_17 : decode cX11_season 17 = .ok (.invokespecial 114, 3) := by decide +kernel
theorem dX11_season_20 : decode cX11_season 20 = .ok (.athrow, 1) := by decide +kernel
theorem dX11_season_21 : decode cX11_season 21 = .ok (.iload_n 1, 1) := by decide +kernel
theorem dX11_season_22 : decode cX11_season 22 = .ok (.invokestatic 223, 3) := by decide +kernel
theorem dX11_season_25 : decode cX11_season 25 = .ok (.ireturn, 1) := by decide +kernel
theorem dX11_write_0 : decode cX11_write 0 = .ok (.aload_n 0, 1) := by decide +kernel
theorem dX11_write_1 : decode cX11_write 1 = .ok (.getfield 80, 3) := by decide +kernel
theorem dX11_write_4 : decode cX11_write 4 = .ok (.istore_n 3, 1) := by decide +kernel
theorem dX11_write_5 : decode cX11_write 5 = .ok (.aload_n 0, 1) := by decide +kernel
theorem dX11_write_6 : decode cX11_write 6 = .ok (.iconst 0, 1) := by decide +kernel
theorem dX11_write_7 : decode cX11_write 7 = .ok (.putfield 80, 3) := by decide +kernel
theorem dX11_write_10 : decode cX11_write 10 = .ok (.aload_n 0, 1) := by decide +kernel
theorem dX11_write_11 : decode cX11_write 11 = .ok (.iload_n 3, 1) := by decide +kernel
theorem dX11_write_12 : decode cX11_write 12 = .ok (.invokevirtual 226, 3) := by decide +kernel
theorem dX11_write_15 : decode cX11_write 15 = .ok (.ifCond .eq 17, 3) := by decide +kernel
theorem dX11_write_18 : decode cX11_write 18 = .ok (.iload_n 1, 1) := by decide +kernel
theorem dX11_write_19 : decode cX11_write 19 = .ok (.invokestatic 230, 3) := by decide +kernel
theorem dX11_write_22 : decode cX11_write 22 = .ok (.ifCond .ne 10, 3) := by decide +kernel
theorem dX11_write_25 : decode cX11_write 25 = .ok (.iload_n 2, 1) := by decide +kernel
theorem dX11_write_26 : decode cX11_write 26 = .ok (.invokestatic 230, 3) := by decide +kernel
theorem dX11_write_29 : decode cX11_write 29 = .ok (.ifCond .eq 13, 3) := by decide +kernel
theorem dX11_write_32 : decode cX11_write 32 = .ok (.new 110, 3) := by decide +kernel
theorem dX11_write_35 : decode cX11_write 35 = .ok (.dup, 1) := by decide +kernel
theorem dX11_write_36 : decode cX11_write 36 = .ok (.ldc 233, 2) := by decide +kernel
theorem dX11_write_38 : decode cX11_write 38 = .ok (.invokespecial 114, 3) := by decide +kernel
theorem dX11_write_41 : decode cX11_write 41 = .ok (.athrow, 1) := by decide +kernel
theorem dX11_write_42 : decode cX11_write 42 = .ok (.aload_n 0, 1) := by decide +kernel
theorem dX11_write_43 : decode cX11_write 43 = .ok (.getfield 20, 3) := by decide +kernel
theorem dX11_write_46 : decode cX11_write 46 = .ok (.getfield 182, 3) := by decide +kernel
theorem dX11_write_49 : decode cX11_write 49 = .ok (.getfield 235, 3) := by decide +kernel
theorem dX11_write_52 : decode cX11_write 52 = .ok (.bipush 8, 2) := by decide +kernel
theorem dX11_write_54 : decode cX11_write 54 = .ok (.if_icmp .lt 13, 3) := by decide +kernel
theorem dX11_write_57 : decode cX11_write 57 = .ok (.new 120, 3) := by decide +kernel
theorem dX11_write_60 : decode cX11_write 60 = .ok (.dup, 1) := by decide +kernel
theorem dX11_write_61 : decode cX11_write 61 = .ok (.ldc 236, 2) := by decide +kernel
theorem dX11_write_63 : decode cX11_write 63 = .ok (.invokespecial 124, 3) := by decide +kernel
theorem dX11_write_66 : decode cX11_write 66 = .ok (.athrow, 1) := by decide +kernel
theorem dX11_write_67 : decode cX11_write 67 = .ok (.aload_n 0, 1) := by decide +kernel
theorem dX11_write_68 : decode cX11_write 68 = .ok (.getfield 30, 3) := by decide +kernel
theorem dX11_write_71 : decode cX11_write 71 = .ok (.aload_n 0, 1) := by decide +kernel
theorem dX11_write_72 : decode cX11_write 72 = .ok (.getfield 20, 3) := by decide +kernel
theorem dX11_write_75 : decode cX11_write 75 = .ok (.getfield 182, 3) := by decide +kernel
theorem dX11_write_78 : decode cX11_write 78 = .ok (.invokevirtual 238, 3) := by decide +kernel
theorem dX11_write_81 : decode cX11_write 81 = .ok (.aload_n 0, 1) := by decide +kernel
theorem dX11_write_82 : decode cX11_write 82 = .ok (.getfield 20, 3) := by decide +kernel
theorem dX11_write_85 : decode cX11_write 85 = .ok (.getfield 182, 3) := by decide +kernel
theorem dX11_write_88 : decode cX11_write 88 = .ok (.getfield 242, 3) := by decide +kernel
theorem dX11_write_91 : decode cX11_write 91 = .ok (.aload_n 0, 1) := by decide +kernel
theorem dX11_write_92 : decode cX11_write 92 = .ok (.getfield 20, 3) := by decide +kernel
theorem dX11_write_95 : decode cX11_write 95 = .ok (.getfield 182, 3) := by decide +kernel
theorem dX11_write_98 : decode cX11_write 98 = .ok (.getfield 235, 3) := by decide +kernel
theorem dX11_write_101 : decode cX11_write 101 = .ok (.aaload, 1) := by decide +kernel
theorem dX11_write_102 : decode cX11_write 102 = .ok (.astore 4, 2) := by decide +kernel
theorem dX11_write_104 : decode cX11_write 104 = .ok (.aload 4, 2) := by decide +kernel
theorem dX11_write_106 : decode cX11_write 106 = .ok (.iload_n 1, 1) := by decide +kernel
theorem dX11_write_107 : decode cX11_write 107 = .ok (.iload_n 2, 1) := by decide +kernel
theorem dX11_write_108 : decode cX11_write 108 = .ok (.invokevirtual 246, 3) := by decide +kernel
theorem dX11_write_111 : decode cX11_write 111 = .ok (.iconst 0, 1) := by decide +kernel
theorem dX11_write_112 : decode cX11_write 112 = .ok (.istore 5, 2) := by decide +kernel
theorem dX11_write_114 : decode cX11_write 114 = .ok (.iload 5, 2) := by decide +kernel
theorem dX11_write_116 : decode cX11_write 116 = .ok (.iload_n 3, 1) := by decide +kernel
theorem dX11_write_117 : decode cX11_write 117 = .ok (.if_icmp .ge 39, 3) := by decide +kernel
theorem dX11_write_120 : decode cX11_write 120 = .ok (.iload 5, 2) := by decide +kernel
theorem dX11_write_122 : decode cX11_write 122 = .ok (.sipush 400, 3) := by decide +kernel
theorem dX11_write_125 : decode cX11_write 125 = .ok (.if_icmp .ge 31, 3) := by decide +kernel
theorem dX11_write_128 : decode cX11_write 128 = .ok (.aload 4, 2) := by decide +kernel
theorem dX11_write_130 : decode cX11_write 130 = .ok (.aload_n 0, 1) := by decide +kernel
theorem dX11_write_131 : decode cX11_write 131 = .ok (.getfield 9, 3) := by decide +kernel
theorem dX11_write_134 : decode cX11_write 134 = .ok (.iload 5, 2) := by decide +kernel
theorem dX11_write_136 : decode cX11_write 136 = .ok (.iaload, 1) := by decide +kernel
theorem dX11_write_137 : decode cX11_write 137 = .ok (.aload_n 0, 1) := by decide +kernel
theorem dX11_write_138 : decode cX11_write 138 = .ok (.getfield 20, 3) := by decide +kernel
theorem dX11_write_141 : decode cX11_write 141 = .ok (.getfield 182, 3) := by decide +kernel
theorem dX11_write_144 : decode cX11_write 144 = .ok (.getfield 185, 3) := by decide +kernel
theorem dX11_write_147 : decode cX11_write 147 = .ok (.invokevirtual 250, 3) := by decide +kernel
theorem dX11_write_150 : decode cX11_write 150 = .ok (.iinc 5 1, 3) := by decide +kernel
theorem dX11_write_153 : decode cX11_write 153 = .ok (.goto (-39), 3) := by decide +kernel
theorem dX11_write_156 : decode cX11_write 156 = .ok (.aload_n 0, 1) := by decide +kernel
theorem dX11_write_157 : decode cX11_write 157 = .ok (.getfield 20, 3) := by decide +kernel
theorem dX11_write_160 : decode cX11_write 160 = .ok (.getfield 182, 3) := by decide +kernel
theorem dX11_write_163 : decode cX11_write 163 = .ok (.dup, 1) := by decide +kernel
theorem dX11_write_164 : decode cX11_write 164 = .ok (.getfield 235, 3) := by decide +kernel
theorem dX11_write_167 : decode cX11_write 167 = .ok (.iconst 1, 1) := by decide +kernel
theorem dX11_write_168 : decode cX11_write 168 = .ok (.iadd, 1) := by decide +kernel
theorem dX11_write_169 : decode cX11_write 169 = .ok (.putfield 235, 3) := by decide +kernel
theorem dX11_write_172 : decode cX11_write 172 = .ok (.aload_n 0, 1) := by decide +kernel
theorem dX11_write_173 : decode cX11_write 173 = .ok (.getfield 20, 3) := by decide +kernel
theorem dX11_write_176 : decode cX11_write 176 = .ok (.getfield 182, 3) := by decide +kernel
theorem dX11_write_179 : decode cX11_write 179 = .ok (.getfield 235, 3) := by decide +kernel
theorem dX11_write_182 : decode cX11_write 182 = .ok (.iconst 1, 1) := by decide +kernel
theorem dX11_write_183 : decode cX11_write 183 = .ok (.isub, 1) := by decide +kernel
theorem dX11_write_184 : decode cX11_write 184 = .ok (.ireturn, 1) := by decide +kernel
theorem dX11_open_0 : decode cX11_open 0 = .ok (.aload_n 0, 1) := by decide +kernel
theorem dX11_open_1 : decode cX11_open 1 = .ok (.iload_n 1, 1) := by decide +kernel
theorem dX11_open_2 : decode cX11_open 2 = .ok (.invokevirtual 153, 3) := by decide +kernel
theorem dX11_open_5 : decode cX11_open 5 = .ok (.astore_n 3, 1) := by decide +kernel
theorem dX11_open_6 : decode cX11_open 6 = .ok (.aload_n 0, 1) := by decide +kernel
theorem dX11_open_7 : decode cX11_open 7 = .ok (.getfield 30, 3) := by decide +kernel
theorem dX11_open_10 : decode cX11_open 10 = .ok (.aload_n 0, 1) := by decide +kernel
theorem dX11_open_11 : decode cX11_open 11 = .ok (.getfield 20, 3) := by decide +kernel
theorem dX11_open_14 : decode cX11_open 14 = .ok (.getfield 182, 3) := by decide +kernel
theorem dX11_open_17 : decode cX11_open 17 = .ok (.invokevirtual 238, 3) := by decide +kernel
theorem dX11_open_20 : decode cX11_open 20 = .ok (.aload_n 3, 1) := by decide +kernel
theorem dX11_open_21 : decode cX11_open 21 = .ok (.getfield 168, 3) := by decide +kernel
theorem dX11_open_24 : decode cX11_open 24 = .ok (.iload_n 2, 1) := by decide +kernel
theorem dX11_open_25 : decode cX11_open 25 = .ok (.if_icmp .eq 7, 3) := by decide +kernel
theorem dX11_open_28 : decode cX11_open 28 = .ok (.iconst 1, 1) := by decide +kernel
theorem dX11_open_29 : decode cX11_open 29 = .ok (.goto 4, 3) := by decide +kernel
theorem dX11_open_32 : decode cX11_open 32 = .ok (.iconst 0, 1) := by decide +kernel
theorem dX11_open_33 : decode cX11_open 33 = .ok (.istore 4, 2) := by decide +kernel
theorem dX11_open_35 : decode cX11_open 35 = .ok (.aload_n 3, 1) := by decide +kernel
theorem dX11_open_36 : decode cX11_open 36 = .ok (.iload_n 2, 1) := by decide +kernel
theorem dX11_open_37 : decode cX11_open 37 = .ok (.putfield 168, 3) := by decide +kernel
theorem dX11_open_40 : decode cX11_open 40 = .ok (.iload 4, 2) := by decide +kernel
theorem dX11_open_42 : decode cX11_open 42 = .ok (.ireturn, 1) := by decide +kernel
theorem dX11_copy_0 : decode cX11_copy 0 = .ok (.aload_n 0, 1) := by decide +kernel
theorem dX11_copy_1 : decode cX11_copy 1 = .ok (.iload_n 1, 1) := by decide +kernel
theorem dX11_copy_2 : decode cX11_copy 2 = .ok (.invokevirtual 153, 3) := by decide +kernel
theorem dX11_copy_5 : decode cX11_copy 5 = .ok (.astore_n 2, 1) := by decide +kernel
theorem dX11_copy_6 : decode cX11_copy 6 = .ok (.aload_n 0, 1) := by decide +kernel
theorem dX11_copy_7 : decode cX11_copy 7 = .ok (.getfield 20, 3) := by decide +kernel
theorem dX11_copy_10 : decode cX11_copy 10 = .ok (.getfield 182, 3) := by decide +kernel
theorem dX11_copy_13 : decode cX11_copy 13 = .ok (.getfield 235, 3) := by decide +kernel
theorem dX11_copy_16 : decode cX11_copy 16 = .ok (.bipush 8, 2) := by decide +kernel
theorem dX11_copy_18 : decode cX11_copy 18 = .ok (.if_icmp .lt 13, 3) := by decide +kernel
theorem dX11_copy_21 : decode cX11_copy 21 = .ok (.new 120, 3) := by decide +kernel
theorem dX11_copy_24 : decode cX11_copy 24 = .ok (.dup, 1) := by decide +kernel
theorem dX11_copy_25 : decode cX11_copy 25 = .ok (.ldc 236, 2) := by decide +kernel
theorem dX11_copy_27 : decode cX11_copy 27 = .ok (.invokespecial 124, 3) := by decide +kernel
theorem dX11_copy_30 : decode cX11_copy 30 = .ok (.athrow, 1) := by decide +kernel
theorem dX11_copy_31 : decode cX11_copy 31 = .ok (.aload_n 0, 1) := by decide +kernel
theorem dX11_copy_32 : decode cX11_copy 32 = .ok (.getfield 30, 3) := by decide +kernel
theorem dX11_copy_35 : decode cX11_copy 35 = .ok (.aload_n 0, 1) := by decide +kernel
theorem dX11_copy_36 : decode cX11_copy 36 = .ok (.getfield 20, 3) := by decide +kernel
theorem dX11_copy_39 : decode cX11_copy 39 = .ok (.getfield 182, 3) := by decide +kernel
theorem dX11_copy_42 : decode cX11_copy 42 = .ok (.invokevirtual 238, 3) := by decide +kernel
theorem dX11_copy_45 : decode cX11_copy 45 = .ok (.aload_n 0, 1) := by decide +kernel
theorem dX11_copy_46 : decode cX11_copy 46 = .ok (.getfield 20, 3) := by decide +kernel
theorem dX11_copy_49 : decode cX11_copy 49 = .ok (.getfield 182, 3) := by decide +kernel
theorem dX11_copy_52 : decode cX11_copy 52 = .ok (.getfield 242, 3) := by decide +kernel
theorem dX11_copy_55 : decode cX11_copy 55 = .ok (.aload_n 0, 1) := by decide +kernel
theorem dX11_copy_56 : decode cX11_copy 56 = .ok (.getfield 20, 3) := by decide +kernel
theorem dX11_copy_59 : decode cX11_copy 59 = .ok (.getfield 182, 3) := by decide +kernel
theorem dX11_copy_62 : decode cX11_copy 62 = .ok (.getfield 235, 3) := by decide +kernel
theorem dX11_copy_65 : decode cX11_copy 65 = .ok (.aaload, 1) := by decide +kernel
theorem dX11_copy_66 : decode cX11_copy 66 = .ok (.astore_n 3, 1) := by decide +kernel
theorem dX11_copy_67 : decode cX11_copy 67 = .ok (.aload_n 3, 1) := by decide +kernel
theorem dX11_copy_68 : decode cX11_copy 68 = .ok (.aload_n 2, 1) := by decide +kernel
theorem dX11_copy_69 : decode cX11_copy 69 = .ok (.invokevirtual 253, 3) := by decide +kernel
theorem dX11_copy_72 : decode cX11_copy 72 = .ok (.aload_n 3, 1) := by decide +kernel
theorem dX11_copy_73 : decode cX11_copy 73 = .ok (.iconst 0, 1) := by decide +kernel
theorem dX11_copy_74 : decode cX11_copy 74 = .ok (.putfield 168, 3) := by decide +kernel
theorem dX11_copy_77 : decode cX11_copy 77 = .ok (.aload_n 0, 1) := by decide +kernel
theorem dX11_copy_78 : decode cX11_copy 78 = .ok (.getfield 20, 3) := by decide +kernel
theorem dX11_copy_81 : decode cX11_copy 81 = .ok (.getfield 182, 3) := by decide +kernel
theorem dX11_copy_84 : decode cX11_copy 84 = .ok (.dup, 1) := by decide +kernel
theorem dX11_copy_85 : decode cX11_copy 85 = .ok (.getfield 235, 3) := by decide +kernel
theorem dX11_copy_88 : decode cX11_copy 88 = .ok (.iconst 1, 1) := by decide +kernel
theorem dX11_copy_89 : decode cX11_copy 89 = .ok (.iadd, 1) := by decide +kernel
theorem dX11_copy_90 : decode cX11_copy 90 = .ok (.putfield 235, 3) := by decide +kernel
theorem dX11_copy_93 : decode cX11_copy 93 = .ok (.aload_n 0, 1) := by decide +kernel
theorem dX11_copy_94 : decode cX11_copy 94 = .ok (.getfield 20, 3) := by decide +kernel
theorem dX11_copy_97 : decode cX11_copy 97 = .ok (.getfield 182, 3) := by decide +kernel
theorem dX11_copy_100 : decode cX11_copy 100 = .ok (.getfield 235, 3) := by decide +kernel
theorem dX11_copy_103 : decode cX11_copy 103 = .ok (.iconst 1, 1) := by decide +kernel
theorem dX11_copy_104 : decode cX11_copy 104 = .ok (.isub, 1) := by decide +kernel
theorem dX11_copy_105 : decode cX11_copy 105 = .ok (.ireturn, 1) := by decide +kernel
theorem dX11_prune_0 : decode cX11_prune 0 = .ok (.aload_n 0, 1) := by decide +kernel
theorem dX11_prune_1 : decode cX11_prune 1 = .ok (.iload_n 1, 1) := by decide +kernel
theorem dX11_prune_2 : decode cX11_prune 2 = .ok (.invokevirtual 153, 3) := by decide +kernel
theorem dX11_prune_5 : decode cX11_prune 5 = .ok (.astore_n 3, 1) := by decide +kernel
theorem dX11_prune_6 : decode cX11_prune 6 = .ok (.iload_n 2, 1) := by decide +kernel
theorem dX11_prune_7 : decode cX11_prune 7 = .ok (.iconst 1, 1) := by decide +kernel
theorem dX11_prune_8 : decode cX11_prune 8 = .ok (.if_icmp .lt 11, 3) := by decide +kernel
theorem dX11_prune_11 : decode cX11_prune 11 = .ok (.iload_n 2, 1) := by decide +kernel
theorem dX11_prune_12 : decode cX11_prune 12 = .ok (.aload_n 3, 1) := by decide +kernel
theorem dX11_prune_13 : decode cX11_prune 13 = .ok (.getfield 157, 3) := by decide +kernel
theorem dX11_prune_16 : decode cX11_prune 16 = .ok (.if_icmp .lt 14, 3) := by decide +kernel
theorem dX11_prune_19 : decode cX11_prune 19 = .ok (.new 110, 3) := by decide +kernel
theorem dX11_prune_22 : decode cX11_prune 22 = .ok (.dup, 1) := by decide +kernel
theorem dX11_prune_23 : decode cX11_prune 23 = .ok (.ldc_w 256, 3) := by decide +kernel
theorem dX11_prune_26 : decode cX11_prune 26 = .ok (.invokespecial 114, 3) := by decide +kernel
theorem dX11_prune_29 : decode cX11_prune 29 = .ok (.athrow, 1) := by decide +kernel
theorem dX11_prune_30 : decode cX11_prune 30 = .ok (.aload_n 0, 1) := by decide +kernel
theorem dX11_prune_31 : decode cX11_prune 31 = .ok (.getfield 30, 3) := by decide +kernel
theorem dX11_prune_34 : decode cX11_prune 34 = .ok (.aload_n 0, 1) := by decide +kernel
theorem dX11_prune_35 : decode cX11_prune 35 = .ok (.getfield 20, 3) := by decide +kernel
theorem dX11_prune_38 : decode cX11_prune 38 = .ok (.getfield 182, 3) := by decide +kernel
theorem dX11_prune_41 : decode cX11_prune 41 = .ok (.invokevirtual 238, 3) := by decide +kernel
theorem dX11_prune_44 : decode cX11_prune 44 = .ok (.aload_n 3, 1) := by decide +kernel
theorem dX11_prune_45 : decode cX11_prune 45 = .ok (.iload_n 2, 1) := by decide +kernel
theorem dX11_prune_46 : decode cX11_prune 46 = .ok (.invokevirtual 258, 3) := by decide +kernel
theorem dX11_prune_49 : decode cX11_prune 49 = .ok (.aload_n 3, 1) := by decide +kernel
theorem dX11_prune_50 : decode cX11_prune 50 = .ok (.getfield 157, 3) := by decide +kernel
theorem dX11_prune_53 : decode cX11_prune 53 = .ok (.ireturn, 1) := by decide +kernel
theorem dX11_cut_0 : decode cX11_cut 0 = .ok (.aload_n 0, 1) := by decide +kernel
theorem dX11_cut_1 : decode cX11_cut 1 = .ok (.iload_n 1, 1) := by decide +kernel
theorem dX11_cut_2 : decode cX11_cut 2 = .ok (.invokevirtual 153, 3) := by decide +kernel
theorem dX11_cut_5 : decode cX11_cut 5 = .ok (.astore_n 3, 1) := by decide +kernel
theorem dX11_cut_6 : decode cX11_cut 6 = .ok (.aload_n 3, 1) := by decide +kernel
theorem dX11_cut_7 : decode cX11_cut 7 = .ok (.iload_n 2, 1) := by decide +kernel
theorem dX11_cut_8 : decode cX11_cut 8 = .ok (.invokestatic 197, 3) := by decide +kernel
theorem dX11_cut_11 : decode cX11_cut 11 = .ok (.aload_n 3, 1) := by decide +kernel
theorem dX11_cut_12 : decode cX11_cut 12 = .ok (.getfield 157, 3) := by decide +kernel
theorem dX11_cut_15 : decode cX11_cut 15 = .ok (.iconst 2, 1) := by decide +kernel
theorem dX11_cut_16 : decode cX11_cut 16 = .ok (.if_icmp .ge 14, 3) := by decide +kernel
theorem dX11_cut_19 : decode cX11_cut 19 = .ok (.new 261, 3) := by decide +kernel
theorem dX11_cut_22 : decode cX11_cut 22 = .ok (.dup, 1) := by decide +kernel
theorem dX11_cut_23 : decode cX11_cut 23 = .ok (.ldc_w 263, 3) := by decide +kernel
theorem dX11_cut_26 : decode cX11_cut 26 = .ok (.invokespecial 265, 3) := by decide +kernel
theorem dX11_cut_29 : decode cX11_cut 29 = .ok (.athrow, 1) := by decide +kernel
theorem dX11_cut_30 : decode cX11_cut 30 = .ok (.aload_n 0, 1) := by decide +kernel
theorem dX11_cut_31 : decode cX11_cut 31 = .ok (.getfield 30, 3) := by decide +kernel
theorem dX11_cut_34 : decode cX11_cut 34 = .ok (.aload_n 0, 1) := by decide +kernel
theorem dX11_cut_35 : decode cX11_cut 35 = .ok (.getfield 20, 3) := by decide +kernel
theorem dX11_cut_38 : decode cX11_cut 38 = .ok (.getfield 182, 3) := by decide +kernel
theorem dX11_cut_41 : decode cX11_cut 41 = .ok (.invokevirtual 238, 3) := by decide +kernel
theorem dX11_cut_44 : decode cX11_cut 44 = .ok (.aload_n 3, 1) := by decide +kernel
theorem dX11_cut_45 : decode cX11_cut 45 = .ok (.iload_n 2, 1) := by decide +kernel
theorem dX11_cut_46 : decode cX11_cut 46 = .ok (.invokevirtual 205, 3) := by decide +kernel
theorem dX11_cut_49 : decode cX11_cut 49 = .ok (.istore 4, 2) := by decide +kernel
theorem dX11_cut_51 : decode cX11_cut 51 = .ok (.aload_n 3, 1) := by decide +kernel
theorem dX11_cut_52 : decode cX11_cut 52 = .ok (.iload_n 2, 1) := by decide +kernel
theorem dX11_cut_53 : decode cX11_cut 53 = .ok (.invokevirtual 266, 3) := by decide +kernel
theorem dX11_cut_56 : decode cX11_cut 56 = .ok (.iload 4, 2) := by decide +kernel
theorem dX11_cut_58 : decode cX11_cut 58 = .ok (.ireturn, 1) := by decide +kernel
theorem dX11_heat_0 : decode cX11_heat 0 = .ok (.aload_n 0, 1) := by decide +kernel
theorem dX11_heat_1 : decode cX11_heat 1 = .ok (.iload_n 1, 1) := by decide +kernel
theorem dX11_heat_2 : decode cX11_heat 2 = .ok (.invokevirtual 153, 3) := by decide +kernel
theorem dX11_heat_5 : decode cX11_heat 5 = .ok (.astore_n 3, 1) := by decide +kernel
theorem dX11_heat_6 : decode cX11_heat 6 = .ok (.aload_n 0, 1) := by decide +kernel
theorem dX11_heat_7 : decode cX11_heat 7 = .ok (.getfield 30, 3) := by decide +kernel
theorem dX11_heat_10 : decode cX11_heat 10 = .ok (.aload_n 0, 1) := by decide +kernel
theorem dX11_heat_11 : decode cX11_heat 11 = .ok (.getfield 20, 3) := by decide +kernel
theorem dX11_heat_14 : decode cX11_heat 14 = .ok (.getfield 182, 3) := by decide +kernel
theorem dX11_heat_17 : decode cX11_heat 17 = .ok (.invokevirtual 238, 3) := by decide +kernel
theorem dX11_heat_20 : decode cX11_heat 20 = .ok (.aload_n 3, 1) := by decide +kernel
theorem dX11_heat_21 : decode cX11_heat 21 = .ok (.getfield 171, 3) := by decide +kernel
theorem dX11_heat_24 : decode cX11_heat 24 = .ok (.iload_n 2, 1) := by decide +kernel
theorem dX11_heat_25 : decode cX11_heat 25 = .ok (.if_icmp .eq 7, 3) := by decide +kernel
theorem dX11_heat_28 : decode cX11_heat 28 = .ok (.iconst 1, 1) := by decide +kernel
theorem dX11_heat_29 : decode cX11_heat 29 = .ok (.goto 4, 3) := by decide +kernel
theorem dX11_heat_32 : decode cX11_heat 32 = .ok (.iconst 0, 1) := by decide +kernel
theorem dX11_heat_33 : decode cX11_heat 33 = .ok (.istore 4, 2) := by decide +kernel
theorem dX11_heat_35 : decode cX11_heat 35 = .ok (.aload_n 3, 1) := by decide +kernel
theorem dX11_heat_36 : decode cX11_heat 36 = .ok (.iload_n 2, 1) := by decide +kernel
theorem dX11_heat_37 : decode cX11_heat 37 = .ok (.putfield 171, 3) := by decide +kernel
theorem dX11_heat_40 : decode cX11_heat 40 = .ok (.iload 4, 2) := by decide +kernel
theorem dX11_heat_42 : decode cX11_heat 42 = .ok (.ireturn, 1) := by decide +kernel
theorem dX11_burn_0 : decode cX11_burn 0 = .ok (.aload_n 0, 1) := by decide +kernel
theorem dX11_burn_1 : decode cX11_burn 1 = .ok (.iload_n 1, 1) := by decide +kernel
theorem dX11_burn_2 : decode cX11_burn 2 = .ok (.invokevirtual 269, 3) := by decide +kernel
theorem dX11_burn_5 : decode cX11_burn 5 = .ok (.aload_n 0, 1) := by decide +kernel
theorem dX11_burn_6 : decode cX11_burn 6 = .ok (.getfield 30, 3) := by decide +kernel
theorem dX11_burn_9 : decode cX11_burn 9 = .ok (.aload_n 0, 1) := by decide +kernel
theorem dX11_burn_10 : decode cX11_burn 10 = .ok (.getfield 20, 3) := by decide +kernel
theorem dX11_burn_13 : decode cX11_burn 13 = .ok (.getfield 182, 3) := by decide +kernel
theorem dX11_burn_16 : decode cX11_burn 16 = .ok (.invokevirtual 238, 3) := by decide +kernel
theorem dX11_burn_19 : decode cX11_burn 19 = .ok (.aload_n 0, 1) := by decide +kernel
theorem dX11_burn_20 : decode cX11_burn 20 = .ok (.getfield 20, 3) := by decide +kernel
theorem dX11_burn_23 : decode cX11_burn 23 = .ok (.getfield 182, 3) := by decide +kernel
theorem dX11_burn_26 : decode cX11_burn 26 = .ok (.iload_n 1, 1) := by decide +kernel
theorem dX11_burn_27 : decode cX11_burn 27 = .ok (.invokevirtual 272, 3) := by decide +kernel
theorem dX11_burn_30 : decode cX11_burn 30 = .ok (.aload_n 0, 1) := by decide +kernel
theorem dX11_burn_31 : decode cX11_burn 31 = .ok (.getfield 20, 3) := by decide +kernel
theorem dX11_burn_34 : decode cX11_burn 34 = .ok (.getfield 182, 3) := by decide +kernel
theorem dX11_burn_37 : decode cX11_burn 37 = .ok (.getfield 235, 3) := by decide +kernel
theorem dX11_burn_40 : decode cX11_burn 40 = .ok (.ireturn, 1) := by decide +kernel
theorem dX11_weeks_0 : decode cX11_weeks 0 = .ok (.iload_n 1, 1) := by decide +kernel
theorem dX11_weeks_1 : decode cX11_weeks 1 = .ok (.iconst 1, 1) := by decide +kernel
theorem dX11_weeks_2 : decode cX11_weeks 2 = .ok (.if_icmp .lt 9, 3) := by decide +kernel
theorem dX11_weeks_5 : decode cX11_weeks 5 = .ok (.iload_n 1, 1) := by decide +kernel
theorem dX11_weeks_6 : decode cX11_weeks 6 = .ok (.bipush 60, 2) := by decide +kernel
theorem dX11_weeks_8 : decode cX11_weeks 8 = .ok (.if_icmp .le 14, 3) := by decide +kernel
theorem dX11_weeks_11 : decode cX11_weeks 11 = .ok (.new 110, 3) := by decide +kernel
theorem dX11_weeks_14 : decode cX11_weeks 14 = .ok (.dup, 1) := by decide +kernel
theorem dX11_weeks_15 : decode cX11_weeks 15 = .ok (.ldc_w 273, 3) := by decide +kernel
theorem dX11_weeks_18 : decode cX11_weeks 18 = .ok (.invokespecial 114, 3) := by decide +kernel
theorem dX11_weeks_21 : decode cX11_weeks 21 = .ok (.athrow, 1) := by decide +kernel
theorem dX11_weeks_22 : decode cX11_weeks 22 = .ok (.aload_n 0, 1) := by decide +kernel
theorem dX11_weeks_23 : decode cX11_weeks 23 = .ok (.getfield 30, 3) := by decide +kernel
theorem dX11_weeks_26 : decode cX11_weeks 26 = .ok (.aload_n 0, 1) := by decide +kernel
theorem dX11_weeks_27 : decode cX11_weeks 27 = .ok (.getfield 20, 3) := by decide +kernel
theorem dX11_weeks_30 : decode cX11_weeks 30 = .ok (.getfield 182, 3) := by decide +kernel
theorem dX11_weeks_33 : decode cX11_weeks 33 = .ok (.invokevirtual 238, 3) := by decide +kernel
theorem dX11_weeks_36 : decode cX11_weeks 36 = .ok (.iconst 0, 1) := by decide +kernel
theorem dX11_weeks_37 : decode cX11_weeks 37 = .ok (.istore_n 2, 1) := by decide +kernel
theorem dX11_weeks_38 : decode cX11_weeks 38 = .ok (.iconst 0, 1) := by decide +kernel
theorem dX11_weeks_39 : decode cX11_weeks 39 = .ok (.istore_n 3, 1) := by decide +kernel
theorem dX11_weeks_40 : decode cX11_weeks 40 = .ok (.iload_n 3, 1) := by decide +kernel
theorem dX11_weeks_41 : decode cX11_weeks 41 = .ok (.iload_n 1, 1) := by decide +kernel
theorem dX11_weeks_42 : decode cX11_weeks 42 = .ok (.if_icmp .ge 36, 3) := by decide +kernel
theorem dX11_weeks_45 : decode cX11_weeks 45 = .ok (.iload_n 2, 1) := by decide +kernel
theorem dX11_weeks_46 : decode cX11_weeks 46 = .ok (.aload_n 0, 1) := by decide +kernel
theorem dX11_weeks_47 : decode cX11_weeks 47 = .ok (.getfield 20, 3) := by decide +kernel
theorem dX11_weeks_50 : decode cX11_weeks 50 = .ok (.getfield 182, 3) := by decide +kernel
theorem dX11_weeks_53 : decode cX11_weeks 53 = .ok (.aload_n 0, 1) := by decide +kernel
theorem dX11_weeks_54 : decode cX11_weeks 54 = .ok (.getfield 20, 3) := by decide +kernel
theorem dX11_weeks_57 : decode cX11_weeks 57 = .ok (.getfield 144, 3) := by decide +kernel
theorem dX11_weeks_60 : decode cX11_weeks 60 = .ok (.aload_n 0, 1) := by decide +kernel
theorem dX11_weeks_61 : decode cX11_weeks 61 = .ok (.getfield 20, 3) := by decide +kernel
theorem dX11_weeks_64 : decode cX11_weeks 64 = .ok (.getfield 275, 3) := by decide +kernel
theorem dX11_weeks_67 : decode cX11_weeks 67 = .ok (.invokevirtual 278, 3) := by decide +kernel
theorem dX11_weeks_70 : decode cX11_weeks 70 = .ok (.iadd, 1) := by decide +kernel
theorem dX11_weeks_71 : decode cX11_weeks 71 = .ok (.istore_n 2, 1) := by decide +kernel
theorem dX11_weeks_72 : decode cX11_weeks 72 = .ok (.iinc 3 1, 3) := by decide +kernel
theorem dX11_weeks_75 : decode cX11_weeks 75 = .ok (.goto (-35), 3) := by decide +kernel
theorem dX11_weeks_78 : decode cX11_weeks 78 = .ok (.aload_n 0, 1) := by decide +kernel
theorem dX11_weeks_79 : decode cX11_weeks 79 = .ok (.getfield 20, 3) := by decide +kernel
theorem dX11_weeks_82 : decode cX11_weeks 82 = .ok (.getfield 182, 3) := by decide +kernel
theorem dX11_weeks_85 : decode cX11_weeks 85 = .ok (.dup, 1) := by decide +kernel
theorem dX11_weeks_86 : decode cX11_weeks 86 = .ok (.getfield 282, 3) := by decide +kernel
theorem dX11_weeks_89 : decode cX11_weeks 89 = .ok (.iload_n 2, 1) := by decide +kernel
theorem dX11_weeks_90 : decode cX11_weeks 90 = .ok (.iadd, 1) := by decide +kernel
theorem dX11_weeks_91 : decode cX11_weeks 91 = .ok (.putfield 282, 3) := by decide +kernel
theorem dX11_weeks_94 : decode cX11_weeks 94 = .ok (.iload_n 2, 1) := by decide +kernel
theorem dX11_weeks_95 : decode cX11_weeks 95 = .ok (.ireturn, 1) := by decide +kernel
theorem dX11_ahead_0 : decode cX11_ahead 0 = .ok (.aload_n 0, 1) := by decide +kernel
theorem dX11_ahead_1 : decode cX11_ahead 1 = .ok (.iload_n 1, 1) := by decide +kernel
theorem dX11_ahead_2 : decode cX11_ahead 2 = .ok (.invokevirtual 153, 3) := by decide +kernel
theorem dX11_ahead_5 : decode cX11_ahead 5 = .ok (.astore 4, 2) := by decide +kernel
theorem dX11_ahead_7 : decode cX11_ahead 7 = .ok (.iload_n 2, 1) := by decide +kernel
theorem dX11_ahead_8 : decode cX11_ahead 8 = .ok (.iconst 0, 1) := by decide +kernel
theorem dX11_ahead_9 : decode cX11_ahead 9 = .ok (.invokestatic 285, 3) := by decide +kernel
theorem dX11_ahead_12 : decode cX11_ahead 12 = .ok (.iload_n 3, 1) := by decide +kernel
theorem dX11_ahead_13 : decode cX11_ahead 13 = .ok (.ifCond .lt 8, 3) := by decide +kernel
theorem dX11_ahead_16 : decode cX11_ahead 16 = .ok (.iload_n 3, 1) := by decide +kernel
theorem dX11_ahead_17 : decode cX11_ahead 17 = .ok (.iconst 2, 1) := by decide +kernel
theorem dX11_ahead_18 : decode cX11_ahead 18 = .ok (.if_icmp .le 14, 3) := by decide +kernel
theorem dX11_ahead_21 : decode cX11_ahead 21 = .ok (.new 192, 3) := by decide +kernel
theorem dX11_ahead_24 : decode cX11_ahead 24 = .ok (.dup, 1) := by decide +kernel
theorem dX11_ahead_25 : decode cX11_ahead 25 = .ok (.ldc_w 288, 3) := by decide +kernel
theorem dX11_ahead_28 : decode cX11_ahead 28 = .ok (.invokespecial 196, 3) := by decide +kernel
theorem dX11_ahead_31 : decode cX11_ahead 31 = .ok (.athrow, 1) := by decide +kernel
theorem dX11_ahead_32 : decode cX11_ahead 32 = .ok (.aload_n 0, 1) := by decide +kernel
theorem dX11_ahead_33 : decode cX11_ahead 33 = .ok (.getfield 51, 3) := by decide +kernel
theorem dX11_ahead_36 : decode cX11_ahead 36 = .ok (.aload 4, 2) := by decide +kernel
theorem dX11_ahead_38 : decode cX11_ahead 38 = .ok (.aload_n 0, 1) := by decide +kernel
theorem dX11_ahead_39 : decode cX11_ahead 39 = .ok (.getfield 20, 3) := by decide +kernel
theorem dX11_ahead_42 : decode cX11_ahead 42 = .ok (.getfield 182, 3) := by decide +kernel
theorem dX11_ahead_45 : decode cX11_ahead 45 = .ok (.getfield 185, 3) := by decide +kernel
theorem dX11_ahead_48 : decode cX11_ahead 48 = .ok (.invokevirtual 290, 3) := by decide +kernel
theorem dX11_ahead_51 : decode cX11_ahead 51 = .ok (.aload_n 0, 1) := by decide +kernel
theorem dX11_ahead_52 : decode cX11_ahead 52 = .ok (.getfield 51, 3) := by decide +kernel
theorem dX11_ahead_55 : decode cX11_ahead 55 = .ok (.aload_n 0, 1) := by decide +kernel
theorem dX11_ahead_56 : decode cX11_ahead 56 = .ok (.getfield 20, 3) := by decide +kernel
theorem dX11_ahead_59 : decode cX11_ahead 59 = .ok (.getfield 144, 3) := by decide +kernel
theorem dX11_ahead_62 : decode cX11_ahead 62 = .ok (.iload_n 2, 1) := by decide +kernel
theorem dX11_ahead_63 : decode cX11_ahead 63 = .ok (.invokevirtual 293, 3) := by decide +kernel
theorem dX11_ahead_66 : decode cX11_ahead 66 = .ok (.iload_n 3, 1) := by decide +kernel
theorem dX11_ahead_67 : decode cX11_ahead 67 = .ok (.ifCond .ne 14, 3) := by decide +kernel
theorem dX11_ahead_70 : decode cX11_ahead 70 = .ok (.aload_n 0, 1) := by decide +kernel
theorem dX11_ahead_71 : decode cX11_ahead 71 = .ok (.getfield 51, 3) := by decide +kernel
theorem dX11_ahead_74 : decode cX11_ahead 74 = .ok (.getfield 297, 3) := by decide +kernel
theorem dX11_ahead_77 : decode cX11_ahead 77 = .ok (.invokevirtual 178, 3) := by decide +kernel
theorem dX11_ahead_80 : decode cX11_ahead 80 = .ok (.ireturn, 1) := by decide +kernel
theorem dX11_ahead_81 : decode cX11_ahead 81 = .ok (.iload_n 3, 1) := by decide +kernel
theorem dX11_ahead_82 : decode cX11_ahead 82 = .ok (.iconst 1, 1) := by decide +kernel
theorem dX11_ahead_83 : decode cX11_ahead 83 = .ok (.if_icmp .ne 16, 3) := by decide +kernel
theorem dX11_ahead_86 : decode cX11_ahead 86 = .ok (.aload_n 0, 1) := by decide +kernel
theorem dX11_ahead_87 : decode cX11_ahead 87 = .ok (.getfield 51, 3) := by decide +kernel
theorem dX11_ahead_90 : decode cX11_ahead 90 = .ok (.getfield 297, 3) := by decide +kernel
theorem dX11_ahead_93 : decode cX11_ahead 93 = .ok (.getfield 157, 3) := by decide +kernel
theorem dX11_ahead_96 : decode cX11_ahead 96 = .ok (.goto 17, 3) := by decide +kernel
theorem dX11_ahead_99 : decode cX11_ahead 99 = .ok (.aload_n 0, 1) := by decide +kernel
theorem dX11_ahead_100 : decode cX11_ahead 100 = .ok (.getfield 20, 3) := by decide +kernel
theorem dX11_ahead_103 : decode cX11_ahead 103 = .ok (.aload_n 0, 1) := by decide +kernel
theorem dX11_ahead_104 : decode cX11_ahead 104 = .ok (.getfield 51, 3) := by decide +kernel
theorem dX11_ahead_107 : decode cX11_ahead 107 = .ok (.getfield 297, 3) := by decide +kernel
theorem dX11_ahead_110 : decode cX11_ahead 110 = .ok (.invokevirtual 174, 3) := by decide +kernel
theorem dX11_ahead_113 : decode cX11_ahead 113 = .ok (.ireturn, 1) := by decide +kernel
theorem dX11_says_0 : decode cX11_says 0 = .ok (.aload_n 0, 1) := by decide +kernel
theorem dX11_says_1 : decode cX11_says 1 = .ok (.iload_n 1, 1) := by decide +kernel
theorem dX11_says_2 : decode cX11_says 2 = .ok (.invokevirtual 153, 3) := by decide +kernel
theorem dX11_says_5 : decode cX11_says 5 = .ok (.astore 4, 2) := by decide +kernel
theorem dX11_says_7 : decode cX11_says 7 = .ok (.iload_n 2, 1) := by decide +kernel
theorem dX11_says_8 : decode cX11_says 8 = .ok (.invokestatic 208, 3) := by decide +kernel
theorem dX11_says_11 : decode cX11_says 11 = .ok (.aload_n 0, 1) := by decide +kernel
theorem dX11_says_12 : decode cX11_says 12 = .ok (.getfield 51, 3) := by decide +kernel
theorem dX11_says_15 : decode cX11_says 15 = .ok (.aload 4, 2) := by decide +kernel
theorem dX11_says_17 : decode cX11_says 17 = .ok (.aload_n 0, 1) := by decide +kernel
theorem dX11_says_18 : decode cX11_says 18 = .ok (.getfield 20, 3) := by decide +kernel
theorem dX11_says_21 : decode cX11_says 21 = .ok (.getfield 182, 3) := by decide +kernel
theorem dX11_says_24 : decode cX11_says 24 = .ok (.getfield 185, 3) := by decide +kernel
theorem dX11_says_27 : decode cX11_says 27 = .ok (.invokevirtual 290, 3) := by decide +kernel
theorem dX11_says_30 : decode cX11_says 30 = .ok (.iconst 0, 1) := by decide +kernel
theorem dX11_says_31 : decode cX11_says 31 = .ok (.istore 5, 2) := by decide +kernel
theorem dX11_says_33 : decode cX11_says 33 = .ok (.iload 5, 2) := by decide +kernel
theorem dX11_says_35 : decode cX11_says 35 = .ok (.bipush 40, 2) := by decide +kernel
theorem dX11_says_37 : decode cX11_says 37 = .ok (.if_icmp .gt 70, 3) := by decide +kernel
theorem dX11_says_40 : decode cX11_says 40 = .ok (.iload_n 3, 1) := by decide +kernel
theorem dX11_says_41 : decode cX11_says 41 = .ok (.ifCond .eq 17, 3) := by decide +kernel
theorem dX11_says_44 : decode cX11_says 44 = .ok (.aload_n 0, 1) := by decide +kernel
theorem dX11_says_45 : decode cX11_says 45 = .ok (.getfield 51, 3) := by decide +kernel
theorem dX11_says_48 : decode cX11_says 48 = .ok (.getfield 297, 3) := by decide +kernel
theorem dX11_says_51 : decode cX11_says 51 = .ok (.iload_n 2, 1) := by decide +kernel
theorem dX11_says_52 : decode cX11_says 52 = .ok (.invokevirtual 301, 3) := by decide +kernel
theorem dX11_says_55 : decode cX11_says 55 = .ok (.goto 22, 3) := by decide +kernel
theorem dX11_says_58 : decode cX11_says 58 = .ok (.aload_n 0, 1) := by decide +kernel
theorem dX11_says_59 : decode cX11_says 59 = .ok (.getfield 51, 3) := by decide +kernel
theorem dX11_says_62 : decode cX11_says 62 = .ok (.getfield 297, 3) := by decide +kernel
theorem dX11_says_65 : decode cX11_says 65 = .ok (.invokevirtual 178, 3) := by decide +kernel
theorem dX11_says_68 : decode cX11_says 68 = .ok (.iload_n 2, 1) := by decide +kernel
theorem dX11_says_69 : decode cX11_says 69 = .ok (.if_icmp .ne 7, 3) := by decide +kernel
theorem dX11_says_72 : decode cX11_says 72 = .ok (.iconst 1, 1) := by decide +kernel
theorem dX11_says_73 : decode cX11_says 73 = .ok (.goto 4, 3) := by decide +kernel
theorem dX11_says_76 : decode cX11_says 76 = .ok (.iconst 0, 1) := by decide +kernel
theorem dX11_says_77 : decode cX11_says 77 = .ok (.istore 6, 2) := by decide +kernel
theorem dX11_says_79 : decode cX11_says 79 = .ok (.iload 6, 2) := by decide +kernel
theorem dX11_says_81 : decode cX11_says 81 = .ok (.ifCond .eq 6, 3) := by decide +kernel
theorem dX11_says_84 : decode cX11_says 84 = .ok (.iload 5, 2) := by decide +kernel
theorem dX11_says_86 : decode cX11_says 86 = .ok (.ireturn, 1) := by decide +kernel
theorem dX11_says_87 : decode cX11_says 87 = .ok (.aload_n 0, 1) := by decide +kernel
theorem dX11_says_88 : decode cX11_says 88 = .ok (.getfield 51, 3) := by decide +kernel
theorem dX11_says_91 : decode cX11_says 91 = .ok (.aload_n 0, 1) := by decide +kernel
theorem dX11_says_92 : decode cX11_says 92 = .ok (.getfield 20, 3) := by decide +kernel
theorem dX11_says_95 : decode cX11_says 95 = .ok (.getfield 144, 3) := by decide +kernel
theorem dX11_says_98 : decode cX11_says 98 = .ok (.invokevirtual 304, 3) := by decide +kernel
theorem dX11_says_101 : decode cX11_says 101 = .ok (.iinc 5 1, 3) := by decide +kernel
theorem dX11_says_104 : decode cX11_says 104 = .ok (.goto (-71), 3) := by decide +kernel
theorem dX11_says_107 : decode cX11_says 107 = .ok (.iconst (-1), 1) := by decide +kernel
theorem dX11_says_108 : decode cX11_says 108 = .ok (.ireturn, 1) := by decide +kernel
theorem dX11_stops_0 : decode cX11_stops 0 = .ok (.aload_n 0, 1) := by decide +kernel
theorem dX11_stops_1 : decode cX11_stops 1 = .ok (.iload_n 1, 1) := by decide +kernel
theorem dX11_stops_2 : decode cX11_stops 2 = .ok (.invokevirtual 153, 3) := by decide +kernel
theorem dX11_stops_5 : decode cX11_stops 5 = .ok (.astore_n 2, 1) := by decide +kernel
theorem dX11_stops_6 : decode cX11_stops 6 = .ok (.aload_n 0, 1) := by decide +kernel
theorem dX11_stops_7 : decode cX11_stops 7 = .ok (.getfield 51, 3) := by decide +kernel
theorem dX11_stops_10 : decode cX11_stops 10 = .ok (.aload_n 2, 1) := by decide +kernel
theorem dX11_stops_11 : decode cX11_stops 11 = .ok (.aload_n 0, 1) := by decide +kernel
theorem dX11_stops_12 : decode cX11_stops 12 = .ok (.getfield 20, 3) := by decide +kernel
theorem dX11_stops_15 : decode cX11_stops 15 = .ok (.getfield 182, 3) := by decide +kernel
theorem dX11_stops_18 : decode cX11_stops 18 = .ok (.getfield 185, 3) := by decide +kernel
theorem dX11_stops_21 : decode cX11_stops 21 = .ok (.invokevirtual 290, 3) := by decide +kernel
theorem dX11_stops_24 : decode cX11_stops 24 = .ok (.iconst 0, 1) := by decide +kernel
theorem dX11_stops_25 : decode cX11_stops 25 = .ok (.istore_n 3, 1) := by decide +kernel
theorem dX11_stops_26 : decode cX11_stops 26 = .ok (.iload_n 3, 1) := by decide +kernel
theorem dX11_stops_27 : decode cX11_stops 27 = .ok (.bipush 40, 2) := by decide +kernel
theorem dX11_stops_29 : decode cX11_stops 29 = .ok (.if_icmp .gt 53, 3) := by decide +kernel
theorem dX11_stops_32 : decode cX11_stops 32 = .ok (.aload_n 0, 1) := by decide +kernel
theorem dX11_stops_33 : decode cX11_stops 33 = .ok (.getfield 20, 3) := by decide +kernel
theorem dX11_stops_36 : decode cX11_stops 36 = .ok (.getfield 144, 3) := by decide +kernel
theorem dX11_stops_39 : decode cX11_stops 39 = .ok (.aload_n 0, 1) := by decide +kernel
theorem dX11_stops_40 : decode cX11_stops 40 = .ok (.getfield 51, 3) := by decide +kernel
theorem dX11_stops_43 : decode cX11_stops 43 = .ok (.getfield 297, 3) := by decide +kernel
theorem dX11_stops_46 : decode cX11_stops 46 = .ok (.aload_n 0, 1) := by decide +kernel
theorem dX11_stops_47 : decode cX11_stops 47 = .ok (.getfield 51, 3) := by decide +kernel
theorem dX11_stops_50 : decode cX11_stops 50 = .ok (.getfield 307, 3) := by decide +kernel
theorem dX11_stops_53 : decode cX11_stops 53 = .ok (.invokevirtual 188, 3) := by decide +kernel
theorem dX11_stops_56 : decode cX11_stops 56 = .ok (.iconst (-1), 1) := by decide +kernel
theorem dX11_stops_57 : decode cX11_stops 57 = .ok (.if_icmp .ne 5, 3) := by decide +kernel
theorem dX11_stops_60 : decode cX11_stops 60 = .ok (.iload_n 3, 1) := by decide +kernel
theorem dX11_stops_61 : decode cX11_stops 61 = .ok (.ireturn, 1) := by decide +kernel
theorem dX11_stops_62 : decode cX11_stops 62 = .ok (.aload_n 0, 1) := by decide +kernel
theorem dX11_stops_63 : decode cX11_stops 63 = .ok (.getfield 51, 3) := by decide +kernel
theorem dX11_stops_66 : decode cX11_stops 66 = .ok (.aload_n 0, 1) := by decide +kernel
theorem dX11_stops_67 : decode cX11_stops 67 = .ok (.getfield 20, 3) := by decide +kernel
theorem dX11_stops_70 : decode cX11_stops 70 = .ok (.getfield 144, 3) := by decide +kernel
theorem dX11_stops_73 : decode cX11_stops 73 = .ok (.invokevirtual 304, 3) := by decide +kernel
theorem dX11_stops_76 : decode cX11_stops 76 = .ok (.iinc 3 1, 3) := by decide +kernel
theorem dX11_stops_79 : decode cX11_stops 79 = .ok (.goto (-53), 3) := by decide +kernel
theorem dX11_stops_82 : decode cX11_stops 82 = .ok (.iconst (-1), 1) := by decide +kernel
theorem dX11_stops_83 : decode cX11_stops 83 = .ok (.ireturn, 1) := by decide +kernel
theorem dX11_stays_0 : decode cX11_stays 0 = .ok (.aload_n 0, 1) := by decide +kernel
theorem dX11_stays_1 : decode cX11_stays 1 = .ok (.iload_n 1, 1) := by decide +kernel
theorem dX11_stays_2 : decode cX11_stays 2 = .ok (.invokevirtual 153, 3) := by decide +kernel
theorem dX11_stays_5 : decode cX11_stays 5 = .ok (.astore_n 3, 1) := by decide +kernel
theorem dX11_stays_6 : decode cX11_stays 6 = .ok (.iload_n 2, 1) := by decide +kernel
theorem dX11_stays_7 : decode cX11_stays 7 = .ok (.invokestatic 208, 3) := by decide +kernel
theorem dX11_stays_10 : decode cX11_stays 10 = .ok (.aload_n 0, 1) := by decide +kernel
theorem dX11_stays_11 : decode cX11_stays 11 = .ok (.getfield 51, 3) := by decide +kernel
theorem dX11_stays_14 : decode cX11_stays 14 = .ok (.aload_n 3, 1) := by decide +kernel
theorem dX11_stays_15 : decode cX11_stays 15 = .ok (.aload_n 0, 1) := by decide +kernel
theorem dX11_stays_16 : decode cX11_stays 16 = .ok (.getfield 20, 3) := by decide +kernel
theorem dX11_stays_19 : decode cX11_stays 19 = .ok (.getfield 182, 3) := by decide +kernel
theorem dX11_stays_22 : decode cX11_stays 22 = .ok (.getfield 185, 3) := by decide +kernel
theorem dX11_stays_25 : decode cX11_stays 25 = .ok (.invokevirtual 290, 3) := by decide +kernel
theorem dX11_stays_28 : decode cX11_stays 28 = .ok (.iconst 0, 1) := by decide +kernel
theorem dX11_stays_29 : decode cX11_stays 29 = .ok (.istore 4, 2) := by decide +kernel
theorem dX11_stays_31 : decode cX11_stays 31 = .ok (.iconst 0, 1) := by decide +kernel
theorem dX11_stays_32 : decode cX11_stays 32 = .ok (.istore 5, 2) := by decide +kernel
theorem dX11_stays_34 : decode cX11_stays 34 = .ok (.iload 5, 2) := by decide +kernel
theorem dX11_stays_36 : decode cX11_stays 36 = .ok (.bipush 40, 2) := by decide +kernel
theorem dX11_stays_38 : decode cX11_stays 38 = .ok (.if_icmp .gt 51, 3) := by decide +kernel
theorem dX11_stays_41 : decode cX11_stays 41 = .ok (.aload_n 0, 1) := by decide +kernel
theorem dX11_stays_42 : decode cX11_stays 42 = .ok (.getfield 51, 3) := by decide +kernel
theorem dX11_stays_45 : decode cX11_stays 45 = .ok (.getfield 297, 3) := by decide +kernel
theorem dX11_stays_48 : decode cX11_stays 48 = .ok (.invokevirtual 178, 3) := by decide +kernel
theorem dX11_stays_51 : decode cX11_stays 51 = .ok (.iload_n 2, 1) := by decide +kernel
theorem dX11_stays_52 : decode cX11_stays 52 = .ok (.if_icmp .ne 9, 3) := by decide +kernel
theorem dX11_stays_55 : decode cX11_stays 55 = .ok (.iinc 4 1, 3) := by decide +kernel
theorem dX11_stays_58 : decode cX11_stays 58 = .ok (.goto 11, 3) := by decide +kernel
theorem dX11_stays_61 : decode cX11_stays 61 = .ok (.iload 4, 2) := by decide +kernel
theorem dX11_stays_63 : decode cX11_stays 63 = .ok (.ifCond .le 6, 3) := by decide +kernel
theorem dX11_stays_66 : decode cX11_stays 66 = .ok (.iload 4, 2) := by decide +kernel
theorem dX11_stays_68 : decode cX11_stays 68 = .ok (.ireturn, 1) := by decide +kernel
theorem dX11_stays_69 : decode cX11_stays 69 = .ok (.aload_n 0, 1) := by decide +kernel
theorem dX11_stays_70 : decode cX11_stays 70 = .ok (.getfield 51, 3) := by decide +kernel
theorem dX11_stays_73 : decode cX11_stays 73 = .ok (.aload_n 0, 1) := by decide +kernel
theorem dX11_stays_74 : decode cX11_stays 74 = .ok (.getfield 20, 3) := by decide +kernel
theorem dX11_stays_77 : decode cX11_stays 77 = .ok (.getfield 144, 3) := by decide +kernel
theorem dX11_stays_80 : decode cX11_stays 80 = .ok (.invokevirtual 304, 3) := by decide +kernel
theorem dX11_stays_83 : decode cX11_stays 83 = .ok (.iinc 5 1, 3) := by decide +kernel
theorem dX11_stays_86 : decode cX11_stays 86 = .ok (.goto (-52), 3) := by decide +kernel
theorem dX11_stays_89 : decode cX11_stays 89 = .ok (.iload 4, 2) := by decide +kernel
theorem dX11_stays_91 : decode cX11_stays 91 = .ok (.ireturn, 1) := by decide +kernel
theorem dX11_send_0 : decode cX11_send 0 = .ok (.iload_n 3, 1) := by decide +kernel
theorem dX11_send_1 : decode cX11_send 1 = .ok (.invokestatic 208, 3) := by decide +kernel
theorem dX11_send_4 : decode cX11_send 4 = .ok (.iload_n 1, 1) := by decide +kernel
theorem dX11_send_5 : decode cX11_send 5 = .ok (.invokestatic 308, 3) := by decide +kernel
theorem dX11_send_8 : decode cX11_send 8 = .ok (.iload_n 2, 1) := by decide +kernel
theorem dX11_send_9 : decode cX11_send 9 = .ok (.invokestatic 308, 3) := by decide +kernel
theorem dX11_send_12 : decode cX11_send 12 = .ok (.iload 4, 2) := by decide +kernel
theorem dX11_send_14 : decode cX11_send 14 = .ok (.iconst 0, 1) := by decide +kernel
theorem dX11_send_15 : decode cX11_send 15 = .ok (.invokestatic 285, 3) := by decide +kernel
theorem dX11_send_18 : decode cX11_send 18 = .ok (.iconst 0, 1) := by decide +kernel
theorem dX11_send_19 : decode cX11_send 19 = .ok (.istore 6, 2) := by decide +kernel
theorem dX11_send_21 : decode cX11_send 21 = .ok (.iconst 0, 1) := by decide +kernel
theorem dX11_send_22 : decode cX11_send 22 = .ok (.istore 7, 2) := by decide +kernel
theorem dX11_send_24 : decode cX11_send 24 = .ok (.iload 7, 2) := by decide +kernel
theorem dX11_send_26 : decode cX11_send 26 = .ok (.sipush 156, 3) := by decide +kernel
theorem dX11_send_29 : decode cX11_send 29 = .ok (.if_icmp .ge 71, 3) := by decide +kernel
theorem dX11_send_32 : decode cX11_send 32 = .ok (.aload_n 0, 1) := by decide +kernel
theorem dX11_send_33 : decode cX11_send 33 = .ok (.getfield 51, 3) := by decide +kernel
theorem dX11_send_36 : decode cX11_send 36 = .ok (.iload 7, 2) := by decide +kernel
theorem dX11_send_38 : decode cX11_send 38 = .ok (.iload_n 1, 1) := by decide +kernel
theorem dX11_send_39 : decode cX11_send 39 = .ok (.iload_n 2, 1) := by decide +kernel
theorem dX11_send_40 : decode cX11_send 40 = .ok (.aload_n 0, 1) := by decide +kernel
theorem dX11_send_41 : decode cX11_send 41 = .ok (.getfield 20, 3) := by decide +kernel
theorem dX11_send_44 : decode cX11_send 44 = .ok (.getfield 182, 3) := by decide +kernel
theorem dX11_send_47 : decode cX11_send 47 = .ok (.getfield 185, 3) := by decide +kernel
theorem dX11_send_50 : decode cX11_send 50 = .ok (.invokevirtual 311, 3) := by decide +kernel
theorem dX11_send_53 : decode cX11_send 53 = .ok (.aload_n 0, 1) := by decide +kernel
theorem dX11_send_54 : decode cX11_send 54 = .ok (.getfield 51, 3) := by decide +kernel
theorem dX11_send_57 : decode cX11_send 57 = .ok (.aload_n 0, 1) := by decide +kernel
theorem dX11_send_58 : decode cX11_send 58 = .ok (.getfield 20, 3) := by decide +kernel
theorem dX11_send_61 : decode cX11_send 61 = .ok (.getfield 144, 3) := by decide +kernel
theorem dX11_send_64 : decode cX11_send 64 = .ok (.iload 4, 2) := by decide +kernel
theorem dX11_send_66 : decode cX11_send 66 = .ok (.invokevirtual 293, 3) := by decide +kernel
theorem dX11_send_69 : decode cX11_send 69 = .ok (.aload_n 0, 1) := by decide +kernel
theorem dX11_send_70 : decode cX11_send 70 = .ok (.getfield 51, 3) := by decide +kernel
theorem dX11_send_73 : decode cX11_send 73 = .ok (.getfield 297, 3) := by decide +kernel
theorem dX11_send_76 : decode cX11_send 76 = .ok (.invokevirtual 178, 3) := by decide +kernel
theorem dX11_send_79 : decode cX11_send 79 = .ok (.iload_n 3, 1) := by decide +kernel
theorem dX11_send_80 : decode cX11_send 80 = .ok (.if_icmp .ne 14, 3) := by decide +kernel
theorem dX11_send_83 : decode cX11_send 83 = .ok (.iload 5, 2) := by decide +kernel
theorem dX11_send_85 : decode cX11_send 85 = .ok (.ifCond .ne 6, 3) := by decide +kernel
theorem dX11_send_88 : decode cX11_send 88 = .ok (.iload 7, 2) := by decide +kernel
theorem dX11_send_90 : decode cX11_send 90 = .ok (.ireturn, 1) := by decide +kernel
theorem dX11_send_91 : decode cX11_send 91 = .ok (.iinc 6 1, 3) := by decide +kernel
theorem dX11_send_94 : decode cX11_send 94 = .ok (.iinc 7 1, 3) := by decide +kernel
theorem dX11_send_97 : decode cX11_send 97 = .ok (.goto (-73), 3) := by decide +kernel
theorem dX11_send_100 : decode cX11_send 100 = .ok (.iload 5, 2) := by decide +kernel
theorem dX11_send_102 : decode cX11_send 102 = .ok (.ifCond .eq 8, 3) := by decide +kernel
theorem dX11_send_105 : decode cX11_send 105 = .ok (.iload 6, 2) := by decide +kernel
theorem dX11_send_107 : decode cX11_send 107 = .ok (.goto 4, 3) := by decide +kernel
theorem dX11_send_110 : decode cX11_send 110 = .ok (.iconst (-1), 1) := by decide +kernel
theorem dX11_send_111 : decode cX11_send 111 = .ok (.ireturn, 1) := by decide +kernel
theorem dX11_cuts_0 : decode cX11_cuts 0 = .ok (.aload_n 0, 1) := by decide +kernel
theorem dX11_cuts_1 : decode cX11_cuts 1 = .ok (.iload_n 1, 1) := by decide +kernel
theorem dX11_cuts_2 : decode cX11_cuts 2 = .ok (.invokevirtual 153, 3) := by decide +kernel
theorem dX11_cuts_5 : decode cX11_cuts 5 = .ok (.astore 5, 2) := by decide +kernel
theorem dX11_cuts_7 : decode cX11_cuts 7 = .ok (.iload_n 2, 1) := by decide +kernel
theorem dX11_cuts_8 : decode cX11_cuts 8 = .ok (.invokestatic 208, 3) := by decide +kernel
theorem dX11_cuts_11 : decode cX11_cuts 11 = .ok (.iload_n 3, 1) := by decide +kernel
theorem dX11_cuts_12 : decode cX11_cuts 12 = .ok (.iconst 0, 1) := by decide +kernel
theorem dX11_cuts_13 : decode cX11_cuts 13 = .ok (.invokestatic 285, 3) := by decide +kernel
theorem dX11_cuts_16 : decode cX11_cuts 16 = .ok (.iconst 0, 1) := by decide +kernel
theorem dX11_cuts_17 : decode cX11_cuts 17 = .ok (.istore 6, 2) := by decide +kernel
theorem dX11_cuts_19 : decode cX11_cuts 19 = .ok (.iload 6, 2) := by decide +kernel
theorem dX11_cuts_21 : decode cX11_cuts 21 = .ok (.aload 5, 2) := by decide +kernel
theorem dX11_cuts_23 : decode cX11_cuts 23 = .ok (.getfield 157, 3) := by decide +kernel
theorem dX11_cuts_26 : decode cX11_cuts 26 = .ok (.if_icmp .ge 82, 3) := by decide +kernel
theorem dX11_cuts_29 : decode cX11_cuts 29 = .ok (.aload_n 0, 1) := by decide +kernel
theorem dX11_cuts_30 : decode cX11_cuts 30 = .ok (.getfield 51, 3) := by decide +kernel
theorem dX11_cuts_33 : decode cX11_cuts 33 = .ok (.aload 5, 2) := by decide +kernel
theorem dX11_cuts_35 : decode cX11_cuts 35 = .ok (.aload_n 0, 1) := by decide +kernel
theorem dX11_cuts_36 : decode cX11_cuts 36 = .ok (.getfield 20, 3) := by decide +kernel
theorem dX11_cuts_39 : decode cX11_cuts 39 = .ok (.getfield 182, 3) := by decide +kernel
theorem dX11_cuts_42 : decode cX11_cuts 42 = .ok (.getfield 185, 3) := by decide +kernel
theorem dX11_cuts_45 : decode cX11_cuts 45 = .ok (.invokevirtual 290, 3) := by decide +kernel
theorem dX11_cuts_48 : decode cX11_cuts 48 = .ok (.aload_n 0, 1) := by decide +kernel
theorem dX11_cuts_49 : decode cX11_cuts 49 = .ok (.getfield 51, 3) := by decide +kernel
theorem dX11_cuts_52 : decode cX11_cuts 52 = .ok (.getfield 297, 3) := by decide +kernel
theorem dX11_cuts_55 : decode cX11_cuts 55 = .ok (.iload 6, 2) := by decide +kernel
theorem dX11_cuts_57 : decode cX11_cuts 57 = .ok (.invokevirtual 258, 3) := by decide +kernel
theorem dX11_cuts_60 : decode cX11_cuts 60 = .ok (.aload_n 0, 1) := by decide +kernel
theorem dX11_cuts_61 : decode cX11_cuts 61 = .ok (.getfield 51, 3) := by decide +kernel
theorem dX11_cuts_64 : decode cX11_cuts 64 = .ok (.aload_n 0, 1) := by decide +kernel
theorem dX11_cuts_65 : decode cX11_cuts 65 = .ok (.getfield 20, 3) := by decide +kernel
theorem dX11_cuts_68 : decode cX11_cuts 68 = .ok (.getfield 144, 3) := by decide +kernel
theorem dX11_cuts_71 : decode cX11_cuts 71 = .ok (.iload_n 3, 1) := by decide +kernel
theorem dX11_cuts_72 : decode cX11_cuts 72 = .ok (.invokevirtual 293, 3) := by decide +kernel
theorem dX11_cuts_75 : decode cX11_cuts 75 = .ok (.aload_n 0, 1) := by decide +kernel
theorem dX11_cuts_76 : decode cX11_cuts 76 = .ok (.getfield 51, 3) := by decide +kernel
theorem dX11_cuts_79 : decode cX11_cuts 79 = .ok (.getfield 297, 3) := by decide +kernel
theorem dX11_cuts_82 : decode cX11_cuts 82 = .ok (.invokevirtual 178, 3) := by decide +kernel
theorem dX11_cuts_85 : decode cX11_cuts 85 = .ok (.iload_n 2, 1) := by decide +kernel
theorem dX11_cuts_86 : decode cX11_cuts 86 = .ok (.if_icmp .ne 7, 3) := by decide +kernel
theorem dX11_cuts_89 : decode cX11_cuts 89 = .ok (.iconst 1, 1) := by decide +kernel
theorem dX11_cuts_90 : decode cX11_cuts 90 = .ok (.goto 4, 3) := by decide +kernel
theorem dX11_cuts_93 : decode cX11_cuts 93 = .ok (.iconst 0, 1) := by decide +kernel
theorem dX11_cuts_94 : decode cX11_cuts 94 = .ok (.iload 4, 2) := by decide +kernel
theorem dX11_cuts_96 : decode cX11_cuts 96 = .ok (.if_icmp .eq 6, 3) := by decide +kernel
theorem dX11_cuts_99 : decode cX11_cuts 99 = .ok (.iload 6, 2) := by decide +kernel
theorem dX11_cuts_101 : decode cX11_cuts 101 = .ok (.ireturn, 1) := by decide +kernel
theorem dX11_cuts_102 : decode cX11_cuts 102 = .ok (.iinc 6 1, 3) := by decide +kernel
theorem dX11_cuts_105 : decode cX11_cuts 105 = .ok (.goto (-86), 3) := by decide +kernel
theorem dX11_cuts_108 : decode cX11_cuts 108 = .ok (.iconst (-1), 1) := by decide +kernel
theorem dX11_cuts_109 : decode cX11_cuts 109 = .ok (.ireturn, 1) := by decide +kernel
theorem dX11_out_0 : decode cX11_out 0 = .ok (.aload_n 0, 1) := by decide +kernel
theorem dX11_out_1 : decode cX11_out 1 = .ok (.iload_n 1, 1) := by decide +kernel
theorem dX11_out_2 : decode cX11_out 2 = .ok (.invokevirtual 153, 3) := by decide +kernel
theorem dX11_out_5 : decode cX11_out 5 = .ok (.astore 5, 2) := by decide +kernel
theorem dX11_out_7 : decode cX11_out 7 = .ok (.iload_n 2, 1) := by decide +kernel
theorem dX11_out_8 : decode cX11_out 8 = .ok (.invokestatic 208, 3) := by decide +kernel
theorem dX11_out_11 : decode cX11_out 11 = .ok (.iload_n 3, 1) := by decide +kernel
theorem dX11_out_12 : decode cX11_out 12 = .ok (.iconst 0, 1) := by decide +kernel
theorem dX11_out_13 : decode cX11_out 13 = .ok (.invokestatic 285, 3) := by decide +kernel
theorem dX11_out_16 : decode cX11_out 16 = .ok (.iconst 0, 1) := by decide +kernel
theorem dX11_out_17 : decode cX11_out 17 = .ok (.istore 6, 2) := by decide +kernel
theorem dX11_out_19 : decode cX11_out 19 = .ok (.iconst 0, 1) := by decide +kernel
theorem dX11_out_20 : decode cX11_out 20 = .ok (.istore 7, 2) := by decide +kernel
theorem dX11_out_22 : decode cX11_out 22 = .ok (.iload 7, 2) := by decide +kernel
theorem dX11_out_24 : decode cX11_out 24 = .ok (.aload 5, 2) := by decide +kernel
theorem dX11_out_26 : decode cX11_out 26 = .ok (.getfield 157, 3) := by decide +kernel
theorem dX11_out_29 : decode cX11_out 29 = .ok (.if_icmp .ge 97, 3) := by decide +kernel
theorem dX11_out_32 : decode cX11_out 32 = .ok (.aload 5, 2) := by decide +kernel
theorem dX11_out_34 : decode cX11_out 34 = .ok (.getfield 157, 3) := by decide +kernel
theorem dX11_out_37 : decode cX11_out 37 = .ok (.iconst 1, 1) := by decide +kernel
theorem dX11_out_38 : decode cX11_out 38 = .ok (.if_icmp .le 88, 3) := by decide +kernel
theorem dX11_out_41 : decode cX11_out 41 = .ok (.aload_n 0, 1) := by decide +kernel
theorem dX11_out_42 : decode cX11_out 42 = .ok (.getfield 51, 3) := by decide +kernel
theorem dX11_out_45 : decode cX11_out 45 = .ok (.aload 5, 2) := by decide +kernel
theorem dX11_out_47 : decode cX11_out 47 = .ok (.aload_n 0, 1) := by decide +kernel
theorem dX11_out_48 : decode cX11_out 48 = .ok (.getfield 20, 3) := by decide +kernel
theorem dX11_out_51 : decode cX11_out 51 = .ok (.getfield 182, 3) := by decide +kernel
theorem dX11_out_54 : decode cX11_out 54 = .ok (.getfield 185, 3) := by decide +kernel
theorem dX11_out_57 : decode cX11_out 57 = .ok (.invokevirtual 290, 3) := by decide +kernel
theorem dX11_out_60 : decode cX11_out 60 = .ok (.aload_n 0, 1) := by decide +kernel
theorem dX11_out_61 : decode cX11_out 61 = .ok (.getfield 51, 3) := by decide +kernel
theorem dX11_out_64 : decode cX11_out 64 = .ok (.getfield 297, 3) := by decide +kernel
theorem dX11_out_67 : decode cX11_out 67 = .ok (.iload 7, 2) := by decide +kernel
theorem dX11_out_69 : decode cX11_out 69 = .ok (.invokevirtual 266, 3) := by decide +kernel
theorem dX11_out_72 : decode cX11_out 72 = .ok (.aload_n 0, 1) := by decide +kernel
theorem dX11_out_73 : decode cX11_out 73 = .ok (.getfield 51, 3) := by decide +kernel
theorem dX11_out_76 : decode cX11_out 76 = .ok (.aload_n 0, 1) := by decide +kernel
theorem dX11_out_77 : decode cX11_out 77 = .ok (.getfield 20, 3) := by decide +kernel
theorem dX11_out_80 : decode cX11_out 80 = .ok (.getfield 144, 3) := by decide +kernel
theorem dX11_out_83 : decode cX11_out 83 = .ok (.iload_n 3, 1) := by decide +kernel
theorem dX11_out_84 : decode cX11_out 84 = .ok (.invokevirtual 293, 3) := by decide +kernel
theorem dX11_out_87 : decode cX11_out 87 = .ok (.aload_n 0, 1) := by decide +kernel
theorem dX11_out_88 : decode cX11_out 88 = .ok (.getfield 51, 3) := by decide +kernel
theorem dX11_out_91 : decode cX11_out 91 = .ok (.getfield 297, 3) := by decide +kernel
theorem dX11_out_94 : decode cX11_out 94 = .ok (.invokevirtual 178, 3) := by decide +kernel
theorem dX11_out_97 : decode cX11_out 97 = .ok (.iload_n 2, 1) := by decide +kernel
theorem dX11_out_98 : decode cX11_out 98 = .ok (.if_icmp .ne 7, 3) := by decide +kernel
theorem dX11_out_101 : decode cX11_out 101 = .ok (.iconst 1, 1) := by decide +kernel
theorem dX11_out_102 : decode cX11_out 102 = .ok (.goto 4, 3) := by decide +kernel
theorem dX11_out_105 : decode cX11_out 105 = .ok (.iconst 0, 1) := by decide +kernel
theorem dX11_out_106 : decode cX11_out 106 = .ok (.iload 4, 2) := by decide +kernel
theorem dX11_out_108 : decode cX11_out 108 = .ok (.if_icmp .eq 12, 3) := by decide +kernel
theorem dX11_out_111 : decode cX11_out 111 = .ok (.iload 6, 2) := by decide +kernel
theorem dX11_out_113 : decode cX11_out 113 = .ok (.iconst 1, 1) := by decide +kernel
theorem dX11_out_114 : decode cX11_out 114 = .ok (.iload 7, 2) := by decide +kernel
theorem dX11_out_116 : decode cX11_out 116 = .ok (.ishl, 1) := by decide +kernel
theorem dX11_out_117 : decode cX11_out 117 = .ok (.ior, 1) := by decide +kernel
theorem dX11_out_118 : decode cX11_out 118 = .ok (.istore 6, 2) := by decide +kernel
theorem dX11_out_120 : decode cX11_out 120 = .ok (.iinc 7 1, 3) := by decide +kernel
theorem dX11_out_123 : decode cX11_out 123 = .ok (.goto (-101), 3) := by decide +kernel
theorem dX11_out_126 : decode cX11_out 126 = .ok (.iload 6, 2) := by decide +kernel
theorem dX11_out_128 : decode cX11_out 128 = .ok (.ireturn, 1) := by decide +kernel
theorem dX11_astray_0 : decode cX11_astray 0 = .ok (.aload_n 0, 1) := by decide +kernel
theorem dX11_astray_1 : decode cX11_astray 1 = .ok (.getfield 20, 3) := by decide +kernel
theorem dX11_astray_4 : decode cX11_astray 4 = .ok (.getfield 144, 3) := by decide +kernel
theorem dX11_astray_7 : decode cX11_astray 7 = .ok (.aload_n 0, 1) := by decide +kernel
theorem dX11_astray_8 : decode cX11_astray 8 = .ok (.iload_n 1, 1) := by decide +kernel
theorem dX11_astray_9 : decode cX11_astray 9 = .ok (.invokevirtual 153, 3) := by decide +kernel
theorem dX11_astray_12 : decode cX11_astray 12 = .ok (.invokevirtual 315, 3) := by decide +kernel
theorem dX11_astray_15 : decode cX11_astray 15 = .ok (.ireturn, 1) := by decide +kernel
theorem dX11_written_0 : decode cX11_written 0 = .ok (.aload_n 0, 1) := by decide +kernel
theorem dX11_written_1 : decode cX11_written 1 = .ok (.getfield 20, 3) := by decide +kernel
theorem dX11_written_4 : decode cX11_written 4 = .ok (.getfield 144, 3) := by decide +kernel
theorem dX11_written_7 : decode cX11_written 7 = .ok (.aload_n 0, 1) := by decide +kernel
theorem dX11_written_8 : decode cX11_written 8 = .ok (.iload_n 1, 1) := by decide +kernel
theorem dX11_written_9 : decode cX11_written 9 = .ok (.invokevirtual 153, 3) := by decide +kernel
theorem dX11_written_12 : decode cX11_written 12 = .ok (.invokevirtual 315, 3) := by decide +kernel
theorem dX11_written_15 : decode cX11_written 15 = .ok (.istore_n 2, 1) := by decide +kernel
theorem dX11_written_16 : decode cX11_written 16 = .ok (.bipush 23, 2) := by decide +kernel
theorem dX11_written_18 : decode cX11_written 18 = .ok (.istore_n 3, 1) := by decide +kernel
theorem dX11_written_19 : decode cX11_written 19 = .ok (.iload_n 3, 1) := by decide +kernel
theorem dX11_written_20 : decode cX11_written 20 = .ok (.ifCond .le 22, 3) := by decide +kernel
theorem dX11_written_23 : decode cX11_written 23 = .ok (.iload_n 2, 1) := by decide +kernel
theorem dX11_written_24 : decode cX11_written 24 = .ok (.iload_n 3, 1) := by decide +kernel
theorem dX11_written_25 : decode cX11_written 25 = .ok (.ishr, 1) := by decide +kernel
theorem dX11_written_26 : decode cX11_written 26 = .ok (.iconst 1, 1) := by decide +kernel
theorem dX11_written_27 : decode cX11_written 27 = .ok (.iand, 1) := by decide +kernel
theorem dX11_written_28 : decode cX11_written 28 = .ok (.iconst 1, 1) := by decide +kernel
theorem dX11_written_29 : decode cX11_written 29 = .ok (.if_icmp .ne 7, 3) := by decide +kernel
theorem dX11_written_32 : decode cX11_written 32 = .ok (.iload_n 3, 1) := by decide +kernel
theorem dX11_written_33 : decode cX11_written 33 = .ok (.iconst 1, 1) := by decide +kernel
theorem dX11_written_34 : decode cX11_written 34 = .ok (.iadd, 1) := by decide +kernel
theorem dX11_written_35 : decode cX11_written 35 = .ok (.ireturn, 1) := by decide +kernel
theorem dX11_written_36 : decode cX11_written 36 = .ok (.iinc 3 (-1), 3) := by decide +kernel
theorem dX11_written_39 : decode cX11_written 39 = .ok (.goto (-20), 3) := by decide +kernel
theorem dX11_written_42 : decode cX11_written 42 = .ok (.iconst 1, 1) := by decide +kernel
theorem dX11_written_43 : decode cX11_written 43 = .ok (.ireturn, 1) := by decide +kernel
theorem dX11_senseless_0 : decode cX11_senseless 0 = .ok (.aload_n 0, 1) := by decide +kernel
theorem dX11_senseless_1 : decode cX11_senseless 1 = .ok (.iload_n 1, 1) := by decide +kernel
theorem dX11_senseless_2 : decode cX11_senseless 2 = .ok (.invokevirtual 153, 3) := by decide +kernel
theorem dX11_senseless_5 : decode cX11_senseless 5 = .ok (.astore_n 2, 1) := by decide +kernel
theorem dX11_senseless_6 : decode cX11_senseless 6 = .ok (.iconst 1, 1) := by decide +kernel
theorem dX11_senseless_7 : decode cX11_senseless 7 = .ok (.istore_n 3, 1) := by decide +kernel
theorem dX11_senseless_8 : decode cX11_senseless 8 = .ok (.iload_n 3, 1) := by decide +kernel
theorem dX11_senseless_9 : decode cX11_senseless 9 = .ok (.aload_n 2, 1) := by decide +kernel
theorem dX11_senseless_10 : decode cX11_senseless 10 = .ok (.getfield 157, 3) := by decide +kernel
theorem dX11_senseless_13 : decode cX11_senseless 13 = .ok (.if_icmp .ge 36, 3) := by decide +kernel
theorem dX11_senseless_16 : decode cX11_senseless 16 = .ok (.aload_n 0, 1) := by decide +kernel
theorem dX11_senseless_17 : decode cX11_senseless 17 = .ok (.getfield 20, 3) := by decide +kernel
theorem dX11_senseless_20 : decode cX11_senseless 20 = .ok (.getfield 144, 3) := by decide +kernel
theorem dX11_senseless_23 : decode cX11_senseless 23 = .ok (.aload_n 2, 1) := by decide +kernel
theorem dX11_senseless_24 : decode cX11_senseless 24 = .ok (.iload_n 3, 1) := by decide +kernel
theorem dX11_senseless_25 : decode cX11_senseless 25 = .ok (.iconst 1, 1) := by decide +kernel
theorem dX11_senseless_26 : decode cX11_senseless 26 = .ok (.isub, 1) := by decide +kernel
theorem dX11_senseless_27 : decode cX11_senseless 27 = .ok (.invokevirtual 205, 3) := by decide +kernel
theorem dX11_senseless_30 : decode cX11_senseless 30 = .ok (.aload_n 2, 1) := by decide +kernel
theorem dX11_senseless_31 : decode cX11_senseless 31 = .ok (.iload_n 3, 1) := by decide +kernel
theorem dX11_senseless_32 : decode cX11_senseless 32 = .ok (.invokevirtual 205, 3) := by decide +kernel
theorem dX11_senseless_35 : decode cX11_senseless 35 = .ok (.invokevirtual 318, 3) := by decide +kernel
theorem dX11_senseless_38 : decode cX11_senseless 38 = .ok (.ifCond .ne 5, 3) := by decide +kernel
theorem dX11_senseless_41 : decode cX11_senseless 41 = .ok (.iload_n 3, 1) := by decide +kernel
theorem dX11_senseless_42 : decode cX11_senseless 42 = .ok (.ireturn, 1) := by decide +kernel
theorem dX11_senseless_43 : decode cX11_senseless 43 = .ok (.iinc 3 1, 3) := by decide +kernel
theorem dX11_senseless_46 : decode cX11_senseless 46 = .ok (.goto (-38), 3) := by decide +kernel
theorem dX11_senseless_49 : decode cX11_senseless 49 = .ok (.iconst (-1), 1) := by decide +kernel
theorem dX11_senseless_50 : decode cX11_senseless 50 = .ok (.ireturn, 1) := by decide +kernel
theorem dX11_meet_0 : decode cX11_meet 0 = .ok (.aload_n 0, 1) := by decide +kernel
theorem dX11_meet_1 : decode cX11_meet 1 = .ok (.iload_n 1, 1) := by decide +kernel
theorem dX11_meet_2 : decode cX11_meet 2 = .ok (.invokevirtual 153, 3) := by decide +kernel
theorem dX11_meet_5 : decode cX11_meet 5 = .ok (.astore 4, 2) := by decide +kernel
theorem dX11_meet_7 : decode cX11_meet 7 = .ok (.aload_n 0, 1) := by decide +kernel
theorem dX11_meet_8 : decode cX11_meet 8 = .ok (.iload_n 2, 1) := by decide +kernel
theorem dX11_meet_9 : decode cX11_meet 9 = .ok (.invokevirtual 153, 3) := by decide +kernel
theorem dX11_meet_12 : decode cX11_meet 12 = .ok (.astore 5, 2) := by decide +kernel
theorem dX11_meet_14 : decode cX11_meet 14 = .ok (.iload_n 1, 1) := by decide +kernel
theorem dX11_meet_15 : decode cX11_meet 15 = .ok (.iload_n 2, 1) := by decide +kernel
theorem dX11_meet_16 : decode cX11_meet 16 = .ok (.invokestatic 322, 3) := by decide +kernel
theorem dX11_meet_19 : decode cX11_meet 19 = .ok (.aload_n 0, 1) := by decide +kernel
theorem dX11_meet_20 : decode cX11_meet 20 = .ok (.getfield 51, 3) := by decide +kernel
theorem dX11_meet_23 : decode cX11_meet 23 = .ok (.aload 4, 2) := by decide +kernel
theorem dX11_meet_25 : decode cX11_meet 25 = .ok (.aload_n 0, 1) := by decide +kernel
theorem dX11_meet_26 : decode cX11_meet 26 = .ok (.getfield 20, 3) := by decide +kernel
theorem dX11_meet_29 : decode cX11_meet 29 = .ok (.getfield 182, 3) := by decide +kernel
theorem dX11_meet_32 : decode cX11_meet 32 = .ok (.getfield 185, 3) := by decide +kernel
theorem dX11_meet_35 : decode cX11_meet 35 = .ok (.invokevirtual 290, 3) := by decide +kernel
theorem dX11_meet_38 : decode cX11_meet 38 = .ok (.aload_n 0, 1) := by decide +kernel
theorem dX11_meet_39 : decode cX11_meet 39 = .ok (.getfield 55, 3) := by decide +kernel
theorem dX11_meet_42 : decode cX11_meet 42 = .ok (.aload 5, 2) := by decide +kernel
theorem dX11_meet_44 : decode cX11_meet 44 = .ok (.aload_n 0, 1) := by decide +kernel
theorem dX11_meet_45 : decode cX11_meet 45 = .ok (.getfield 20, 3) := by decide +kernel
theorem dX11_meet_48 : decode cX11_meet 48 = .ok (.getfield 182, 3) := by decide +kernel
theorem dX11_meet_51 : decode cX11_meet 51 = .ok (.getfield 185, 3) := by decide +kernel
theorem dX11_meet_54 : decode cX11_meet 54 = .ok (.invokevirtual 290, 3) := by decide +kernel
theorem dX11_meet_57 : decode cX11_meet 57 = .ok (.iconst 0, 1) := by decide +kernel
theorem dX11_meet_58 : decode cX11_meet 58 = .ok (.istore 6, 2) := by decide +kernel
theorem dX11_meet_60 : decode cX11_meet 60 = .ok (.iload 6, 2) := by decide +kernel
theorem dX11_meet_62 : decode cX11_meet 62 = .ok (.bipush 40, 2) := by decide +kernel
theorem dX11_meet_64 : decode cX11_meet 64 = .ok (.if_icmp .gt 108, 3) := by decide +kernel
theorem dX11_meet_67 : decode cX11_meet 67 = .ok (.iload_n 3, 1) := by decide +kernel
theorem dX11_meet_68 : decode cX11_meet 68 = .ok (.ifCond .eq 32, 3) := by decide +kernel
theorem dX11_meet_71 : decode cX11_meet 71 = .ok (.aload_n 0, 1) := by decide +kernel
theorem dX11_meet_72 : decode cX11_meet 72 = .ok (.getfield 51, 3) := by decide +kernel
theorem dX11_meet_75 : decode cX11_meet 75 = .ok (.getfield 297, 3) := by decide +kernel
theorem dX11_meet_78 : decode cX11_meet 78 = .ok (.aload_n 0, 1) := by decide +kernel
theorem dX11_meet_79 : decode cX11_meet 79 = .ok (.getfield 55, 3) := by decide +kernel
theorem dX11_meet_82 : decode cX11_meet 82 = .ok (.getfield 297, 3) := by decide +kernel
theorem dX11_meet_85 : decode cX11_meet 85 = .ok (.invokevirtual 325, 3) := by decide +kernel
theorem dX11_meet_88 : decode cX11_meet 88 = .ok (.iconst (-1), 1) := by decide +kernel
theorem dX11_meet_89 : decode cX11_meet 89 = .ok (.if_icmp .ne 7, 3) := by decide +kernel
theorem dX11_meet_92 : decode cX11_meet 92 = .ok (.iconst 1, 1) := by decide +kernel
theorem dX11_meet_93 : decode cX11_meet 93 = .ok (.goto 35, 3) := by decide +kernel
theorem dX11_meet_96 : decode cX11_meet 96 = .ok (.iconst 0, 1) := by decide +kernel
theorem dX11_meet_97 : decode cX11_meet 97 = .ok (.goto 31, 3) := by decide +kernel
theorem dX11_meet_100 : decode cX11_meet 100 = .ok (.aload_n 0, 1) := by decide +kernel
theorem dX11_meet_101 : decode cX11_meet 101 = .ok (.getfield 51, 3) := by decide +kernel
theorem dX11_meet_104 : decode cX11_meet 104 = .ok (.getfield 297, 3) := by decide +kernel
theorem dX11_meet_107 : decode cX11_meet 107 = .ok (.invokevirtual 178, 3) := by decide +kernel
theorem dX11_meet_110 : decode cX11_meet 110 = .ok (.aload_n 0, 1) := by decide +kernel
theorem dX11_meet_111 : decode cX11_meet 111 = .ok (.getfield 55, 3) := by decide +kernel
theorem dX11_meet_114 : decode cX11_meet 114 = .ok (.getfield 297, 3) := by decide +kernel
theorem dX11_meet_117 : decode cX11_meet 117 = .ok (.invokevirtual 178, 3) := by decide +kernel
theorem dX11_meet_120 : decode cX11_meet 120 = .ok (.if_icmp .ne 7, 3) := by decide +kernel
theorem dX11_meet_123 : decode cX11_meet 123 = .ok (.iconst 1, 1) := by decide +kernel
theorem dX11_meet_124 : decode cX11_meet 124 = .ok (.goto 4, 3) := by decide +kernel
theorem dX11_meet_127 : decode cX11_meet 127 = .ok (.iconst 0, 1) := by decide +kernel
theorem dX11_meet_128 : decode cX11_meet 128 = .ok (.istore 7, 2) := by decide +kernel
theorem dX11_meet_130 : decode cX11_meet 130 = .ok (.iload 7, 2) := by decide +kernel
theorem dX11_meet_132 : decode cX11_meet 132 = .ok (.ifCond .eq 6, 3) := by decide +kernel
theorem dX11_meet_135 : decode cX11_meet 135 = .ok (.iload 6, 2) := by decide +kernel
theorem dX11_meet_137 : decode cX11_meet 137 = .ok (.ireturn, 1) := by decide +kernel
theorem dX11_meet_138 : decode cX11_meet 138 = .ok (.aload_n 0, 1) := by decide +kernel
theorem dX11_meet_139 : decode cX11_meet 139 = .ok (.getfield 51, 3) := by decide +kernel
theorem dX11_meet_142 : decode cX11_meet 142 = .ok (.aload_n 0, 1) := by decide +kernel
theorem dX11_meet_143 : decode cX11_meet 143 = .ok (.getfield 20, 3) := by decide +kernel
theorem dX11_meet_146 : decode cX11_meet 146 = .ok (.getfield 144, 3) := by decide +kernel
theorem dX11_meet_149 : decode cX11_meet 149 = .ok (.invokevirtual 304, 3) := by decide +kernel
theorem dX11_meet_152 : decode cX11_meet 152 = .ok (.aload_n 0, 1) := by decide +kernel
theorem dX11_meet_153 : decode cX11_meet 153 = .ok (.getfield 55, 3) := by decide +kernel
theorem dX11_meet_156 : decode cX11_meet 156 = .ok (.aload_n 0, 1) := by decide +kernel
theorem dX11_meet_157 : decode cX11_meet 157 = .ok (.getfield 20, 3) := by decide +kernel
theorem dX11_meet_160 : decode cX11_meet 160 = .ok (.getfield 144, 3) := by decide +kernel
theorem dX11_meet_163 : decode cX11_meet 163 = .ok (.invokevirtual 304, 3) := by decide +kernel
theorem dX11_meet_166 : decode cX11_meet 166 = .ok (.iinc 6 1, 3) := by decide +kernel
theorem dX11_meet_169 : decode cX11_meet 169 = .ok (.goto (-109), 3) := by decide +kernel
theorem dX11_meet_172 : decode cX11_meet 172 = .ok (.iconst (-1), 1) := by decide +kernel
theorem dX11_meet_173 : decode cX11_meet 173 = .ok (.ireturn, 1) := by decide +kernel
theorem dX11_part_0 : decode cX11_part 0 = .ok (.aload_n 0, 1) := by decide +kernel
theorem dX11_part_1 : decode cX11_part 1 = .ok (.iload_n 1, 1) := by decide +kernel
theorem dX11_part_2 : decode cX11_part 2 = .ok (.invokevirtual 153, 3) := by decide +kernel
theorem dX11_part_5 : decode cX11_part 5 = .ok (.astore_n 3, 1) := by decide +kernel
theorem dX11_part_6 : decode cX11_part 6 = .ok (.aload_n 0, 1) := by decide +kernel
theorem dX11_part_7 : decode cX11_part 7 = .ok (.iload_n 2, 1) := by decide +kernel
theorem dX11_part_8 : decode cX11_part 8 = .ok (.invokevirtual 153, 3) := by decide +kernel
theorem dX11_part_11 : decode cX11_part 11 = .ok (.astore 4, 2) := by decide +kernel
theorem dX11_part_13 : decode cX11_part 13 = .ok (.iload_n 1, 1) := by decide +kernel
theorem dX11_part_14 : decode cX11_part 14 = .ok (.iload_n 2, 1) := by decide +kernel
theorem dX11_part_15 : decode cX11_part 15 = .ok (.invokestatic 322, 3) := by decide +kernel
theorem dX11_part_18 : decode cX11_part 18 = .ok (.aload_n 3, 1) := by decide +kernel
theorem dX11_part_19 : decode cX11_part 19 = .ok (.aload 4, 2) := by decide +kernel
theorem dX11_part_21 : decode cX11_part 21 = .ok (.invokevirtual 325, 3) := by decide +kernel
theorem dX11_part_24 : decode cX11_part 24 = .ok (.ireturn, 1) := by decide +kernel
theorem dX11_drawer_0 : decode cX11_drawer 0 = .ok (.aload_n 0, 1) := by decide +kernel
theorem dX11_drawer_1 : decode cX11_drawer 1 = .ok (.invokevirtual 328, 3) := by decide +kernel
theorem dX11_drawer_4 : decode cX11_drawer 4 = .ok (.bipush 41, 2) := by decide +kernel
theorem dX11_drawer_6 : decode cX11_drawer 6 = .ok (.istore_n 1, 1) := by decide +kernel
theorem dX11_drawer_7 : decode cX11_drawer 7 = .ok (.iconst (-1), 1) := by decide +kernel
theorem dX11_drawer_8 : decode cX11_drawer 8 = .ok (.istore_n 2, 1) := by decide +kernel
theorem dX11_drawer_9 : decode cX11_drawer 9 = .ok (.iconst 0, 1) := by decide +kernel
theorem dX11_drawer_10 : decode cX11_drawer 10 = .ok (.istore_n 3, 1) := by decide +kernel
theorem dX11_drawer_11 : decode cX11_drawer 11 = .ok (.iload_n 3, 1) := by decide +kernel
theorem dX11_drawer_12 : decode cX11_drawer 12 = .ok (.aload_n 0, 1) := by decide +kernel
theorem dX11_drawer_13 : decode cX11_drawer 13 = .ok (.getfield 20, 3) := by decide +kernel
theorem dX11_drawer_16 : decode cX11_drawer 16 = .ok (.getfield 182, 3) := by decide +kernel
theorem dX11_drawer_19 : decode cX11_drawer 19 = .ok (.getfield 235, 3) := by decide +kernel
theorem dX11_drawer_22 : decode cX11_drawer 22 = .ok (.if_icmp .ge 87, 3) := by decide +kernel
theorem dX11_drawer_25 : decode cX11_drawer 25 = .ok (.iload_n 3, 1) := by decide +kernel
theorem dX11_drawer_26 : decode cX11_drawer 26 = .ok (.iconst 1, 1) := by decide +kernel
theorem dX11_drawer_27 : decode cX11_drawer 27 = .ok (.iadd, 1) := by decide +kernel
theorem dX11_drawer_28 : decode cX11_drawer 28 = .ok (.istore 4, 2) := by decide +kernel
theorem dX11_drawer_30 : decode cX11_drawer 30 = .ok (.iload 4, 2) := by decide +kernel
theorem dX11_drawer_32 : decode cX11_drawer 32 = .ok (.aload_n 0, 1) := by decide +kernel
theorem dX11_drawer_33 : decode cX11_drawer 33 = .ok (.getfield 20, 3) := by decide +kernel
theorem dX11_drawer_36 : decode cX11_drawer 36 = .ok (.getfield 182, 3) := by decide +kernel
theorem dX11_drawer_39 : decode cX11_drawer 39 = .ok (.getfield 235, 3) := by decide +kernel
theorem dX11_drawer_42 : decode cX11_drawer 42 = .ok (.if_icmp .ge 61, 3) := by decide +kernel
theorem dX11_drawer_45 : decode cX11_drawer 45 = .ok (.aload_n 0, 1) := by decide +kernel
theorem dX11_drawer_46 : decode cX11_drawer 46 = .ok (.getfield 20, 3) := by decide +kernel
theorem dX11_drawer_49 : decode cX11_drawer 49 = .ok (.getfield 182, 3) := by decide +kernel
theorem dX11_drawer_52 : decode cX11_drawer 52 = .ok (.iload_n 3, 1) := by decide +kernel
theorem dX11_drawer_53 : decode cX11_drawer 53 = .ok (.iload 4, 2) := by decide +kernel
theorem dX11_drawer_55 : decode cX11_drawer 55 = .ok (.invokevirtual 331, 3) := by decide +kernel
theorem dX11_drawer_58 : decode cX11_drawer 58 = .ok (.ifCond .eq 13, 3) := by decide +kernel
theorem dX11_drawer_61 : decode cX11_drawer 61 = .ok (.aload_n 0, 1) := by decide +kernel
theorem dX11_drawer_62 : decode cX11_drawer 62 = .ok (.iload_n 3, 1) := by decide +kernel
theorem dX11_drawer_63 : decode cX11_drawer 63 = .ok (.iload 4, 2) := by decide +kernel
theorem dX11_drawer_65 : decode cX11_drawer 65 = .ok (.invokevirtual 334, 3) := by decide +kernel
theorem dX11_drawer_68 : decode cX11_drawer 68 = .ok (.goto 4, 3) := by decide +kernel
theorem dX11_drawer_71 : decode cX11_drawer 71 = .ok (.iconst (-1), 1) := by decide +kernel
theorem dX11_drawer_72 : decode cX11_drawer 72 = .ok (.istore 5, 2) := by decide +kernel
theorem dX11_drawer_74 : decode cX11_drawer 74 = .ok (.iload 5, 2) := by decide +kernel
theorem dX11_drawer_76 : decode cX11_drawer 76 = .ok (.iconst (-1), 1) := by decide +kernel
theorem dX11_drawer_77 : decode cX11_drawer 77 = .ok (.if_icmp .eq 20, 3) := by decide +kernel
theorem dX11_drawer_80 : decode cX11_drawer 80 = .ok (.iload 5, 2) := by decide +kernel
theorem dX11_drawer_82 : decode cX11_drawer 82 = .ok (.iload_n 1, 1) := by decide +kernel
theorem dX11_drawer_83 : decode cX11_drawer 83 = .ok (.if_icmp .ge 14, 3) := by decide +kernel
theorem dX11_drawer_86 : decode cX11_drawer 86 = .ok (.iload 5, 2) := by decide +kernel
theorem dX11_drawer_88 : decode cX11_drawer 88 = .ok (.istore_n 1, 1) := by decide +kernel
theorem dX11_drawer_89 : decode cX11_drawer 89 = .ok (.bipush 10, 2) := by decide +kernel
theorem dX11_drawer_91 : decode cX11_drawer 91 = .ok (.iload_n 3, 1) := by decide +kernel
theorem dX11_drawer_92 : decode cX11_drawer 92 = .ok (.imul, 1) := by decide +kernel
theorem dX11_drawer_93 : decode cX11_drawer 93 = .ok (.iload 4, 2) := by decide +kernel
theorem dX11_drawer_95 : decode cX11_drawer 95 = .ok (.iadd, 1) := by decide +kernel
theorem dX11_drawer_96 : decode cX11_drawer 96 = .ok (.istore_n 2, 1) := by decide +kernel
theorem dX11_drawer_97 : decode cX11_drawer 97 = .ok (.iinc 4 1, 3) := by decide +kernel
theorem dX11_drawer_100 : decode cX11_drawer 100 = .ok (.goto (-70), 3) := by decide +kernel
theorem dX11_drawer_103 : decode cX11_drawer 103 = .ok (.iinc 3 1, 3) := by decide +kernel
theorem dX11_drawer_106 : decode cX11_drawer 106 = .ok (.goto (-95), 3) := by decide +kernel
theorem dX11_drawer_109 : decode cX11_drawer 109 = .ok (.iload_n 2, 1) := by decide +kernel
theorem dX11_drawer_110 : decode cX11_drawer 110 = .ok (.ireturn, 1) := by decide +kernel
theorem dX11_bound_0 : decode cX11_bound 0 = .ok (.aload_n 0, 1) := by decide +kernel
theorem dX11_bound_1 : decode cX11_bound 1 = .ok (.iload_n 1, 1) := by decide +kernel
theorem dX11_bound_2 : decode cX11_bound 2 = .ok (.invokevirtual 153, 3) := by decide +kernel
theorem dX11_bound_5 : decode cX11_bound 5 = .ok (.astore_n 3, 1) := by decide +kernel
theorem dX11_bound_6 : decode cX11_bound 6 = .ok (.iload_n 2, 1) := by decide +kernel
theorem dX11_bound_7 : decode cX11_bound 7 = .ok (.iconst 0, 1) := by decide +kernel
theorem dX11_bound_8 : decode cX11_bound 8 = .ok (.invokestatic 285, 3) := by decide +kernel
theorem dX11_bound_11 : decode cX11_bound 11 = .ok (.aload_n 0, 1) := by decide +kernel
theorem dX11_bound_12 : decode cX11_bound 12 = .ok (.getfield 51, 3) := by decide +kernel
theorem dX11_bound_15 : decode cX11_bound 15 = .ok (.aload_n 3, 1) := by decide +kernel
theorem dX11_bound_16 : decode cX11_bound 16 = .ok (.aload_n 0, 1) := by decide +kernel
theorem dX11_bound_17 : decode cX11_bound 17 = .ok (.getfield 20, 3) := by decide +kernel
theorem dX11_bound_20 : decode cX11_bound 20 = .ok (.getfield 182, 3) := by decide +kernel
theorem dX11_bound_23 : decode cX11_bound 23 = .ok (.getfield 185, 3) := by decide +kernel
theorem dX11_bound_26 : decode cX11_bound 26 = .ok (.invokevirtual 290, 3) := by decide +kernel
theorem dX11_bound_29 : decode cX11_bound 29 = .ok (.aload_n 0, 1) := by decide +kernel
theorem dX11_bound_30 : decode cX11_bound 30 = .ok (.getfield 51, 3) := by decide +kernel
theorem dX11_bound_33 : decode cX11_bound 33 = .ok (.aload_n 0, 1) := by decide +kernel
theorem dX11_bound_34 : decode cX11_bound 34 = .ok (.getfield 20, 3) := by decide +kernel
theorem dX11_bound_37 : decode cX11_bound 37 = .ok (.getfield 144, 3) := by decide +kernel
theorem dX11_bound_40 : decode cX11_bound 40 = .ok (.iload_n 2, 1) := by decide +kernel
theorem dX11_bound_41 : decode cX11_bound 41 = .ok (.invokevirtual 293, 3) := by decide +kernel
theorem dX11_bound_44 : decode cX11_bound 44 = .ok (.aload_n 0, 1) := by decide +kernel
theorem dX11_bound_45 : decode cX11_bound 45 = .ok (.getfield 20, 3) := by decide +kernel
theorem dX11_bound_48 : decode cX11_bound 48 = .ok (.aload_n 0, 1) := by decide +kernel
theorem dX11_bound_49 : decode cX11_bound 49 = .ok (.getfield 51, 3) := by decide +kernel
theorem dX11_bound_52 : decode cX11_bound 52 = .ok (.getfield 297, 3) := by decide +kernel
theorem dX11_bound_55 : decode cX11_bound 55 = .ok (.invokevirtual 338, 3) := by decide +kernel
theorem dX11_bound_58 : decode cX11_bound 58 = .ok (.ireturn, 1) := by decide +kernel
theorem dX11_when_0 : decode cX11_when 0 = .ok (.aload_n 0, 1) := by decide +kernel
theorem dX11_when_1 : decode cX11_when 1 = .ok (.iload_n 1, 1) := by decide +kernel
theorem dX11_when_2 : decode cX11_when 2 = .ok (.invokevirtual 153, 3) := by decide +kernel
theorem dX11_when_5 : decode cX11_when 5 = .ok (.astore_n 3, 1) := by decide +kernel
theorem dX11_when_6 : decode cX11_when 6 = .ok (.aload_n 0, 1) := by decide +kernel
theorem dX11_when_7 : decode cX11_when 7 = .ok (.iload_n 2, 1) := by decide +kernel
theorem dX11_when_8 : decode cX11_when 8 = .ok (.invokevirtual 214, 3) := by decide +kernel
theorem dX11_when_11 : decode cX11_when 11 = .ok (.aload_n 0, 1) := by decide +kernel
theorem dX11_when_12 : decode cX11_when 12 = .ok (.aload_n 3, 1) := by decide +kernel
theorem dX11_when_13 : decode cX11_when 13 = .ok (.iload_n 2, 1) := by decide +kernel
theorem dX11_when_14 : decode cX11_when 14 = .ok (.invokevirtual 341, 3) := by decide +kernel
theorem dX11_when_17 : decode cX11_when 17 = .ok (.ireturn, 1) := by decide +kernel
theorem dX11_soonest_0 : decode cX11_soonest 0 = .ok (.aload_n 0, 1) := by decide +kernel
theorem dX11_soonest_1 : decode cX11_soonest 1 = .ok (.iload_n 1, 1) := by decide +kernel
theorem dX11_soonest_2 : decode cX11_soonest 2 = .ok (.invokevirtual 214, 3) := by decide +kernel
theorem dX11_soonest_5 : decode cX11_soonest 5 = .ok (.bipush 41, 2) := by decide +kernel
theorem dX11_soonest_7 : decode cX11_soonest 7 = .ok (.istore_n 2, 1) := by decide +kernel
theorem dX11_soonest_8 : decode cX11_soonest 8 = .ok (.iconst (-1), 1) := by decide +kernel
theorem dX11_soonest_9 : decode cX11_soonest 9 = .ok (.istore_n 3, 1) := by decide +kernel
theorem dX11_soonest_10 : decode cX11_soonest 10 = .ok (.iconst 0, 1) := by decide +kernel
theorem dX11_soonest_11 : decode cX11_soonest 11 = .ok (.istore 4, 2) := by decide +kernel
theorem dX11_soonest_13 : decode cX11_soonest 13 = .ok (.iload 4, 2) := by decide +kernel
theorem dX11_soonest_15 : decode cX11_soonest 15 = .ok (.aload_n 0, 1) := by decide +kernel
theorem dX11_soonest_16 : decode cX11_soonest 16 = .ok (.getfield 20, 3) := by decide +kernel
theorem dX11_soonest_19 : decode cX11_soonest 19 = .ok (.getfield 182, 3) := by decide +kernel
theorem dX11_soonest_22 : decode cX11_soonest 22 = .ok (.getfield 235, 3) := by decide +kernel
theorem dX11_soonest_25 : decode cX11_soonest 25 = .ok (.if_icmp .ge 47, 3) := by decide +kernel
theorem dX11_soonest_28 : decode cX11_soonest 28 = .ok (.aload_n 0, 1) := by decide +kernel
theorem dX11_soonest_29 : decode cX11_soonest 29 = .ok (.aload_n 0, 1) := by decide +kernel
theorem dX11_soonest_30 : decode cX11_soonest 30 = .ok (.getfield 20, 3) := by decide +kernel
theorem dX11_soonest_33 : decode cX11_soonest 33 = .ok (.getfield 182, 3) := by decide +kernel
theorem dX11_soonest_36 : decode cX11_soonest 36 = .ok (.getfield 242, 3) := by decide +kernel
theorem dX11_soonest_39 : decode cX11_soonest 39 = .ok (.iload 4, 2) := by decide +kernel
theorem dX11_soonest_41 : decode cX11_soonest 41 = .ok (.aaload, 1) := by decide +kernel
theorem dX11_soonest_42 : decode cX11_soonest 42 = .ok (.iload_n 1, 1) := by decide +kernel
theorem dX11_soonest_43 : decode cX11_soonest 43 = .ok (.invokevirtual 341, 3) := by decide +kernel
theorem dX11_soonest_46 : decode cX11_soonest 46 = .ok (.istore 5, 2) := by decide +kernel
theorem dX11_soonest_48 : decode cX11_soonest 48 = .ok (.iload 5, 2) := by decide +kernel
theorem dX11_soonest_50 : decode cX11_soonest 50 = .ok (.iconst (-1), 1) := by decide +kernel
theorem dX11_soonest_51 : decode cX11_soonest 51 = .ok (.if_icmp .eq 15, 3) := by decide +kernel
theorem dX11_soonest_54 : decode cX11_soonest 54 = .ok (.iload 5, 2) := by decide +kernel
theorem dX11_soonest_56 : decode cX11_soonest 56 = .ok (.iload_n 2, 1) := by decide +kernel
theorem dX11_soonest_57 : decode cX11_soonest 57 = .ok (.if_icmp .ge 9, 3) := by decide +kernel
theorem dX11_soonest_60 : decode cX11_soonest 60 = .ok (.iload 5, 2) := by decide +kernel
theorem dX11_soonest_62 : decode cX11_soonest 62 = .ok (.istore_n 2, 1) := by decide +kernel
theorem dX11_soonest_63 : decode cX11_soonest 63 = .ok (.iload 4, 2) := by decide +kernel
theorem dX11_soonest_65 : decode cX11_soonest 65 = .ok (.istore_n 3, 1) := by decide +kernel
theorem dX11_soonest_66 : decode cX11_soonest 66 = .ok (.iinc 4 1, 3) := by decide +kernel
theorem dX11_soonest_69 : decode cX11_soonest 69 = .ok (.goto (-56), 3) := by decide +kernel
theorem dX11_soonest_72 : decode cX11_soonest 72 = .ok (.iload_n 3, 1) := by decide +kernel
theorem dX11_soonest_73 : decode cX11_soonest 73 = .ok (.ireturn, 1) := by decide +kernel
theorem dX11_spies_0 : decode cX11_spies 0 = .ok (.iconst 0, 1) := by decide +kernel
theorem dX11_spies_1 : decode cX11_spies 1 = .ok (.istore_n 2, 1) := by decide +kernel
theorem dX11_spies_2 : decode cX11_spies 2 = .ok (.iconst 0, 1) := by decide +kernel
theorem dX11_spies_3 : decode cX11_spies 3 = .ok (.istore_n 3, 1) := by decide +kernel
theorem dX11_spies_4 : decode cX11_spies 4 = .ok (.iload_n 3, 1) := by decide +kernel
theorem dX11_spies_5 : decode cX11_spies 5 = .ok (.aload_n 0, 1) := by decide +kernel
theorem dX11_spies_6 : decode cX11_spies 6 = .ok (.getfield 20, 3) := by decide +kernel
theorem dX11_spies_9 : decode cX11_spies 9 = .ok (.getfield 182, 3) := by decide +kernel
theorem dX11_spies_12 : decode cX11_spies 12 = .ok (.getfield 235, 3) := by decide +kernel
theorem dX11_spies_15 : decode cX11_spies 15 = .ok (.if_icmp .ge 38, 3) := by decide +kernel
theorem dX11_spies_18 : decode cX11_spies 18 = .ok (.aload_n 0, 1) := by decide +kernel
theorem dX11_spies_19 : decode cX11_spies 19 = .ok (.getfield 20, 3) := by decide +kernel
theorem dX11_spies_22 : decode cX11_spies 22 = .ok (.aload_n 0, 1) := by decide +kernel
theorem dX11_spies_23 : decode cX11_spies 23 = .ok (.getfield 20, 3) := by decide +kernel
theorem dX11_spies_26 : decode cX11_spies 26 = .ok (.getfield 182, 3) := by decide +kernel
theorem dX11_spies_29 : decode cX11_spies 29 = .ok (.getfield 242, 3) := by decide +kernel
theorem dX11_spies_32 : decode cX11_spies 32 = .ok (.iload_n 3, 1) := by decide +kernel
theorem dX11_spies_33 : decode cX11_spies 33 = .ok (.aaload, 1) := by decide +kernel
theorem dX11_spies_34 : decode cX11_spies 34 = .ok (.invokevirtual 174, 3) := by decide +kernel
theorem dX11_spies_37 : decode cX11_spies 37 = .ok (.iload_n 1, 1) := by decide +kernel
theorem dX11_spies_38 : decode cX11_spies 38 = .ok (.if_icmp .ne 9, 3) := by decide +kernel
theorem dX11_spies_41 : decode cX11_spies 41 = .ok (.iload_n 2, 1) := by decide +kernel
theorem dX11_spies_42 : decode cX11_spies 42 = .ok (.iconst 1, 1) := by decide +kernel
theorem dX11_spies_43 : decode cX11_spies 43 = .ok (.iload_n 3, 1) := by decide +kernel
theorem dX11_spies_44 : decode cX11_spies 44 = .ok (.ishl, 1) := by decide +kernel
theorem dX11_spies_45 : decode cX11_spies 45 = .ok (.ior, 1) := by decide +kernel
theorem dX11_spies_46 : decode cX11_spies 46 = .ok (.istore_n 2, 1) := by decide +kernel
theorem dX11_spies_47 : decode cX11_spies 47 = .ok (.iinc 3 1, 3) := by decide +kernel
theorem dX11_spies_50 : decode cX11_spies 50 = .ok (.goto (-46), 3) := by decide +kernel
theorem dX11_spies_53 : decode cX11_spies 53 = .ok (.iload_n 2, 1) := by decide +kernel
theorem dX11_spies_54 : decode cX11_spies 54 = .ok (.ireturn, 1) := by decide +kernel
theorem dX11_guess_0 : decode cX11_guess 0 = .ok (.aload_n 0, 1) := by decide +kernel
theorem dX11_guess_1 : decode cX11_guess 1 = .ok (.getfield 20, 3) := by decide +kernel
theorem dX11_guess_4 : decode cX11_guess 4 = .ok (.aload_n 0, 1) := by decide +kernel
theorem dX11_guess_5 : decode cX11_guess 5 = .ok (.iload_n 1, 1) := by decide +kernel
theorem dX11_guess_6 : decode cX11_guess 6 = .ok (.invokevirtual 153, 3) := by decide +kernel
theorem dX11_guess_9 : decode cX11_guess 9 = .ok (.invokevirtual 178, 3) := by decide +kernel
theorem dX11_guess_12 : decode cX11_guess 12 = .ok (.invokevirtual 211, 3) := by decide +kernel
theorem dX11_guess_15 : decode cX11_guess 15 = .ok (.istore_n 2, 1) := by decide +kernel
theorem dX11_guess_16 : decode cX11_guess 16 = .ok (.iconst 0, 1) := by decide +kernel
theorem dX11_guess_17 : decode cX11_guess 17 = .ok (.istore_n 3, 1) := by decide +kernel
theorem dX11_guess_18 : decode cX11_guess 18 = .ok (.iconst 0, 1) := by decide +kernel
theorem dX11_guess_19 : decode cX11_guess 19 = .ok (.istore 4, 2) := by decide +kernel
theorem dX11_guess_21 : decode cX11_guess 21 = .ok (.iload 4, 2) := by decide +kernel
theorem dX11_guess_23 : decode cX11_guess 23 = .ok (.bipush 12, 2) := by decide +kernel
theorem dX11_guess_25 : decode cX11_guess 25 = .ok (.if_icmp .ge 29, 3) := by decide +kernel
theorem dX11_guess_28 : decode cX11_guess 28 = .ok (.aload_n 0, 1) := by decide +kernel
theorem dX11_guess_29 : decode cX11_guess 29 = .ok (.getfield 20, 3) := by decide +kernel
theorem dX11_guess_32 : decode cX11_guess 32 = .ok (.iload 4, 2) := by decide +kernel
theorem dX11_guess_34 : decode cX11_guess 34 = .ok (.invokevirtual 211, 3) := by decide +kernel
theorem dX11_guess_37 : decode cX11_guess 37 = .ok (.iload_n 2, 1) := by decide +kernel
theorem dX11_guess_38 : decode cX11_guess 38 = .ok (.if_icmp .ne 10, 3) := by decide +kernel
theorem dX11_guess_41 : decode cX11_guess 41 = .ok (.iload_n 3, 1) := by decide +kernel
theorem dX11_guess_42 : decode cX11_guess 42 = .ok (.iconst 1, 1) := by decide +kernel
theorem dX11_guess_43 : decode cX11_guess 43 = .ok (.iload 4, 2) := by decide +kernel
theorem dX11_guess_45 : decode cX11_guess 45 = .ok (.ishl, 1) := by decide +kernel
theorem dX11_guess_46 : decode cX11_guess 46 = .ok (.ior, 1) := by decide +kernel
theorem dX11_guess_47 : decode cX11_guess 47 = .ok (.istore_n 3, 1) := by decide +kernel
theorem dX11_guess_48 : decode cX11_guess 48 = .ok (.iinc 4 1, 3) := by decide +kernel
theorem dX11_guess_51 : decode cX11_guess 51 = .ok (.goto (-30), 3) := by decide +kernel
theorem dX11_guess_54 : decode cX11_guess 54 = .ok (.iload_n 3, 1) := by decide +kernel
theorem dX11_guess_55 : decode cX11_guess 55 = .ok (.ireturn, 1) := by decide +kernel
theorem dX11_postage_0 : decode cX11_postage 0 = .ok (.aload_n 0, 1) := by decide +kernel
theorem dX11_postage_1 : decode cX11_postage 1 = .ok (.iload_n 1, 1) := by decide +kernel
theorem dX11_postage_2 : decode cX11_postage 2 = .ok (.invokevirtual 153, 3) := by decide +kernel
theorem dX11_postage_5 : decode cX11_postage 5 = .ok (.astore 4, 2) := by decide +kernel
theorem dX11_postage_7 : decode cX11_postage 7 = .ok (.iload_n 2, 1) := by decide +kernel
theorem dX11_postage_8 : decode cX11_postage 8 = .ok (.iload_n 3, 1) := by decide +kernel
theorem dX11_postage_9 : decode cX11_postage 9 = .ok (.ifCond .eq 7, 3) := by decide +kernel
theorem dX11_postage_12 : decode cX11_postage 12 = .ok (.iconst 1, 1) := by decide +kernel
theorem dX11_postage_13 : decode cX11_postage 13 = .ok (.goto 4, 3) := by decide +kernel
theorem dX11_postage_16 : decode cX11_postage 16 = .ok (.iconst 0, 1) := by decide +kernel
theorem dX11_postage_17 : decode cX11_postage 17 = .ok (.invokestatic 285, 3) := by decide +kernel
theorem dX11_postage_20 : decode cX11_postage 20 = .ok (.aload_n 0, 1) := by decide +kernel
theorem dX11_postage_21 : decode cX11_postage 21 = .ok (.getfield 51, 3) := by decide +kernel
theorem dX11_postage_24 : decode cX11_postage 24 = .ok (.aload 4, 2) := by decide +kernel
theorem dX11_postage_26 : decode cX11_postage 26 = .ok (.aload_n 0, 1) := by decide +kernel
theorem dX11_postage_27 : decode cX11_postage 27 = .ok (.getfield 20, 3) := by decide +kernel
theorem dX11_postage_30 : decode cX11_postage 30 = .ok (.getfield 182, 3) := by decide +kernel
theorem dX11_postage_33 : decode cX11_postage 33 = .ok (.getfield 185, 3) := by decide +kernel
theorem dX11_postage_36 : decode cX11_postage 36 = .ok (.invokevirtual 290, 3) := by decide +kernel
theorem dX11_postage_39 : decode cX11_postage 39 = .ok (.aload_n 0, 1) := by decide +kernel
theorem dX11_postage_40 : decode cX11_postage 40 = .ok (.getfield 51, 3) := by decide +kernel
theorem dX11_postage_43 : decode cX11_postage 43 = .ok (.aload_n 0, 1) := by decide +kernel
theorem dX11_postage_44 : decode cX11_postage 44 = .ok (.getfield 20, 3) := by decide +kernel
theorem dX11_postage_47 : decode cX11_postage 47 = .ok (.getfield 144, 3) := by decide +kernel
theorem dX11_postage_50 : decode cX11_postage 50 = .ok (.iload_n 3, 1) := by decide +kernel
theorem dX11_postage_51 : decode cX11_postage 51 = .ok (.ifCond .eq 9, 3) := by decide +kernel
theorem dX11_postage_54 : decode cX11_postage 54 = .ok (.iload_n 2, 1) := by decide +kernel
theorem dX11_postage_55 : decode cX11_postage 55 = .ok (.iconst 1, 1) := by decide +kernel
theorem dX11_postage_56 : decode cX11_postage 56 = .ok (.isub, 1) := by decide +kernel
theorem dX11_postage_57 : decode cX11_postage 57 = .ok (.goto 4, 3) := by decide +kernel
theorem dX11_postage_60 : decode cX11_postage 60 = .ok (.iload_n 2, 1) := by decide +kernel
theorem dX11_postage_61 : decode cX11_postage 61 = .ok (.invokevirtual 293, 3) := by decide +kernel
theorem dX11_postage_64 : decode cX11_postage 64 = .ok (.aload_n 0, 1) := by decide +kernel
theorem dX11_postage_65 : decode cX11_postage 65 = .ok (.getfield 20, 3) := by decide +kernel
theorem dX11_postage_68 : decode cX11_postage 68 = .ok (.aload_n 0, 1) := by decide +kernel
theorem dX11_postage_69 : decode cX11_postage 69 = .ok (.getfield 51, 3) := by decide +kernel
theorem dX11_postage_72 : decode cX11_postage 72 = .ok (.getfield 297, 3) := by decide +kernel
theorem dX11_postage_75 : decode cX11_postage 75 = .ok (.invokevirtual 344, 3) := by decide +kernel
theorem dX11_postage_78 : decode cX11_postage 78 = .ok (.istore 5, 2) := by decide +kernel
theorem dX11_postage_80 : decode cX11_postage 80 = .ok (.iload_n 3, 1) := by decide +kernel
theorem dX11_postage_81 : decode cX11_postage 81 = .ok (.ifCond .ne 6, 3) := by decide +kernel
theorem dX11_postage_84 : decode cX11_postage 84 = .ok (.iload 5, 2) := by decide +kernel
theorem dX11_postage_86 : decode cX11_postage 86 = .ok (.ireturn, 1) := by decide +kernel
theorem dX11_postage_87 : decode cX11_postage 87 = .ok (.aload_n 0, 1) := by decide +kernel
theorem dX11_postage_88 : decode cX11_postage 88 = .ok (.getfield 51, 3) := by decide +kernel
theorem dX11_postage_91 : decode cX11_postage 91 = .ok (.aload_n 0, 1) := by decide +kernel
theorem dX11_postage_92 : decode cX11_postage 92 = .ok (.getfield 20, 3) := by decide +kernel
theorem dX11_postage_95 : decode cX11_postage 95 = .ok (.getfield 144, 3) := by decide +kernel
theorem dX11_postage_98 : decode cX11_postage 98 = .ok (.invokevirtual 304, 3) := by decide +kernel
theorem dX11_postage_101 : decode cX11_postage 101 = .ok (.aload_n 0, 1) := by decide +kernel
theorem dX11_postage_102 : decode cX11_postage 102 = .ok (.getfield 20, 3) := by decide +kernel
theorem dX11_postage_105 : decode cX11_postage 105 = .ok (.aload_n 0, 1) := by decide +kernel
theorem dX11_postage_106 : decode cX11_postage 106 = .ok (.getfield 51, 3) := by decide +kernel
theorem dX11_postage_109 : decode cX11_postage 109 = .ok (.getfield 297, 3) := by decide +kernel
theorem dX11_postage_112 : decode cX11_postage 112 = .ok (.invokevirtual 344, 3) := by decide +kernel
theorem dX11_postage_115 : decode cX11_postage 115 = .ok (.iload 5, 2) := by decide +kernel
theorem dX11_postage_117 : decode cX11_postage 117 = .ok (.isub, 1) := by decide +kernel
theorem dX11_postage_118 : decode cX11_postage 118 = .ok (.ireturn, 1) := by decide +kernel
theorem dX11_forks_0 : decode cX11_forks 0 = .ok (.aload_n 0, 1) := by decide +kernel
theorem dX11_forks_1 : decode cX11_forks 1 = .ok (.iload_n 1, 1) := by decide +kernel
theorem dX11_forks_2 : decode cX11_forks 2 = .ok (.invokevirtual 153, 3) := by decide +kernel
theorem dX11_forks_5 : decode cX11_forks 5 = .ok (.astore_n 3, 1) := by decide +kernel
theorem dX11_forks_6 : decode cX11_forks 6 = .ok (.iload_n 2, 1) := by decide +kernel
theorem dX11_forks_7 : decode cX11_forks 7 = .ok (.iconst 1, 1) := by decide +kernel
theorem dX11_forks_8 : decode cX11_forks 8 = .ok (.invokestatic 285, 3) := by decide +kernel
theorem dX11_forks_11 : decode cX11_forks 11 = .ok (.iconst 0, 1) := by decide +kernel
theorem dX11_forks_12 : decode cX11_forks 12 = .ok (.istore 4, 2) := by decide +kernel
theorem dX11_forks_14 : decode cX11_forks 14 = .ok (.iconst 0, 1) := by decide +kernel
theorem dX11_forks_15 : decode cX11_forks 15 = .ok (.istore 5, 2) := by decide +kernel
theorem dX11_forks_17 : decode cX11_forks 17 = .ok (.iload 5, 2) := by decide +kernel
theorem dX11_forks_19 : decode cX11_forks 19 = .ok (.bipush 12, 2) := by decide +kernel
theorem dX11_forks_21 : decode cX11_forks 21 = .ok (.if_icmp .ge 68, 3) := by decide +kernel
theorem dX11_forks_24 : decode cX11_forks 24 = .ok (.aload_n 0, 1) := by decide +kernel
theorem dX11_forks_25 : decode cX11_forks 25 = .ok (.getfield 51, 3) := by decide +kernel
theorem dX11_forks_28 : decode cX11_forks 28 = .ok (.aload_n 3, 1) := by decide +kernel
theorem dX11_forks_29 : decode cX11_forks 29 = .ok (.aload_n 0, 1) := by decide +kernel
theorem dX11_forks_30 : decode cX11_forks 30 = .ok (.getfield 20, 3) := by decide +kernel
theorem dX11_forks_33 : decode cX11_forks 33 = .ok (.getfield 182, 3) := by decide +kernel
theorem dX11_forks_36 : decode cX11_forks 36 = .ok (.getfield 185, 3) := by decide +kernel
theorem dX11_forks_39 : decode cX11_forks 39 = .ok (.invokevirtual 290, 3) := by decide +kernel
theorem dX11_forks_42 : decode cX11_forks 42 = .ok (.aload_n 0, 1) := by decide +kernel
theorem dX11_forks_43 : decode cX11_forks 43 = .ok (.getfield 51, 3) := by decide +kernel
theorem dX11_forks_46 : decode cX11_forks 46 = .ok (.iload 5, 2) := by decide +kernel
theorem dX11_forks_48 : decode cX11_forks 48 = .ok (.putfield 347, 3) := by decide +kernel
theorem dX11_forks_51 : decode cX11_forks 51 = .ok (.aload_n 0, 1) := by decide +kernel
theorem dX11_forks_52 : decode cX11_forks 52 = .ok (.getfield 51, 3) := by decide +kernel
theorem dX11_forks_55 : decode cX11_forks 55 = .ok (.aload_n 0, 1) := by decide +kernel
theorem dX11_forks_56 : decode cX11_forks 56 = .ok (.getfield 20, 3) := by decide +kernel
theorem dX11_forks_59 : decode cX11_forks 59 = .ok (.getfield 144, 3) := by decide +kernel
theorem dX11_forks_62 : decode cX11_forks 62 = .ok (.iload_n 2, 1) := by decide +kernel
theorem dX11_forks_63 : decode cX11_forks 63 = .ok (.invokevirtual 293, 3) := by decide +kernel
theorem dX11_forks_66 : decode cX11_forks 66 = .ok (.iload 4, 2) := by decide +kernel
theorem dX11_forks_68 : decode cX11_forks 68 = .ok (.iconst 1, 1) := by decide +kernel
theorem dX11_forks_69 : decode cX11_forks 69 = .ok (.aload_n 0, 1) := by decide +kernel
theorem dX11_forks_70 : decode cX11_forks 70 = .ok (.getfield 51, 3) := by decide +kernel
theorem dX11_forks_73 : decode cX11_forks 73 = .ok (.getfield 297, 3) := by decide +kernel
theorem dX11_forks_76 : decode cX11_forks 76 = .ok (.invokevirtual 178, 3) := by decide +kernel
theorem dX11_forks_79 : decode cX11_forks 79 = .ok (.ishl, 1) := by decide +kernel
theorem dX11_forks_80 : decode cX11_forks 80 = .ok (.ior, 1) := by decide +kernel
theorem dX11_forks_81 : decode cX11_forks 81 = .ok (.istore 4, 2) := by decide +kernel
theorem dX11_forks_83 : decode cX11_forks 83 = .ok (.iinc 5 1, 3) := by decide +kernel
theorem dX11_forks_86 : decode cX11_forks 86 = .ok (.goto (-69), 3) := by decide +kernel
theorem dX11_forks_89 : decode cX11_forks 89 = .ok (.iload 4, 2) := by decide +kernel
theorem dX11_forks_91 : decode cX11_forks 91 = .ok (.ireturn, 1) := by decide +kernel
theorem dX11_ripe_0 : decode cX11_ripe 0 = .ok (.aload_n 0, 1) := by decide +kernel
theorem dX11_ripe_1 : decode cX11_ripe 1 = .ok (.iload_n 1, 1) := by decide +kernel
theorem dX11_ripe_2 : decode cX11_ripe 2 = .ok (.invokevirtual 153, 3) := by decide +kernel
theorem dX11_ripe_5 : decode cX11_ripe 5 = .ok (.astore_n 3, 1) := by decide +kernel
theorem dX11_ripe_6 : decode cX11_ripe 6 = .ok (.aload_n 0, 1) := by decide +kernel
theorem dX11_ripe_7 : decode cX11_ripe 7 = .ok (.getfield 51, 3) := by decide +kernel
theorem dX11_ripe_10 : decode cX11_ripe 10 = .ok (.aload_n 3, 1) := by decide +kernel
theorem dX11_ripe_11 : decode cX11_ripe 11 = .ok (.aload_n 0, 1) := by decide +kernel
theorem dX11_ripe_12 : decode cX11_ripe 12 = .ok (.getfield 20, 3) := by decide +kernel
theorem dX11_ripe_15 : decode cX11_ripe 15 = .ok (.getfield 182, 3) := by decide +kernel
theorem dX11_ripe_18 : decode cX11_ripe 18 = .ok (.getfield 185, 3) := by decide +kernel
theorem dX11_ripe_21 : decode cX11_ripe 21 = .ok (.invokevirtual 290, 3) := by decide +kernel
theorem dX11_ripe_24 : decode cX11_ripe 24 = .ok (.iconst (-1), 1) := by decide +kernel
theorem dX11_ripe_25 : decode cX11_ripe 25 = .ok (.istore 4, 2) := by decide +kernel
theorem dX11_ripe_27 : decode cX11_ripe 27 = .ok (.iconst 0, 1) := by decide +kernel
theorem dX11_ripe_28 : decode cX11_ripe 28 = .ok (.istore 5, 2) := by decide +kernel
theorem dX11_ripe_30 : decode cX11_ripe 30 = .ok (.iconst 0, 1) := by decide +kernel
theorem dX11_ripe_31 : decode cX11_ripe 31 = .ok (.istore 6, 2) := by decide +kernel
theorem dX11_ripe_33 : decode cX11_ripe 33 = .ok (.iload 6, 2) := by decide +kernel
theorem dX11_ripe_35 : decode cX11_ripe 35 = .ok (.bipush 40, 2) := by decide +kernel
theorem dX11_ripe_37 : decode cX11_ripe 37 = .ok (.if_icmp .gt 57, 3) := by decide +kernel
theorem dX11_ripe_40 : decode cX11_ripe 40 = .ok (.aload_n 0, 1) := by decide +kernel
theorem dX11_ripe_41 : decode cX11_ripe 41 = .ok (.getfield 20, 3) := by decide +kernel
theorem dX11_ripe_44 : decode cX11_ripe 44 = .ok (.aload_n 0, 1) := by decide +kernel
theorem dX11_ripe_45 : decode cX11_ripe 45 = .ok (.getfield 51, 3) := by decide +kernel
theorem dX11_ripe_48 : decode cX11_ripe 48 = .ok (.getfield 297, 3) := by decide +kernel
theorem dX11_ripe_51 : decode cX11_ripe 51 = .ok (.invokevirtual 338, 3) := by decide +kernel
theorem dX11_ripe_54 : decode cX11_ripe 54 = .ok (.invokestatic 350, 3) := by decide +kernel
theorem dX11_ripe_57 : decode cX11_ripe 57 = .ok (.istore 7, 2) := by decide +kernel
theorem dX11_ripe_59 : decode cX11_ripe 59 = .ok (.iload 7, 2) := by decide +kernel
theorem dX11_ripe_61 : decode cX11_ripe 61 = .ok (.iload 4, 2) := by decide +kernel
theorem dX11_ripe_63 : decode cX11_ripe 63 = .ok (.if_icmp .le 11, 3) := by decide +kernel
theorem dX11_ripe_66 : decode cX11_ripe 66 = .ok (.iload 7, 2) := by decide +kernel
theorem dX11_ripe_68 : decode cX11_ripe 68 = .ok (.istore 4, 2) := by decide +kernel
theorem dX11_ripe_70 : decode cX11_ripe 70 = .ok (.iload 6, 2) := by decide +kernel
theorem dX11_ripe_72 : decode cX11_ripe 72 = .ok (.istore 5, 2) := by decide +kernel
theorem dX11_ripe_74 : decode cX11_ripe 74 = .ok (.aload_n 0, 1) := by decide +kernel
theorem dX11_ripe_75 : decode cX11_ripe 75 = .ok (.getfield 51, 3) := by decide +kernel
theorem dX11_ripe_78 : decode cX11_ripe 78 = .ok (.aload_n 0, 1) := by decide +kernel
theorem dX11_ripe_79 : decode cX11_ripe 79 = .ok (.getfield 20, 3) := by decide +kernel
theorem dX11_ripe_82 : decode cX11_ripe 82 = .ok (.getfield 144, 3) := by decide +kernel
theorem dX11_ripe_85 : decode cX11_ripe 85 = .ok (.invokevirtual 304, 3) := by decide +kernel
theorem dX11_ripe_88 : decode cX11_ripe 88 = .ok (.iinc 6 1, 3) := by decide +kernel
theorem dX11_ripe_91 : decode cX11_ripe 91 = .ok (.goto (-58), 3) := by decide +kernel
theorem dX11_ripe_94 : decode cX11_ripe 94 = .ok (.iload_n 2, 1) := by decide +kernel
theorem dX11_ripe_95 : decode cX11_ripe 95 = .ok (.ifCond .eq 8, 3) := by decide +kernel
theorem dX11_ripe_98 : decode cX11_ripe 98 = .ok (.iload 4, 2) := by decide +kernel
theorem dX11_ripe_100 : decode cX11_ripe 100 = .ok (.goto 5, 3) := by decide +kernel
theorem dX11_ripe_103 : decode cX11_ripe 103 = .ok (.iload 5, 2) := by decide +kernel
theorem dX11_ripe_105 : decode cX11_ripe 105 = .ok (.ireturn, 1) := by decide +kernel
theorem dX11_has_0 : decode cX11_has 0 = .ok (.aload_n 0, 1) := by decide +kernel
theorem dX11_has_1 : decode cX11_has 1 = .ok (.iload_n 1, 1) := by decide +kernel
theorem dX11_has_2 : decode cX11_has 2 = .ok (.invokevirtual 153, 3) := by decide +kernel
theorem dX11_has_5 : decode cX11_has 5 = .ok (.invokevirtual 355, 3) := by decide +kernel
theorem dX11_has_8 : decode cX11_has 8 = .ok (.ireturn, 1) := by decide +kernel
theorem dX11_echo_0 : decode cX11_echo 0 = .ok (.aload_n 0, 1) := by decide +kernel
theorem dX11_echo_1 : decode cX11_echo 1 = .ok (.iload_n 1, 1) := by decide +kernel
theorem dX11_echo_2 : decode cX11_echo 2 = .ok (.invokevirtual 153, 3) := by decide +kernel
theorem dX11_echo_5 : decode cX11_echo 5 = .ok (.astore_n 2, 1) := by decide +kernel
theorem dX11_echo_6 : decode cX11_echo 6 = .ok (.iconst 0, 1) := by decide +kernel
theorem dX11_echo_7 : decode cX11_echo 7 = .ok (.istore_n 3, 1) := by decide +kernel
theorem dX11_echo_8 : decode cX11_echo 8 = .ok (.iconst 0, 1) := by decide +kernel
theorem dX11_echo_9 : decode cX11_echo 9 = .ok (.istore 4, 2) := by decide +kernel
theorem dX11_echo_11 : decode cX11_echo 11 = .ok (.iload 4, 2) := by decide +kernel
theorem dX11_echo_13 : decode cX11_echo 13 = .ok (.aload_n 2, 1) := by decide +kernel
theorem dX11_echo_14 : decode cX11_echo 14 = .ok (.getfield 157, 3) := by decide +kernel
theorem dX11_echo_17 : decode cX11_echo 17 = .ok (.if_icmp .ge 44, 3) := by decide +kernel
theorem dX11_echo_20 : decode cX11_echo 20 = .ok (.iload 4, 2) := by decide +kernel
theorem dX11_echo_22 : decode cX11_echo 22 = .ok (.iconst 1, 1) := by decide +kernel
theorem dX11_echo_23 : decode cX11_echo 23 = .ok (.iadd, 1) := by decide +kernel
theorem dX11_echo_24 : decode cX11_echo 24 = .ok (.istore 5, 2) := by decide +kernel
theorem dX11_echo_26 : decode cX11_echo 26 = .ok (.iload 5, 2) := by decide +kernel
theorem dX11_echo_28 : decode cX11_echo 28 = .ok (.aload_n 2, 1) := by decide +kernel
theorem dX11_echo_29 : decode cX11_echo 29 = .ok (.getfield 157, 3) := by decide +kernel
theorem dX11_echo_32 : decode cX11_echo 32 = .ok (.if_icmp .ge 23, 3) := by decide +kernel
theorem dX11_echo_35 : decode cX11_echo 35 = .ok (.iload_n 3, 1) := by decide +kernel
theorem dX11_echo_36 : decode cX11_echo 36 = .ok (.aload_n 2, 1) := by decide +kernel
theorem dX11_echo_37 : decode cX11_echo 37 = .ok (.iload 4, 2) := by decide +kernel
