theorem dX0_init_0 : decode cX0_init 0 = .ok (.aload_n 0, 1) := by decide +kernel
theorem dX0_init_1 : decode cX0_init 1 = .ok (.invokespecial 3, 3) := by decide +kernel
theorem dX0_init_4 : decode cX0_init 4 = .ok (.aload_n 0, 1) := by decide +kernel
theorem dX0_init_5 : decode cX0_init 5 = .ok (.bipush 8, 2) := by decide +kernel
theorem dX0_init_7 : decode cX0_init 7 = .ok (.anewarray 9, 3) := by decide +kernel
theorem dX0_init_10 : decode cX0_init 10 = .ok (.putfield 11, 3) := by decide +kernel
theorem dX0_init_13 : decode cX0_init 13 = .ok (.aload_n 0, 1) := by decide +kernel
theorem dX0_init_14 : decode cX0_init 14 = .ok (.iconst 1, 1) := by decide +kernel
theorem dX0_init_15 : decode cX0_init 15 = .ok (.putfield 17, 3) := by decide +kernel
theorem dX0_init_18 : decode cX0_init 18 = .ok (.iconst 0, 1) := by decide +kernel
theorem dX0_init_19 : decode cX0_init 19 = .ok (.istore_n 1, 1) := by decide +kernel
theorem dX0_init_20 : decode cX0_init 20 = .ok (.iload_n 1, 1) := by decide +kernel
theorem dX0_init_21 : decode cX0_init 21 = .ok (.bipush 8, 2) := by decide +kernel
theorem dX0_init_23 : decode cX0_init 23 = .ok (.if_icmp .ge 22, 3) := by decide +kernel
theorem dX0_init_26 : decode cX0_init 26 = .ok (.aload_n 0, 1) := by decide +kernel
theorem dX0_init_27 : decode cX0_init 27 = .ok (.getfield 11, 3) := by decide +kernel
theorem dX0_init_30 : decode cX0_init 30 = .ok (.iload_n 1, 1) := by decide +kernel
theorem dX0_init_31 : decode cX0_init 31 = .ok (.new 9, 3) := by decide +kernel
theorem dX0_init_34 : decode cX0_init 34 = .ok (.dup, 1) := by decide +kernel
theorem dX0_init_35 : decode cX0_init 35 = .ok (.invokespecial 21, 3) := by decide +kernel
theorem dX0_init_38 : decode cX0_init 38 = .ok (.aastore, 1) := by decide +kernel
theorem dX0_init_39 : decode cX0_init 39 = .ok (.iinc 1 1, 3) := by decide +kernel
theorem dX0_init_42 : decode cX0_init 42 = .ok (.goto (-22), 3) := by decide +kernel
theorem dX0_init_45 : decode cX0_init 45 = .ok (.return_, 1) := by decide +kernel
theorem dX0_become_0 : decode cX0_become 0 = .ok (.iconst 0, 1) := by decide +kernel
theorem dX0_become_1 : decode cX0_become 1 = .ok (.istore_n 2, 1) := by decide +kernel
theorem dX0_become_2 : decode cX0_become 2 = .ok (.iload_n 2, 1) := by decide +kernel
theorem dX0_become_3 : decode cX0_become 3 = .ok (.aload_n 1, 1) := by decide +kernel
theorem dX0_become_4 : decode cX0_become 4 = .ok (.getfield 22, 3) := by decide +kernel
theorem dX0_become_7 : decode cX0_become 7 = .ok (.if_icmp .ge 30, 3) := by decide +kernel
theorem dX0_become_10 : decode cX0_become 10 = .ok (.iload_n 2, 1) := by decide +kernel
theorem dX0_become_11 : decode cX0_become 11 = .ok (.bipush 8, 2) := by decide +kernel
theorem dX0_become_13 : decode cX0_become 13 = .ok (.if_icmp .ge 24, 3) := by decide +kernel
theorem dX0_become_16 : decode cX0_become 16 = .ok (.aload_n 0, 1) := by decide +kernel
theorem dX0_become_17 : decode cX0_become 17 = .ok (.getfield 11, 3) := by decide +kernel
theorem dX0_become_20 : decode cX0_become 20 = .ok (.iload_n 2, 1) := by decide +kernel
theorem dX0_become_21 : decode cX0_become 21 = .ok (.aaload, 1) := by decide +kernel
theorem dX0_become_22 : decode cX0_become 22 = .ok (.aload_n 1, 1) := by decide +kernel
theorem dX0_become_23 : decode cX0_become 23 = .ok (.getfield 11, 3) := by decide +kernel
theorem dX0_become_26 : decode cX0_become 26 = .ok (.iload_n 2, 1) := by decide +kernel
theorem dX0_become_27 : decode cX0_become 27 = .ok (.aaload, 1) := by decide +kernel
theorem dX0_become_28 : decode cX0_become 28 = .ok (.invokevirtual 25, 3) := by decide +kernel
theorem dX0_become_31 : decode cX0_become 31 = .ok (.iinc 2 1, 3) := by decide +kernel
theorem dX0_become_34 : decode cX0_become 34 = .ok (.goto (-32), 3) := by decide +kernel
theorem dX0_become_37 : decode cX0_become 37 = .ok (.aload_n 0, 1) := by decide +kernel
theorem dX0_become_38 : decode cX0_become 38 = .ok (.aload_n 1, 1) := by decide +kernel
theorem dX0_become_39 : decode cX0_become 39 = .ok (.getfield 22, 3) := by decide +kernel
theorem dX0_become_42 : decode cX0_become 42 = .ok (.putfield 22, 3) := by decide +kernel
theorem dX0_become_45 : decode cX0_become 45 = .ok (.aload_n 0, 1) := by decide +kernel
theorem dX0_become_46 : decode cX0_become 46 = .ok (.aload_n 1, 1) := by decide +kernel
theorem dX0_become_47 : decode cX0_become 47 = .ok (.getfield 29, 3) := by decide +kernel
theorem dX0_become_50 : decode cX0_become 50 = .ok (.putfield 29, 3) := by decide +kernel
theorem dX0_become_53 : decode cX0_become 53 = .ok (.aload_n 0, 1) := by decide +kernel
theorem dX0_become_54 : decode cX0_become 54 = .ok (.aload_n 1, 1) := by decide +kernel
theorem dX0_become_55 : decode cX0_become 55 = .ok (.getfield 17, 3) := by decide +kernel
theorem dX0_become_58 : decode cX0_become 58 = .ok (.putfield 17, 3) := by decide +kernel
theorem dX0_become_61 : decode cX0_become 61 = .ok (.aload_n 0, 1) := by decide +kernel
theorem dX0_become_62 : decode cX0_become 62 = .ok (.aload_n 1, 1) := by decide +kernel
theorem dX0_become_63 : decode cX0_become 63 = .ok (.getfield 32, 3) := by decide +kernel
theorem dX0_become_66 : decode cX0_become 66 = .ok (.putfield 32, 3) := by decide +kernel
theorem dX0_become_69 : decode cX0_become 69 = .ok (.return_, 1) := by decide +kernel
theorem dX0_drop_0 : decode cX0_drop 0 = .ok (.iload_n 1, 1) := by decide +kernel
theorem dX0_drop_1 : decode cX0_drop 1 = .ok (.ifCond .lt 11, 3) := by decide +kernel
theorem dX0_drop_4 : decode cX0_drop 4 = .ok (.iload_n 1, 1) := by decide +kernel
theorem dX0_drop_5 : decode cX0_drop 5 = .ok (.aload_n 0, 1) := by decide +kernel
theorem dX0_drop_6 : decode cX0_drop 6 = .ok (.getfield 22, 3) := by decide +kernel
theorem dX0_drop_9 : decode cX0_drop 9 = .ok (.if_icmp .lt 4, 3) := by decide +kernel
theorem dX0_drop_12 : decode cX0_drop 12 = .ok (.return_, 1) := by decide +kernel
theorem dX0_drop_13 : decode cX0_drop 13 = .ok (.iload_n 1, 1) := by decide +kernel
theorem dX0_drop_14 : decode cX0_drop 14 = .ok (.istore_n 2, 1) := by decide +kernel
theorem dX0_drop_15 : decode cX0_drop 15 = .ok (.iload_n 2, 1) := by decide +kernel
theorem dX0_drop_16 : decode cX0_drop 16 = .ok (.iconst 1, 1) := by decide +kernel
theorem dX0_drop_17 : decode cX0_drop 17 = .ok (.iadd, 1) := by decide +kernel
theorem dX0_drop_18 : decode cX0_drop 18 = .ok (.aload_n 0, 1) := by decide +kernel
theorem dX0_drop_19 : decode cX0_drop 19 = .ok (.getfield 22, 3) := by decide +kernel
theorem dX0_drop_22 : decode cX0_drop 22 = .ok (.if_icmp .ge 26, 3) := by decide +kernel
theorem dX0_drop_25 : decode cX0_drop 25 = .ok (.aload_n 0, 1) := by decide +kernel
theorem dX0_drop_26 : decode cX0_drop 26 = .ok (.getfield 11, 3) := by decide +kernel
theorem dX0_drop_29 : decode cX0_drop 29 = .ok (.iload_n 2, 1) := by decide +kernel
theorem dX0_drop_30 : decode cX0_drop 30 = .ok (.aaload, 1) := by decide +kernel
theorem dX0_drop_31 : decode cX0_drop 31 = .ok (.aload_n 0, 1) := by decide +kernel
theorem dX0_drop_32 : decode cX0_drop 32 = .ok (.getfield 11, 3) := by decide +kernel
theorem dX0_drop_35 : decode cX0_drop 35 = .ok (.iload_n 2, 1) := by decide +kernel
theorem dX0_drop_36 : decode cX0_drop 36 = .ok (.iconst 1, 1) := by decide +kernel
theorem dX0_drop_37 : decode cX0_drop 37 = .ok (.iadd, 1) := by decide +kernel
theorem dX0_drop_38 : decode cX0_drop 38 = .ok (.aaload, 1) := by decide +kernel
theorem dX0_drop_39 : decode cX0_drop 39 = .ok (.invokevirtual 25, 3) := by decide +kernel
theorem dX0_drop_42 : decode cX0_drop 42 = .ok (.iinc 2 1, 3) := by decide +kernel
theorem dX0_drop_45 : decode cX0_drop 45 = .ok (.goto (-30), 3) := by decide +kernel
theorem dX0_drop_48 : decode cX0_drop 48 = .ok (.aload_n 0, 1) := by decide +kernel
theorem dX0_drop_49 : decode cX0_drop 49 = .ok (.dup, 1) := by decide +kernel
theorem dX0_drop_50 : decode cX0_drop 50 = .ok (.getfield 22, 3) := by decide +kernel
theorem dX0_drop_53 : decode cX0_drop 53 = .ok (.iconst 1, 1) := by decide +kernel
theorem dX0_drop_54 : decode cX0_drop 54 = .ok (.isub, 1) := by decide +kernel
theorem dX0_drop_55 : decode cX0_drop 55 = .ok (.putfield 22, 3) := by decide +kernel
theorem dX0_drop_58 : decode cX0_drop 58 = .ok (.return_, 1) := by decide +kernel
theorem dX0_passWeek_0 : decode cX0_passWeek 0 = .ok (.iconst 0, 1) := by decide +kernel
theorem dX0_passWeek_1 : decode cX0_passWeek 1 = .ok (.istore_n 3, 1) := by decide +kernel
theorem dX0_passWeek_2 : decode cX0_passWeek 2 = .ok (.iconst 0, 1) := by decide +kernel
theorem dX0_passWeek_3 : decode cX0_passWeek 3 = .ok (.istore 4, 2) := by decide +kernel
theorem dX0_passWeek_5 : decode cX0_passWeek 5 = .ok (.iload 4, 2) := by decide +kernel
theorem dX0_passWeek_7 : decode cX0_passWeek 7 = .ok (.aload_n 0, 1) := by decide +kernel
theorem dX0_passWeek_8 : decode cX0_passWeek 8 = .ok (.getfield 22, 3) := by decide +kernel
theorem dX0_passWeek_11 : decode cX0_passWeek 11 = .ok (.if_icmp .ge 54, 3) := by decide +kernel
theorem dX0_passWeek_14 : decode cX0_passWeek 14 = .ok (.iload_n 3, 1) := by decide +kernel
theorem dX0_passWeek_15 : decode cX0_passWeek 15 = .ok (.aload_n 0, 1) := by decide +kernel
theorem dX0_passWeek_16 : decode cX0_passWeek 16 = .ok (.aload_n 0, 1) := by decide +kernel
theorem dX0_passWeek_17 : decode cX0_passWeek 17 = .ok (.getfield 11, 3) := by decide +kernel
theorem dX0_passWeek_20 : decode cX0_passWeek 20 = .ok (.iload 4, 2) := by decide +kernel
theorem dX0_passWeek_22 : decode cX0_passWeek 22 = .ok (.aaload, 1) := by decide +kernel
theorem dX0_passWeek_23 : decode cX0_passWeek 23 = .ok (.aload_n 1, 1) := by decide +kernel
theorem dX0_passWeek_24 : decode cX0_passWeek 24 = .ok (.iload_n 2, 1) := by decide +kernel
theorem dX0_passWeek_25 : decode cX0_passWeek 25 = .ok (.invokevirtual 35, 3) := by decide +kernel
theorem dX0_passWeek_28 : decode cX0_passWeek 28 = .ok (.iadd, 1) := by decide +kernel
theorem dX0_passWeek_29 : decode cX0_passWeek 29 = .ok (.istore_n 3, 1) := by decide +kernel
theorem dX0_passWeek_30 : decode cX0_passWeek 30 = .ok (.aload_n 0, 1) := by decide +kernel
theorem dX0_passWeek_31 : decode cX0_passWeek 31 = .ok (.getfield 11, 3) := by decide +kernel
theorem dX0_passWeek_34 : decode cX0_passWeek 34 = .ok (.iload 4, 2) := by decide +kernel
theorem dX0_passWeek_36 : decode cX0_passWeek 36 = .ok (.aaload, 1) := by decide +kernel
theorem dX0_passWeek_37 : decode cX0_passWeek 37 = .ok (.getfield 39, 3) := by decide +kernel
theorem dX0_passWeek_40 : decode cX0_passWeek 40 = .ok (.ifCond .eq 19, 3) := by decide +kernel
theorem dX0_passWeek_43 : decode cX0_passWeek 43 = .ok (.iload_n 3, 1) := by decide +kernel
theorem dX0_passWeek_44 : decode cX0_passWeek 44 = .ok (.aload_n 0, 1) := by decide +kernel
theorem dX0_passWeek_45 : decode cX0_passWeek 45 = .ok (.aload_n 0, 1) := by decide +kernel
theorem dX0_passWeek_46 : decode cX0_passWeek 46 = .ok (.getfield 11, 3) := by decide +kernel
theorem dX0_passWeek_49 : decode cX0_passWeek 49 = .ok (.iload 4, 2) := by decide +kernel
theorem dX0_passWeek_51 : decode cX0_passWeek 51 = .ok (.aaload, 1) := by decide +kernel
theorem dX0_passWeek_52 : decode cX0_passWeek 52 = .ok (.aload_n 1, 1) := by decide +kernel
theorem dX0_passWeek_53 : decode cX0_passWeek 53 = .ok (.iload_n 2, 1) := by decide +kernel
theorem dX0_passWeek_54 : decode cX0_passWeek 54 = .ok (.invokevirtual 35, 3) := by decide +kernel
theorem dX0_passWeek_57 : decode cX0_passWeek 57 = .ok (.iadd, 1) := by decide +kernel
theorem dX0_passWeek_58 : decode cX0_passWeek 58 = .ok (.istore_n 3, 1) := by decide +kernel
theorem dX0_passWeek_59 : decode cX0_passWeek 59 = .ok (.iinc 4 1, 3) := by decide +kernel
theorem dX0_passWeek_62 : decode cX0_passWeek 62 = .ok (.goto (-57), 3) := by decide +kernel
theorem dX0_passWeek_65 : decode cX0_passWeek 65 = .ok (.aload_n 0, 1) := by decide +kernel
theorem dX0_passWeek_66 : decode cX0_passWeek 66 = .ok (.aload_n 0, 1) := by decide +kernel
theorem dX0_passWeek_67 : decode cX0_passWeek 67 = .ok (.getfield 29, 3) := by decide +kernel
theorem dX0_passWeek_70 : decode cX0_passWeek 70 = .ok (.iconst 1, 1) := by decide +kernel
theorem dX0_passWeek_71 : decode cX0_passWeek 71 = .ok (.iadd, 1) := by decide +kernel
theorem dX0_passWeek_72 : decode cX0_passWeek 72 = .ok (.sipush 9999, 3) := by decide +kernel
theorem dX0_passWeek_75 : decode cX0_passWeek 75 = .ok (.invokestatic 43, 3) := by decide +kernel
theorem dX0_passWeek_78 : decode cX0_passWeek 78 = .ok (.putfield 29, 3) := by decide +kernel
theorem dX0_passWeek_81 : decode cX0_passWeek 81 = .ok (.iload_n 3, 1) := by decide +kernel
theorem dX0_passWeek_82 : decode cX0_passWeek 82 = .ok (.ireturn, 1) := by decide +kernel
theorem dX0_growOne_0 : decode cX0_growOne 0 = .ok (.aload_n 2, 1) := by decide +kernel
theorem dX0_growOne_1 : decode cX0_growOne 1 = .ok (.aload_n 1, 1) := by decide +kernel
theorem dX0_growOne_2 : decode cX0_growOne 2 = .ok (.aload_n 0, 1) := by decide +kernel
theorem dX0_growOne_3 : decode cX0_growOne 3 = .ok (.getfield 29, 3) := by decide +kernel
theorem dX0_growOne_6 : decode cX0_growOne 6 = .ok (.invokevirtual 49, 3) := by decide +kernel
theorem dX0_growOne_9 : decode cX0_growOne 9 = .ok (.istore 4, 2) := by decide +kernel
theorem dX0_growOne_11 : decode cX0_growOne 11 = .ok (.iload 4, 2) := by decide +kernel
theorem dX0_growOne_13 : decode cX0_growOne 13 = .ok (.iconst (-1), 1) := by decide +kernel
theorem dX0_growOne_14 : decode cX0_growOne 14 = .ok (.if_icmp .ne 5, 3) := by decide +kernel
theorem dX0_growOne_17 : decode cX0_growOne 17 = .ok (.iconst 0, 1) := by decide +kernel
theorem dX0_growOne_18 : decode cX0_growOne 18 = .ok (.ireturn, 1) := by decide +kernel
theorem dX0_growOne_19 : decode cX0_growOne 19 = .ok (.aload_n 0, 1) := by decide +kernel
theorem dX0_growOne_20 : decode cX0_growOne 20 = .ok (.invokevirtual 55, 3) := by decide +kernel
theorem dX0_growOne_23 : decode cX0_growOne 23 = .ok (.bipush 100, 2) := by decide +kernel
theorem dX0_growOne_25 : decode cX0_growOne 25 = .ok (.irem, 1) := by decide +kernel
theorem dX0_growOne_26 : decode cX0_growOne 26 = .ok (.iload_n 3, 1) := by decide +kernel
theorem dX0_growOne_27 : decode cX0_growOne 27 = .ok (.if_icmp .ge 12, 3) := by decide +kernel
theorem dX0_growOne_30 : decode cX0_growOne 30 = .ok (.aload_n 0, 1) := by decide +kernel
theorem dX0_growOne_31 : decode cX0_growOne 31 = .ok (.invokevirtual 55, 3) := by decide +kernel
theorem dX0_growOne_34 : decode cX0_growOne 34 = .ok (.bipush 12, 2) := by decide +kernel
theorem dX0_growOne_36 : decode cX0_growOne 36 = .ok (.irem, 1) := by decide +kernel
theorem dX0_growOne_37 : decode cX0_growOne 37 = .ok (.istore 4, 2) := by decide +kernel
theorem dX0_growOne_39 : decode cX0_growOne 39 = .ok (.aload_n 1, 1) := by decide +kernel
theorem dX0_growOne_40 : decode cX0_growOne 40 = .ok (.iload 4, 2) := by decide +kernel
theorem dX0_growOne_42 : decode cX0_growOne 42 = .ok (.aload_n 0, 1) := by decide +kernel
theorem dX0_growOne_43 : decode cX0_growOne 43 = .ok (.getfield 29, 3) := by decide +kernel
theorem dX0_growOne_46 : decode cX0_growOne 46 = .ok (.invokevirtual 59, 3) := by decide +kernel
theorem dX0_growOne_49 : decode cX0_growOne 49 = .ok (.iconst 1, 1) := by decide +kernel
theorem dX0_growOne_50 : decode cX0_growOne 50 = .ok (.ireturn, 1) := by decide +kernel
theorem dX0_draw_0 : decode cX0_draw 0 = .ok (.aload_n 0, 1) := by decide +kernel
theorem dX0_draw_1 : decode cX0_draw 1 = .ok (.ldc 63, 2) := by decide +kernel
theorem dX0_draw_3 : decode cX0_draw 3 = .ok (.aload_n 0, 1) := by decide +kernel
theorem dX0_draw_4 : decode cX0_draw 4 = .ok (.getfield 17, 3) := by decide +kernel
theorem dX0_draw_7 : decode cX0_draw 7 = .ok (.imul, 1) := by decide +kernel
theorem dX0_draw_8 : decode cX0_draw 8 = .ok (.sipush 12345, 3) := by decide +kernel
theorem dX0_draw_11 : decode cX0_draw 11 = .ok (.iadd, 1) := by decide +kernel
theorem dX0_draw_12 : decode cX0_draw 12 = .ok (.putfield 17, 3) := by decide +kernel
theorem dX0_draw_15 : decode cX0_draw 15 = .ok (.aload_n 0, 1) := by decide +kernel
theorem dX0_draw_16 : decode cX0_draw 16 = .ok (.getfield 17, 3) := by decide +kernel
theorem dX0_draw_19 : decode cX0_draw 19 = .ok (.bipush 16, 2) := by decide +kernel
theorem dX0_draw_21 : decode cX0_draw 21 = .ok (.iushr, 1) := by decide +kernel
theorem dX0_draw_22 : decode cX0_draw 22 = .ok (.sipush 32767, 3) := by decide +kernel
theorem dX0_draw_25 : decode cX0_draw 25 = .ok (.iand, 1) := by decide +kernel
theorem dX0_draw_26 : decode cX0_draw 26 = .ok (.ireturn, 1) := by decide +kernel
theorem dX0_areSealed_0 : decode cX0_areSealed 0 = .ok (.aload_n 0, 1) := by decide +kernel
theorem dX0_areSealed_1 : decode cX0_areSealed 1 = .ok (.invokevirtual 64, 3) := by decide +kernel
theorem dX0_areSealed_4 : decode cX0_areSealed 4 = .ok (.iload_n 1, 1) := by decide +kernel
theorem dX0_areSealed_5 : decode cX0_areSealed 5 = .ok (.ishr, 1) := by decide +kernel
theorem dX0_areSealed_6 : decode cX0_areSealed 6 = .ok (.iconst 1, 1) := by decide +kernel
theorem dX0_areSealed_7 : decode cX0_areSealed 7 = .ok (.iand, 1) := by decide +kernel
theorem dX0_areSealed_8 : decode cX0_areSealed 8 = .ok (.ifCond .ne 18, 3) := by decide +kernel
theorem dX0_areSealed_11 : decode cX0_areSealed 11 = .ok (.aload_n 0, 1) := by decide +kernel
theorem dX0_areSealed_12 : decode cX0_areSealed 12 = .ok (.invokevirtual 64, 3) := by decide +kernel
theorem dX0_areSealed_15 : decode cX0_areSealed 15 = .ok (.iload_n 2, 1) := by decide +kernel
theorem dX0_areSealed_16 : decode cX0_areSealed 16 = .ok (.ishr, 1) := by decide +kernel
theorem dX0_areSealed_17 : decode cX0_areSealed 17 = .ok (.iconst 1, 1) := by decide +kernel
theorem dX0_areSealed_18 : decode cX0_areSealed 18 = .ok (.iand, 1) := by decide +kernel
theorem dX0_areSealed_19 : decode cX0_areSealed 19 = .ok (.ifCond .ne 7, 3) := by decide +kernel
theorem dX0_areSealed_22 : decode cX0_areSealed 22 = .ok (.iconst 1, 1) := by decide +kernel
theorem dX0_areSealed_23 : decode cX0_areSealed 23 = .ok (.goto 4, 3) := by decide +kernel
theorem dX0_areSealed_26 : decode cX0_areSealed 26 = .ok (.iconst 0, 1) := by decide +kernel
theorem dX0_areSealed_27 : decode cX0_areSealed 27 = .ok (.ireturn, 1) := by decide +kernel
theorem dX0_linesInAll_0 : decode cX0_linesInAll 0 = .ok (.iconst 0, 1) := by decide +kernel
theorem dX0_linesInAll_1 : decode cX0_linesInAll 1 = .ok (.istore_n 1, 1) := by decide +kernel
theorem dX0_linesInAll_2 : decode cX0_linesInAll 2 = .ok (.iconst 0, 1) := by decide +kernel
theorem dX0_linesInAll_3 : decode cX0_linesInAll 3 = .ok (.istore_n 2, 1) := by decide +kernel
theorem dX0_linesInAll_4 : decode cX0_linesInAll 4 = .ok (.iload_n 2, 1) := by decide +kernel
theorem dX0_linesInAll_5 : decode cX0_linesInAll 5 = .ok (.aload_n 0, 1) := by decide +kernel
theorem dX0_linesInAll_6 : decode cX0_linesInAll 6 = .ok (.getfield 22, 3) := by decide +kernel
theorem dX0_linesInAll_9 : decode cX0_linesInAll 9 = .ok (.if_icmp .ge 21, 3) := by decide +kernel
theorem dX0_linesInAll_12 : decode cX0_linesInAll 12 = .ok (.iload_n 1, 1) := by decide +kernel
theorem dX0_linesInAll_13 : decode cX0_linesInAll 13 = .ok (.aload_n 0, 1) := by decide +kernel
theorem dX0_linesInAll_14 : decode cX0_linesInAll 14 = .ok (.getfield 11, 3) := by decide +kernel
theorem dX0_linesInAll_17 : decode cX0_linesInAll 17 = .ok (.iload_n 2, 1) := by decide +kernel
theorem dX0_linesInAll_18 : decode cX0_linesInAll 18 = .ok (.aaload, 1) := by decide +kernel
theorem dX0_linesInAll_19 : decode cX0_linesInAll 19 = .ok (.getfield 67, 3) := by decide +kernel
theorem dX0_linesInAll_22 : decode cX0_linesInAll 22 = .ok (.iadd, 1) := by decide +kernel
theorem dX0_linesInAll_23 : decode cX0_linesInAll 23 = .ok (.istore_n 1, 1) := by decide +kernel
theorem dX0_linesInAll_24 : decode cX0_linesInAll 24 = .ok (.iinc 2 1, 3) := by decide +kernel
theorem dX0_linesInAll_27 : decode cX0_linesInAll 27 = .ok (.goto (-23), 3) := by decide +kernel
theorem dX0_linesInAll_30 : decode cX0_linesInAll 30 = .ok (.iload_n 1, 1) := by decide +kernel
theorem dX0_linesInAll_31 : decode cX0_linesInAll 31 = .ok (.ireturn, 1) := by decide +kernel
theorem dX0_openSet_0 : decode cX0_openSet 0 = .ok (.iconst 0, 1) := by decide +kernel
theorem dX0_openSet_1 : decode cX0_openSet 1 = .ok (.istore_n 1, 1) := by decide +kernel
theorem dX0_openSet_2 : decode cX0_openSet 2 = .ok (.iconst 0, 1) := by decide +kernel
theorem dX0_openSet_3 : decode cX0_openSet 3 = .ok (.istore_n 2, 1) := by decide +kernel
theorem dX0_openSet_4 : decode cX0_openSet 4 = .ok (.iload_n 2, 1) := by decide +kernel
theorem dX0_openSet_5 : decode cX0_openSet 5 = .ok (.aload_n 0, 1) := by decide +kernel
theorem dX0_openSet_6 : decode cX0_openSet 6 = .ok (.getfield 22, 3) := by decide +kernel
theorem dX0_openSet_9 : decode cX0_openSet 9 = .ok (.if_icmp .ge 31, 3) := by decide +kernel
theorem dX0_openSet_12 : decode cX0_openSet 12 = .ok (.iload_n 1, 1) := by decide +kernel
theorem dX0_openSet_13 : decode cX0_openSet 13 = .ok (.aload_n 0, 1) := by decide +kernel
theorem dX0_openSet_14 : decode cX0_openSet 14 = .ok (.getfield 11, 3) := by decide +kernel
theorem dX0_openSet_17 : decode cX0_openSet 17 = .ok (.iload_n 2, 1) := by decide +kernel
theorem dX0_openSet_18 : decode cX0_openSet 18 = .ok (.aaload, 1) := by decide +kernel
theorem dX0_openSet_19 : decode cX0_openSet 19 = .ok (.getfield 70, 3) := by decide +kernel
theorem dX0_openSet_22 : decode cX0_openSet 22 = .ok (.ifCond .eq 9, 3) := by decide +kernel
theorem dX0_openSet_25 : decode cX0_openSet 25 = .ok (.iconst 1, 1) := by decide +kernel
theorem dX0_openSet_26 : decode cX0_openSet 26 = .ok (.iload_n 2, 1) := by decide +kernel
theorem dX0_openSet_27 : decode cX0_openSet 27 = .ok (.ishl, 1) := by decide +kernel
theorem dX0_openSet_28 : decode cX0_openSet 28 = .ok (.goto 4, 3) := by decide +kernel
theorem dX0_openSet_31 : decode cX0_openSet 31 = .ok (.iconst 0, 1) := by decide +kernel
theorem dX0_openSet_32 : decode cX0_openSet 32 = .ok (.ior, 1) := by decide +kernel
theorem dX0_openSet_33 : decode cX0_openSet 33 = .ok (.istore_n 1, 1) := by decide +kernel
theorem dX0_openSet_34 : decode cX0_openSet 34 = .ok (.iinc 2 1, 3) := by decide +kernel
theorem dX0_openSet_37 : decode cX0_openSet 37 = .ok (.goto (-33), 3) := by decide +kernel
theorem dX0_openSet_40 : decode cX0_openSet 40 = .ok (.iload_n 1, 1) := by decide +kernel
theorem dX0_openSet_41 : decode cX0_openSet 41 = .ok (.ireturn, 1) := by decide +kernel
theorem dX0_hotSet_0 : decode cX0_hotSet 0 = .ok (.iconst 0, 1) := by decide +kernel
theorem dX0_hotSet_1 : decode cX0_hotSet 1 = .ok (.istore_n 1, 1) := by decide +kernel
theorem dX0_hotSet_2 : decode cX0_hotSet 2 = .ok (.iconst 0, 1) := by decide +kernel
theorem dX0_hotSet_3 : decode cX0_hotSet 3 = .ok (.istore_n 2, 1) := by decide +kernel
theorem dX0_hotSet_4 : decode cX0_hotSet 4 = .ok (.iload_n 2, 1) := by decide +kernel
theorem dX0_hotSet_5 : decode cX0_hotSet 5 = .ok (.aload_n 0, 1) := by decide +kernel
theorem dX0_hotSet_6 : decode cX0_hotSet 6 = .ok (.getfield 22, 3) := by decide +kernel
theorem dX0_hotSet_9 : decode cX0_hotSet 9 = .ok (.if_icmp .ge 31, 3) := by decide +kernel
theorem dX0_hotSet_12 : decode cX0_hotSet 12 = .ok (.iload_n 1, 1) := by decide +kernel
theorem dX0_hotSet_13 : decode cX0_hotSet 13 = .ok (.aload_n 0, 1) := by decide +kernel
theorem dX0_hotSet_14 : decode cX0_hotSet 14 = .ok (.getfield 11, 3) := by decide +kernel
theorem dX0_hotSet_17 : decode cX0_hotSet 17 = .ok (.iload_n 2, 1) := by decide +kernel
theorem dX0_hotSet_18 : decode cX0_hotSet 18 = .ok (.aaload, 1) := by decide +kernel
theorem dX0_hotSet_19 : decode cX0_hotSet 19 = .ok (.getfield 39, 3) := by decide +kernel
theorem dX0_hotSet_22 : decode cX0_hotSet 22 = .ok (.ifCond .eq 9, 3) := by decide +kernel
theorem dX0_hotSet_25 : decode cX0_hotSet 25 = .ok (.iconst 1, 1) := by decide +kernel
theorem dX0_hotSet_26 : decode cX0_hotSet 26 = .ok (.iload_n 2, 1) := by decide +kernel
theorem dX0_hotSet_27 : decode cX0_hotSet 27 = .ok (.ishl, 1) := by decide +kernel
theorem dX0_hotSet_28 : decode cX0_hotSet 28 = .ok (.goto 4, 3) := by decide +kernel
theorem dX0_hotSet_31 : decode cX0_hotSet 31 = .ok (.iconst 0, 1) := by decide +kernel
theorem dX0_hotSet_32 : decode cX0_hotSet 32 = .ok (.ior, 1) := by decide +kernel
theorem dX0_hotSet_33 : decode cX0_hotSet 33 = .ok (.istore_n 1, 1) := by decide +kernel
theorem dX0_hotSet_34 : decode cX0_hotSet 34 = .ok (.iinc 2 1, 3) := by decide +kernel
theorem dX0_hotSet_37 : decode cX0_hotSet 37 = .ok (.goto (-33), 3) := by decide +kernel
theorem dX0_hotSet_40 : decode cX0_hotSet 40 = .ok (.iload_n 1, 1) := by decide +kernel
theorem dX0_hotSet_41 : decode cX0_hotSet 41 = .ok (.ireturn, 1) := by decide +kernel
theorem dX1_init_0 : decode cX1_init 0 = .ok (.aload_n 0, 1) := by decide +kernel
theorem dX1_init_1 : decode cX1_init 1 = .ok (.invokespecial 3, 3) := by decide +kernel
theorem dX1_init_4 : decode cX1_init 4 = .ok (.aload_n 0, 1) := by decide +kernel
theorem dX1_init_5 : decode cX1_init 5 = .ok (.bipush 12, 2) := by decide +kernel
theorem dX1_init_7 : decode cX1_init 7 = .ok (.newarray .int, 2) := by decide +kernel
theorem dX1_init_9 : decode cX1_init 9 = .ok (.putfield 9, 3) := by decide +kernel
theorem dX1_init_12 : decode cX1_init 12 = .ok (.aload_n 0, 1) := by decide +kernel
theorem dX1_init_13 : decode cX1_init 13 = .ok (.bipush 12, 2) := by decide +kernel
theorem dX1_init_15 : decode cX1_init 15 = .ok (.newarray .int, 2) := by decide +kernel
theorem dX1_init_17 : decode cX1_init 17 = .ok (.putfield 15, 3) := by decide +kernel
theorem dX1_init_20 : decode cX1_init 20 = .ok (.aload_n 0, 1) := by decide +kernel
theorem dX1_init_21 : decode cX1_init 21 = .ok (.bipush 12, 2) := by decide +kernel
theorem dX1_init_23 : decode cX1_init 23 = .ok (.newarray .int, 2) := by decide +kernel
theorem dX1_init_25 : decode cX1_init 25 = .ok (.putfield 18, 3) := by decide +kernel
theorem dX1_init_28 : decode cX1_init 28 = .ok (.aload_n 0, 1) := by decide +kernel
theorem dX1_init_29 : decode cX1_init 29 = .ok (.sipush 400, 3) := by decide +kernel
theorem dX1_init_32 : decode cX1_init 32 = .ok (.newarray .int, 2) := by decide +kernel
theorem dX1_init_34 : decode cX1_init 34 = .ok (.putfield 21, 3) := by decide +kernel
theorem dX1_init_37 : decode cX1_init 37 = .ok (.aload_n 0, 1) := by decide +kernel
theorem dX1_init_38 : decode cX1_init 38 = .ok (.sipush 400, 3) := by decide +kernel
theorem dX1_init_41 : decode cX1_init 41 = .ok (.newarray .int, 2) := by decide +kernel
theorem dX1_init_43 : decode cX1_init 43 = .ok (.putfield 24, 3) := by decide +kernel
theorem dX1_init_46 : decode cX1_init 46 = .ok (.aload_n 0, 1) := by decide +kernel
theorem dX1_init_47 : decode cX1_init 47 = .ok (.bipush 8, 2) := by decide +kernel
theorem dX1_init_49 : decode cX1_init 49 = .ok (.newarray .int, 2) := by decide +kernel
theorem dX1_init_51 : decode cX1_init 51 = .ok (.putfield 27, 3) := by decide +kernel
theorem dX1_init_54 : decode cX1_init 54 = .ok (.return_, 1) := by decide +kernel
theorem dX1_clear_0 : decode cX1_clear 0 = .ok (.aload_n 0, 1) := by decide +kernel
theorem dX1_clear_1 : decode cX1_clear 1 = .ok (.iconst 0, 1) := by decide +kernel
theorem dX1_clear_2 : decode cX1_clear 2 = .ok (.putfield 30, 3) := by decide +kernel
theorem dX1_clear_5 : decode cX1_clear 5 = .ok (.aload_n 0, 1) := by decide +kernel
theorem dX1_clear_6 : decode cX1_clear 6 = .ok (.iconst 0, 1) := by decide +kernel
theorem dX1_clear_7 : decode cX1_clear 7 = .ok (.putfield 34, 3) := by decide +kernel
theorem dX1_clear_10 : decode cX1_clear 10 = .ok (.aload_n 0, 1) := by decide +kernel
theorem dX1_clear_11 : decode cX1_clear 11 = .ok (.iconst 0, 1) := by decide +kernel
theorem dX1_clear_12 : decode cX1_clear 12 = .ok (.putfield 37, 3) := by decide +kernel
theorem dX1_clear_15 : decode cX1_clear 15 = .ok (.return_, 1) := by decide +kernel
theorem dX1_become_0 : decode cX1_become 0 = .ok (.aload_n 1, 1) := by decide +kernel
theorem dX1_become_1 : decode cX1_become 1 = .ok (.getfield 9, 3) := by decide +kernel
theorem dX1_become_4 : decode cX1_become 4 = .ok (.iconst 0, 1) := by decide +kernel
theorem dX1_become_5 : decode cX1_become 5 = .ok (.aload_n 0, 1) := by decide +kernel
theorem dX1_become_6 : decode cX1_become 6 = .ok (.getfield 9, 3) := by decide +kernel
theorem dX1_become_9 : decode cX1_become 9 = .ok (.iconst 0, 1) := by decide +kernel
theorem dX1_become_10 : decode cX1_become 10 = .ok (.bipush 12, 2) := by decide +kernel
theorem dX1_become_12 : decode cX1_become 12 = .ok (.invokestatic 41, 3) := by decide +kernel
theorem dX1_become_15 : decode cX1_become 15 = .ok (.aload_n 1, 1) := by decide +kernel
theorem dX1_become_16 : decode cX1_become 16 = .ok (.getfield 15, 3) := by decide +kernel
theorem dX1_become_19 : decode cX1_become 19 = .ok (.iconst 0, 1) := by decide +kernel
theorem dX1_become_20 : decode cX1_become 20 = .ok (.aload_n 0, 1) := by decide +kernel
theorem dX1_become_21 : decode cX1_become 21 = .ok (.getfield 15, 3) := by decide +kernel
theorem dX1_become_24 : decode cX1_become 24 = .ok (.iconst 0, 1) := by decide +kernel
theorem dX1_become_25 : decode cX1_become 25 = .ok (.bipush 12, 2) := by decide +kernel
theorem dX1_become_27 : decode cX1_become 27 = .ok (.invokestatic 41, 3) := by decide +kernel
theorem dX1_become_30 : decode cX1_become 30 = .ok (.aload_n 1, 1) := by decide +kernel
theorem dX1_become_31 : decode cX1_become 31 = .ok (.getfield 18, 3) := by decide +kernel
theorem dX1_become_34 : decode cX1_become 34 = .ok (.iconst 0, 1) := by decide +kernel
theorem dX1_become_35 : decode cX1_become 35 = .ok (.aload_n 0, 1) := by decide +kernel
theorem dX1_become_36 : decode cX1_become 36 = .ok (.getfield 18, 3) := by decide +kernel
theorem dX1_become_39 : decode cX1_become 39 = .ok (.iconst 0, 1) := by decide +kernel
theorem dX1_become_40 : decode cX1_become 40 = .ok (.bipush 12, 2) := by decide +kernel
theorem dX1_become_42 : decode cX1_become 42 = .ok (.invokestatic 41, 3) := by decide +kernel
theorem dX1_become_45 : decode cX1_become 45 = .ok (.aload_n 1, 1) := by decide +kernel
theorem dX1_become_46 : decode cX1_become 46 = .ok (.getfield 21, 3) := by decide +kernel
theorem dX1_become_49 : decode cX1_become 49 = .ok (.iconst 0, 1) := by decide +kernel
theorem dX1_become_50 : decode cX1_become 50 = .ok (.aload_n 0, 1) := by decide +kernel
theorem dX1_become_51 : decode cX1_become 51 = .ok (.getfield 21, 3) := by decide +kernel
theorem dX1_become_54 : decode cX1_become 54 = .ok (.iconst 0, 1) := by decide +kernel
theorem dX1_become_55 : decode cX1_become 55 = .ok (.sipush 400, 3) := by decide +kernel
theorem dX1_become_58 : decode cX1_become 58 = .ok (.invokestatic 41, 3) := by decide +kernel
theorem dX1_become_61 : decode cX1_become 61 = .ok (.aload_n 0, 1) := by decide +kernel
theorem dX1_become_62 : decode cX1_become 62 = .ok (.aload_n 1, 1) := by decide +kernel
theorem dX1_become_63 : decode cX1_become 63 = .ok (.getfield 30, 3) := by decide +kernel
theorem dX1_become_66 : decode cX1_become 66 = .ok (.putfield 30, 3) := by decide +kernel
theorem dX1_become_69 : decode cX1_become 69 = .ok (.aload_n 0, 1) := by decide +kernel
theorem dX1_become_70 : decode cX1_become 70 = .ok (.aload_n 1, 1) := by decide +kernel
theorem dX1_become_71 : decode cX1_become 71 = .ok (.getfield 34, 3) := by decide +kernel
theorem dX1_become_74 : decode cX1_become 74 = .ok (.putfield 34, 3) := by decide +kernel
theorem dX1_become_77 : decode cX1_become 77 = .ok (.aload_n 0, 1) := by decide +kernel
theorem dX1_become_78 : decode cX1_become 78 = .ok (.aload_n 1, 1) := by decide +kernel
theorem dX1_become_79 : decode cX1_become 79 = .ok (.getfield 37, 3) := by decide +kernel
theorem dX1_become_82 : decode cX1_become 82 = .ok (.putfield 37, 3) := by decide +kernel
theorem dX1_become_85 : decode cX1_become 85 = .ok (.return_, 1) := by decide +kernel
theorem dX1_addCode_0 : decode cX1_addCode 0 = .ok (.aload_n 0, 1) := by decide +kernel
theorem dX1_addCode_1 : decode cX1_addCode 1 = .ok (.getfield 30, 3) := by decide +kernel
theorem dX1_addCode_4 : decode cX1_addCode 4 = .ok (.sipush 400, 3) := by decide +kernel
theorem dX1_addCode_7 : decode cX1_addCode 7 = .ok (.if_icmp .ge 23, 3) := by decide +kernel
theorem dX1_addCode_10 : decode cX1_addCode 10 = .ok (.aload_n 0, 1) := by decide +kernel
theorem dX1_addCode_11 : decode cX1_addCode 11 = .ok (.getfield 21, 3) := by decide +kernel
theorem dX1_addCode_14 : decode cX1_addCode 14 = .ok (.aload_n 0, 1) := by decide +kernel
theorem dX1_addCode_15 : decode cX1_addCode 15 = .ok (.getfield 30, 3) := by decide +kernel
theorem dX1_addCode_18 : decode cX1_addCode 18 = .ok (.iload_n 1, 1) := by decide +kernel
theorem dX1_addCode_19 : decode cX1_addCode 19 = .ok (.iastore, 1) := by decide +kernel
theorem dX1_addCode_20 : decode cX1_addCode 20 = .ok (.aload_n 0, 1) := by decide +kernel
theorem dX1_addCode_21 : decode cX1_addCode 21 = .ok (.dup, 1) := by decide +kernel
theorem dX1_addCode_22 : decode cX1_addCode 22 = .ok (.getfield 30, 3) := by decide +kernel
theorem dX1_addCode_25 : decode cX1_addCode 25 = .ok (.iconst 1, 1) := by decide +kernel
theorem dX1_addCode_26 : decode cX1_addCode 26 = .ok (.iadd, 1) := by decide +kernel
theorem dX1_addCode_27 : decode cX1_addCode 27 = .ok (.putfield 30, 3) := by decide +kernel
theorem dX1_addCode_30 : decode cX1_addCode 30 = .ok (.return_, 1) := by decide +kernel
theorem dX1_addLine_0 : decode cX1_addLine 0 = .ok (.aload_n 0, 1) := by decide +kernel
theorem dX1_addLine_1 : decode cX1_addLine 1 = .ok (.getfield 34, 3) := by decide +kernel
theorem dX1_addLine_4 : decode cX1_addLine 4 = .ok (.bipush 12, 2) := by decide +kernel
theorem dX1_addLine_6 : decode cX1_addLine 6 = .ok (.if_icmp .ge 46, 3) := by decide +kernel
theorem dX1_addLine_9 : decode cX1_addLine 9 = .ok (.aload_n 0, 1) := by decide +kernel
theorem dX1_addLine_10 : decode cX1_addLine 10 = .ok (.getfield 9, 3) := by decide +kernel
theorem dX1_addLine_13 : decode cX1_addLine 13 = .ok (.aload_n 0, 1) := by decide +kernel
theorem dX1_addLine_14 : decode cX1_addLine 14 = .ok (.getfield 34, 3) := by decide +kernel
theorem dX1_addLine_17 : decode cX1_addLine 17 = .ok (.iload_n 1, 1) := by decide +kernel
theorem dX1_addLine_18 : decode cX1_addLine 18 = .ok (.iastore, 1) := by decide +kernel
theorem dX1_addLine_19 : decode cX1_addLine 19 = .ok (.aload_n 0, 1) := by decide +kernel
theorem dX1_addLine_20 : decode cX1_addLine 20 = .ok (.getfield 15, 3) := by decide +kernel
theorem dX1_addLine_23 : decode cX1_addLine 23 = .ok (.aload_n 0, 1) := by decide +kernel
theorem dX1_addLine_24 : decode cX1_addLine 24 = .ok (.getfield 34, 3) := by decide +kernel
theorem dX1_addLine_27 : decode cX1_addLine 27 = .ok (.iload_n 2, 1) := by decide +kernel
theorem dX1_addLine_28 : decode cX1_addLine 28 = .ok (.iastore, 1) := by decide +kernel
theorem dX1_addLine_29 : decode cX1_addLine 29 = .ok (.aload_n 0, 1) := by decide +kernel
theorem dX1_addLine_30 : decode cX1_addLine 30 = .ok (.getfield 18, 3) := by decide +kernel
theorem dX1_addLine_33 : decode cX1_addLine 33 = .ok (.aload_n 0, 1) := by decide +kernel
theorem dX1_addLine_34 : decode cX1_addLine 34 = .ok (.getfield 34, 3) := by decide +kernel
theorem dX1_addLine_37 : decode cX1_addLine 37 = .ok (.aload_n 0, 1) := by decide +kernel
theorem dX1_addLine_38 : decode cX1_addLine 38 = .ok (.getfield 30, 3) := by decide +kernel
theorem dX1_addLine_41 : decode cX1_addLine 41 = .ok (.iastore, 1) := by decide +kernel
theorem dX1_addLine_42 : decode cX1_addLine 42 = .ok (.aload_n 0, 1) := by decide +kernel
theorem dX1_addLine_43 : decode cX1_addLine 43 = .ok (.dup, 1) := by decide +kernel
theorem dX1_addLine_44 : decode cX1_addLine 44 = .ok (.getfield 34, 3) := by decide +kernel
theorem dX1_addLine_47 : decode cX1_addLine 47 = .ok (.iconst 1, 1) := by decide +kernel
theorem dX1_addLine_48 : decode cX1_addLine 48 = .ok (.iadd, 1) := by decide +kernel
theorem dX1_addLine_49 : decode cX1_addLine 49 = .ok (.putfield 34, 3) := by decide +kernel
theorem dX1_addLine_52 : decode cX1_addLine 52 = .ok (.return_, 1) := by decide +kernel
theorem dX1_leads_0 : decode cX1_leads 0 = .ok (.iconst 0, 1) := by decide +kernel
theorem dX1_leads_1 : decode cX1_leads 1 = .ok (.istore_n 3, 1) := by decide +kernel
theorem dX1_leads_2 : decode cX1_leads 2 = .ok (.iload_n 3, 1) := by decide +kernel
theorem dX1_leads_3 : decode cX1_leads 3 = .ok (.aload_n 0, 1) := by decide +kernel
theorem dX1_leads_4 : decode cX1_leads 4 = .ok (.getfield 34, 3) := by decide +kernel
theorem dX1_leads_7 : decode cX1_leads 7 = .ok (.if_icmp .ge 31, 3) := by decide +kernel
theorem dX1_leads_10 : decode cX1_leads 10 = .ok (.aload_n 0, 1) := by decide +kernel
theorem dX1_leads_11 : decode cX1_leads 11 = .ok (.getfield 9, 3) := by decide +kernel
theorem dX1_leads_14 : decode cX1_leads 14 = .ok (.iload_n 3, 1) := by decide +kernel
theorem dX1_leads_15 : decode cX1_leads 15 = .ok (.iaload, 1) := by decide +kernel
theorem dX1_leads_16 : decode cX1_leads 16 = .ok (.iload_n 1, 1) := by decide +kernel
theorem dX1_leads_17 : decode cX1_leads 17 = .ok (.if_icmp .ne 15, 3) := by decide +kernel
theorem dX1_leads_20 : decode cX1_leads 20 = .ok (.aload_n 0, 1) := by decide +kernel
theorem dX1_leads_21 : decode cX1_leads 21 = .ok (.getfield 15, 3) := by decide +kernel
theorem dX1_leads_24 : decode cX1_leads 24 = .ok (.iload_n 3, 1) := by decide +kernel
theorem dX1_leads_25 : decode cX1_leads 25 = .ok (.iaload, 1) := by decide +kernel
theorem dX1_leads_26 : decode cX1_leads 26 = .ok (.iload_n 2, 1) := by decide +kernel
theorem dX1_leads_27 : decode cX1_leads 27 = .ok (.if_icmp .ne 5, 3) := by decide +kernel
theorem dX1_leads_30 : decode cX1_leads 30 = .ok (.iconst 1, 1) := by decide +kernel
theorem dX1_leads_31 : decode cX1_leads 31 = .ok (.ireturn, 1) := by decide +kernel
theorem dX1_leads_32 : decode cX1_leads 32 = .ok (.iinc 3 1, 3) := by decide +kernel
theorem dX1_leads_35 : decode cX1_leads 35 = .ok (.goto (-33), 3) := by decide +kernel
theorem dX1_leads_38 : decode cX1_leads 38 = .ok (.iconst 0, 1) := by decide +kernel
theorem dX1_leads_39 : decode cX1_leads 39 = .ok (.ireturn, 1) := by decide +kernel
theorem dX1_growth_0 : decode cX1_growth 0 = .ok (.aload_n 1, 1) := by decide +kernel
theorem dX1_growth_1 : decode cX1_growth 1 = .ok (.getfield 47, 3) := by decide +kernel
theorem dX1_growth_4 : decode cX1_growth 4 = .ok (.ifCond .ne 12, 3) := by decide +kernel
theorem dX1_growth_7 : decode cX1_growth 7 = .ok (.aload_n 1, 1) := by decide +kernel
theorem dX1_growth_8 : decode cX1_growth 8 = .ok (.getfield 52, 3) := by decide +kernel
theorem dX1_growth_11 : decode cX1_growth 11 = .ok (.bipush 24, 2) := by decide +kernel
theorem dX1_growth_13 : decode cX1_growth 13 = .ok (.if_icmp .lt 7, 3) := by decide +kernel
theorem dX1_growth_16 : decode cX1_growth 16 = .ok (.iconst (-1), 1) := by decide +kernel
theorem dX1_growth_17 : decode cX1_growth 17 = .ok (.goto 13, 3) := by decide +kernel
theorem dX1_growth_20 : decode cX1_growth 20 = .ok (.aload_n 0, 1) := by decide +kernel
theorem dX1_growth_21 : decode cX1_growth 21 = .ok (.aload_n 1, 1) := by decide +kernel
theorem dX1_growth_22 : decode cX1_growth 22 = .ok (.aload_n 1, 1) := by decide +kernel
theorem dX1_growth_23 : decode cX1_growth 23 = .ok (.getfield 52, 3) := by decide +kernel
theorem dX1_growth_26 : decode cX1_growth 26 = .ok (.iload_n 2, 1) := by decide +kernel
theorem dX1_growth_27 : decode cX1_growth 27 = .ok (.invokevirtual 55, 3) := by decide +kernel
theorem dX1_growth_30 : decode cX1_growth 30 = .ok (.ireturn, 1) := by decide +kernel
theorem dX1_astrayIn_0 : decode cX1_astrayIn 0 = .ok (.iconst 0, 1) := by decide +kernel
theorem dX1_astrayIn_1 : decode cX1_astrayIn 1 = .ok (.istore_n 2, 1) := by decide +kernel
theorem dX1_astrayIn_2 : decode cX1_astrayIn 2 = .ok (.iconst 1, 1) := by decide +kernel
theorem dX1_astrayIn_3 : decode cX1_astrayIn 3 = .ok (.istore_n 3, 1) := by decide +kernel
theorem dX1_astrayIn_4 : decode cX1_astrayIn 4 = .ok (.iload_n 3, 1) := by decide +kernel
theorem dX1_astrayIn_5 : decode cX1_astrayIn 5 = .ok (.aload_n 1, 1) := by decide +kernel
theorem dX1_astrayIn_6 : decode cX1_astrayIn 6 = .ok (.getfield 52, 3) := by decide +kernel
theorem dX1_astrayIn_9 : decode cX1_astrayIn 9 = .ok (.if_icmp .ge 34, 3) := by decide +kernel
theorem dX1_astrayIn_12 : decode cX1_astrayIn 12 = .ok (.aload_n 0, 1) := by decide +kernel
theorem dX1_astrayIn_13 : decode cX1_astrayIn 13 = .ok (.aload_n 1, 1) := by decide +kernel
theorem dX1_astrayIn_14 : decode cX1_astrayIn 14 = .ok (.iload_n 3, 1) := by decide +kernel
theorem dX1_astrayIn_15 : decode cX1_astrayIn 15 = .ok (.aload_n 1, 1) := by decide +kernel
theorem dX1_astrayIn_16 : decode cX1_astrayIn 16 = .ok (.iload_n 3, 1) := by decide +kernel
theorem dX1_astrayIn_17 : decode cX1_astrayIn 17 = .ok (.invokevirtual 59, 3) := by decide +kernel
theorem dX1_astrayIn_20 : decode cX1_astrayIn 20 = .ok (.invokevirtual 55, 3) := by decide +kernel
theorem dX1_astrayIn_23 : decode cX1_astrayIn 23 = .ok (.aload_n 1, 1) := by decide +kernel
theorem dX1_astrayIn_24 : decode cX1_astrayIn 24 = .ok (.iload_n 3, 1) := by decide +kernel
theorem dX1_astrayIn_25 : decode cX1_astrayIn 25 = .ok (.invokevirtual 63, 3) := by decide +kernel
theorem dX1_astrayIn_28 : decode cX1_astrayIn 28 = .ok (.if_icmp .eq 9, 3) := by decide +kernel
theorem dX1_astrayIn_31 : decode cX1_astrayIn 31 = .ok (.iload_n 2, 1) := by decide +kernel
theorem dX1_astrayIn_32 : decode cX1_astrayIn 32 = .ok (.iconst 1, 1) := by decide +kernel
theorem dX1_astrayIn_33 : decode cX1_astrayIn 33 = .ok (.iload_n 3, 1) := by decide +kernel
theorem dX1_astrayIn_34 : decode cX1_astrayIn 34 = .ok (.ishl, 1) := by decide +kernel
theorem dX1_astrayIn_35 : decode cX1_astrayIn 35 = .ok (.ior, 1) := by decide +kernel
theorem dX1_astrayIn_36 : decode cX1_astrayIn 36 = .ok (.istore_n 2, 1) := by decide +kernel
theorem dX1_astrayIn_37 : decode cX1_astrayIn 37 = .ok (.iinc 3 1, 3) := by decide +kernel
theorem dX1_astrayIn_40 : decode cX1_astrayIn 40 = .ok (.goto (-36), 3) := by decide +kernel
theorem dX1_astrayIn_43 : decode cX1_astrayIn 43 = .ok (.iload_n 2, 1) := by decide +kernel
theorem dX1_astrayIn_44 : decode cX1_astrayIn 44 = .ok (.ireturn, 1) := by decide +kernel
theorem dX1_follows_0 : decode cX1_follows 0 = .ok (.aload_n 1, 1) := by decide +kernel
theorem dX1_follows_1 : decode cX1_follows 1 = .ok (.iload_n 2, 1) := by decide +kernel
theorem dX1_follows_2 : decode cX1_follows 2 = .ok (.iconst 1, 1) := by decide +kernel
theorem dX1_follows_3 : decode cX1_follows 3 = .ok (.isub, 1) := by decide +kernel
theorem dX1_follows_4 : decode cX1_follows 4 = .ok (.invokevirtual 63, 3) := by decide +kernel
theorem dX1_follows_7 : decode cX1_follows 7 = .ok (.istore 4, 2) := by decide +kernel
theorem dX1_follows_9 : decode cX1_follows 9 = .ok (.aload_n 0, 1) := by decide +kernel
theorem dX1_follows_10 : decode cX1_follows 10 = .ok (.aload_n 1, 1) := by decide +kernel
theorem dX1_follows_11 : decode cX1_follows 11 = .ok (.iload_n 2, 1) := by decide +kernel
theorem dX1_follows_12 : decode cX1_follows 12 = .ok (.iload_n 3, 1) := by decide +kernel
theorem dX1_follows_13 : decode cX1_follows 13 = .ok (.invokevirtual 66, 3) := by decide +kernel
theorem dX1_follows_16 : decode cX1_follows 16 = .ok (.iconst 0, 1) := by decide +kernel
theorem dX1_follows_17 : decode cX1_follows 17 = .ok (.istore 5, 2) := by decide +kernel
theorem dX1_follows_19 : decode cX1_follows 19 = .ok (.iload 5, 2) := by decide +kernel
theorem dX1_follows_21 : decode cX1_follows 21 = .ok (.aload_n 0, 1) := by decide +kernel
theorem dX1_follows_22 : decode cX1_follows 22 = .ok (.getfield 34, 3) := by decide +kernel
theorem dX1_follows_25 : decode cX1_follows 25 = .ok (.if_icmp .ge 38, 3) := by decide +kernel
theorem dX1_follows_28 : decode cX1_follows 28 = .ok (.aload_n 0, 1) := by decide +kernel
theorem dX1_follows_29 : decode cX1_follows 29 = .ok (.getfield 9, 3) := by decide +kernel
theorem dX1_follows_32 : decode cX1_follows 32 = .ok (.iload 5, 2) := by decide +kernel
theorem dX1_follows_34 : decode cX1_follows 34 = .ok (.iaload, 1) := by decide +kernel
theorem dX1_follows_35 : decode cX1_follows 35 = .ok (.iload 4, 2) := by decide +kernel
theorem dX1_follows_37 : decode cX1_follows 37 = .ok (.if_icmp .ne 20, 3) := by decide +kernel
theorem dX1_follows_40 : decode cX1_follows 40 = .ok (.aload_n 0, 1) := by decide +kernel
theorem dX1_follows_41 : decode cX1_follows 41 = .ok (.iload 5, 2) := by decide +kernel
theorem dX1_follows_43 : decode cX1_follows 43 = .ok (.invokevirtual 70, 3) := by decide +kernel
theorem dX1_follows_46 : decode cX1_follows 46 = .ok (.ifCond .eq 11, 3) := by decide +kernel
theorem dX1_follows_49 : decode cX1_follows 49 = .ok (.aload_n 0, 1) := by decide +kernel
theorem dX1_follows_50 : decode cX1_follows 50 = .ok (.getfield 15, 3) := by decide +kernel
theorem dX1_follows_53 : decode cX1_follows 53 = .ok (.iload 5, 2) := by decide +kernel
theorem dX1_follows_55 : decode cX1_follows 55 = .ok (.iaload, 1) := by decide +kernel
theorem dX1_follows_56 : decode cX1_follows 56 = .ok (.ireturn, 1) := by decide +kernel
theorem dX1_follows_57 : decode cX1_follows 57 = .ok (.iinc 5 1, 3) := by decide +kernel
theorem dX1_follows_60 : decode cX1_follows 60 = .ok (.goto (-41), 3) := by decide +kernel
theorem dX1_follows_63 : decode cX1_follows 63 = .ok (.iconst (-1), 1) := by decide +kernel
theorem dX1_follows_64 : decode cX1_follows 64 = .ok (.ireturn, 1) := by decide +kernel
theorem dX1_learnFacts_0 : decode cX1_learnFacts 0 = .ok (.iload_n 3, 1) := by decide +kernel
theorem dX1_learnFacts_1 : decode cX1_learnFacts 1 = .ok (.invokestatic 74, 3) := by decide +kernel
theorem dX1_learnFacts_4 : decode cX1_learnFacts 4 = .ok (.istore 4, 2) := by decide +kernel
theorem dX1_learnFacts_6 : decode cX1_learnFacts 6 = .ok (.aload_n 0, 1) := by decide +kernel
theorem dX1_learnFacts_7 : decode cX1_learnFacts 7 = .ok (.getfield 27, 3) := by decide +kernel
theorem dX1_learnFacts_10 : decode cX1_learnFacts 10 = .ok (.iconst 0, 1) := by decide +kernel
theorem dX1_learnFacts_11 : decode cX1_learnFacts 11 = .ok (.aload_n 1, 1) := by decide +kernel
theorem dX1_learnFacts_12 : decode cX1_learnFacts 12 = .ok (.getfield 77, 3) := by decide +kernel
theorem dX1_learnFacts_15 : decode cX1_learnFacts 15 = .ok (.ifCond .eq 7, 3) := by decide +kernel
theorem dX1_learnFacts_18 : decode cX1_learnFacts 18 = .ok (.iconst 1, 1) := by decide +kernel
theorem dX1_learnFacts_19 : decode cX1_learnFacts 19 = .ok (.goto 4, 3) := by decide +kernel
theorem dX1_learnFacts_22 : decode cX1_learnFacts 22 = .ok (.iconst 0, 1) := by decide +kernel
theorem dX1_learnFacts_23 : decode cX1_learnFacts 23 = .ok (.iastore, 1) := by decide +kernel
theorem dX1_learnFacts_24 : decode cX1_learnFacts 24 = .ok (.aload_n 0, 1) := by decide +kernel
theorem dX1_learnFacts_25 : decode cX1_learnFacts 25 = .ok (.getfield 27, 3) := by decide +kernel
theorem dX1_learnFacts_28 : decode cX1_learnFacts 28 = .ok (.iconst 1, 1) := by decide +kernel
theorem dX1_learnFacts_29 : decode cX1_learnFacts 29 = .ok (.iload 4, 2) := by decide +kernel
theorem dX1_learnFacts_31 : decode cX1_learnFacts 31 = .ok (.iconst 3, 1) := by decide +kernel
theorem dX1_learnFacts_32 : decode cX1_learnFacts 32 = .ok (.if_icmp .ne 7, 3) := by decide +kernel
theorem dX1_learnFacts_35 : decode cX1_learnFacts 35 = .ok (.iconst 1, 1) := by decide +kernel
theorem dX1_learnFacts_36 : decode cX1_learnFacts 36 = .ok (.goto 4, 3) := by decide +kernel
theorem dX1_learnFacts_39 : decode cX1_learnFacts 39 = .ok (.iconst 0, 1) := by decide +kernel
theorem dX1_learnFacts_40 : decode cX1_learnFacts 40 = .ok (.iastore, 1) := by decide +kernel
theorem dX1_learnFacts_41 : decode cX1_learnFacts 41 = .ok (.aload_n 0, 1) := by decide +kernel
theorem dX1_learnFacts_42 : decode cX1_learnFacts 42 = .ok (.getfield 27, 3) := by decide +kernel
theorem dX1_learnFacts_45 : decode cX1_learnFacts 45 = .ok (.iconst 2, 1) := by decide +kernel
theorem dX1_learnFacts_46 : decode cX1_learnFacts 46 = .ok (.iload_n 2, 1) := by decide +kernel
theorem dX1_learnFacts_47 : decode cX1_learnFacts 47 = .ok (.iastore, 1) := by decide +kernel
theorem dX1_learnFacts_48 : decode cX1_learnFacts 48 = .ok (.aload_n 0, 1) := by decide +kernel
theorem dX1_learnFacts_49 : decode cX1_learnFacts 49 = .ok (.getfield 27, 3) := by decide +kernel
theorem dX1_learnFacts_52 : decode cX1_learnFacts 52 = .ok (.iconst 3, 1) := by decide +kernel
theorem dX1_learnFacts_53 : decode cX1_learnFacts 53 = .ok (.aload_n 1, 1) := by decide +kernel
theorem dX1_learnFacts_54 : decode cX1_learnFacts 54 = .ok (.getfield 80, 3) := by decide +kernel
theorem dX1_learnFacts_57 : decode cX1_learnFacts 57 = .ok (.iastore, 1) := by decide +kernel
theorem dX1_learnFacts_58 : decode cX1_learnFacts 58 = .ok (.aload_n 0, 1) := by decide +kernel
theorem dX1_learnFacts_59 : decode cX1_learnFacts 59 = .ok (.getfield 27, 3) := by decide +kernel
theorem dX1_learnFacts_62 : decode cX1_learnFacts 62 = .ok (.iconst 4, 1) := by decide +kernel
theorem dX1_learnFacts_63 : decode cX1_learnFacts 63 = .ok (.iload_n 2, 1) := by decide +kernel
theorem dX1_learnFacts_64 : decode cX1_learnFacts 64 = .ok (.iconst 2, 1) := by decide +kernel
theorem dX1_learnFacts_65 : decode cX1_learnFacts 65 = .ok (.if_icmp .ge 8, 3) := by decide +kernel
theorem dX1_learnFacts_68 : decode cX1_learnFacts 68 = .ok (.bipush 12, 2) := by decide +kernel
theorem dX1_learnFacts_70 : decode cX1_learnFacts 70 = .ok (.goto 10, 3) := by decide +kernel
theorem dX1_learnFacts_73 : decode cX1_learnFacts 73 = .ok (.aload_n 1, 1) := by decide +kernel
theorem dX1_learnFacts_74 : decode cX1_learnFacts 74 = .ok (.iload_n 2, 1) := by decide +kernel
theorem dX1_learnFacts_75 : decode cX1_learnFacts 75 = .ok (.iconst 2, 1) := by decide +kernel
theorem dX1_learnFacts_76 : decode cX1_learnFacts 76 = .ok (.isub, 1) := by decide +kernel
theorem dX1_learnFacts_77 : decode cX1_learnFacts 77 = .ok (.invokevirtual 63, 3) := by decide +kernel
theorem dX1_learnFacts_80 : decode cX1_learnFacts 80 = .ok (.iastore, 1) := by decide +kernel
theorem dX1_learnFacts_81 : decode cX1_learnFacts 81 = .ok (.aload_n 0, 1) := by decide +kernel
theorem dX1_learnFacts_82 : decode cX1_learnFacts 82 = .ok (.getfield 27, 3) := by decide +kernel
theorem dX1_learnFacts_85 : decode cX1_learnFacts 85 = .ok (.iconst 5, 1) := by decide +kernel
theorem dX1_learnFacts_86 : decode cX1_learnFacts 86 = .ok (.iload_n 3, 1) := by decide +kernel
theorem dX1_learnFacts_87 : decode cX1_learnFacts 87 = .ok (.iastore, 1) := by decide +kernel
theorem dX1_learnFacts_88 : decode cX1_learnFacts 88 = .ok (.aload_n 0, 1) := by decide +kernel
theorem dX1_learnFacts_89 : decode cX1_learnFacts 89 = .ok (.getfield 27, 3) := by decide +kernel
theorem dX1_learnFacts_92 : decode cX1_learnFacts 92 = .ok (.bipush 6, 2) := by decide +kernel
theorem dX1_learnFacts_94 : decode cX1_learnFacts 94 = .ok (.iload 4, 2) := by decide +kernel
theorem dX1_learnFacts_96 : decode cX1_learnFacts 96 = .ok (.iastore, 1) := by decide +kernel
theorem dX1_learnFacts_97 : decode cX1_learnFacts 97 = .ok (.aload_n 0, 1) := by decide +kernel
theorem dX1_learnFacts_98 : decode cX1_learnFacts 98 = .ok (.getfield 27, 3) := by decide +kernel
theorem dX1_learnFacts_101 : decode cX1_learnFacts 101 = .ok (.bipush 7, 2) := by decide +kernel
theorem dX1_learnFacts_103 : decode cX1_learnFacts 103 = .ok (.aload_n 1, 1) := by decide +kernel
theorem dX1_learnFacts_104 : decode cX1_learnFacts 104 = .ok (.getfield 83, 3) := by decide +kernel
theorem dX1_learnFacts_107 : decode cX1_learnFacts 107 = .ok (.iastore, 1) := by decide +kernel
theorem dX1_learnFacts_108 : decode cX1_learnFacts 108 = .ok (.return_, 1) := by decide +kernel
theorem dX1_isMet_0 : decode cX1_isMet 0 = .ok (.iconst 0, 1) := by decide +kernel
theorem dX1_isMet_1 : decode cX1_isMet 1 = .ok (.istore_n 2, 1) := by decide +kernel
theorem dX1_isMet_2 : decode cX1_isMet 2 = .ok (.iload_n 1, 1) := by decide +kernel
theorem dX1_isMet_3 : decode cX1_isMet 3 = .ok (.ifCond .le 14, 3) := by decide +kernel
theorem dX1_isMet_6 : decode cX1_isMet 6 = .ok (.aload_n 0, 1) := by decide +kernel
theorem dX1_isMet_7 : decode cX1_isMet 7 = .ok (.getfield 18, 3) := by decide +kernel
theorem dX1_isMet_10 : decode cX1_isMet 10 = .ok (.iload_n 1, 1) := by decide +kernel
theorem dX1_isMet_11 : decode cX1_isMet 11 = .ok (.iconst 1, 1) := by decide +kernel
theorem dX1_isMet_12 : decode cX1_isMet 12 = .ok (.isub, 1) := by decide +kernel
theorem dX1_isMet_13 : decode cX1_isMet 13 = .ok (.iaload, 1) := by decide +kernel
theorem dX1_isMet_14 : decode cX1_isMet 14 = .ok (.goto 4, 3) := by decide +kernel
theorem dX1_isMet_17 : decode cX1_isMet 17 = .ok (.iconst 0, 1) := by decide +kernel
theorem dX1_isMet_18 : decode cX1_isMet 18 = .ok (.istore_n 3, 1) := by decide +kernel
theorem dX1_isMet_19 : decode cX1_isMet 19 = .ok (.iload_n 3, 1) := by decide +kernel
theorem dX1_isMet_20 : decode cX1_isMet 20 = .ok (.istore 4, 2) := by decide +kernel
theorem dX1_isMet_22 : decode cX1_isMet 22 = .ok (.iload 4, 2) := by decide +kernel
theorem dX1_isMet_24 : decode cX1_isMet 24 = .ok (.aload_n 0, 1) := by decide +kernel
theorem dX1_isMet_25 : decode cX1_isMet 25 = .ok (.getfield 18, 3) := by decide +kernel
theorem dX1_isMet_28 : decode cX1_isMet 28 = .ok (.iload_n 1, 1) := by decide +kernel
theorem dX1_isMet_29 : decode cX1_isMet 29 = .ok (.iaload, 1) := by decide +kernel
theorem dX1_isMet_30 : decode cX1_isMet 30 = .ok (.if_icmp .ge 146, 3) := by decide +kernel
theorem dX1_isMet_33 : decode cX1_isMet 33 = .ok (.iload 4, 2) := by decide +kernel
theorem dX1_isMet_35 : decode cX1_isMet 35 = .ok (.aload_n 0, 1) := by decide +kernel
theorem dX1_isMet_36 : decode cX1_isMet 36 = .ok (.getfield 30, 3) := by decide +kernel
theorem dX1_isMet_39 : decode cX1_isMet 39 = .ok (.if_icmp .ge 137, 3) := by decide +kernel
theorem dX1_isMet_42 : decode cX1_isMet 42 = .ok (.aload_n 0, 1) := by decide +kernel
theorem dX1_isMet_43 : decode cX1_isMet 43 = .ok (.getfield 21, 3) := by decide +kernel
theorem dX1_isMet_46 : decode cX1_isMet 46 = .ok (.iload 4, 2) := by decide +kernel
theorem dX1_isMet_48 : decode cX1_isMet 48 = .ok (.iaload, 1) := by decide +kernel
theorem dX1_isMet_49 : decode cX1_isMet 49 = .ok (.istore 5, 2) := by decide +kernel
theorem dX1_isMet_51 : decode cX1_isMet 51 = .ok (.iload 5, 2) := by decide +kernel
theorem dX1_isMet_53 : decode cX1_isMet 53 = .ok (.sipush 1007, 3) := by decide +kernel
theorem dX1_isMet_56 : decode cX1_isMet 56 = .ok (.if_icmp .gt 46, 3) := by decide +kernel
theorem dX1_isMet_59 : decode cX1_isMet 59 = .ok (.iload_n 2, 1) := by decide +kernel
theorem dX1_isMet_60 : decode cX1_isMet 60 = .ok (.sipush 400, 3) := by decide +kernel
theorem dX1_isMet_63 : decode cX1_isMet 63 = .ok (.if_icmp .ge 39, 3) := by decide +kernel
theorem dX1_isMet_66 : decode cX1_isMet 66 = .ok (.aload_n 0, 1) := by decide +kernel
theorem dX1_isMet_67 : decode cX1_isMet 67 = .ok (.getfield 24, 3) := by decide +kernel
theorem dX1_isMet_70 : decode cX1_isMet 70 = .ok (.iload_n 2, 1) := by decide +kernel
theorem dX1_isMet_71 : decode cX1_isMet 71 = .ok (.iload 5, 2) := by decide +kernel
theorem dX1_isMet_73 : decode cX1_isMet 73 = .ok (.sipush 1000, 3) := by decide +kernel
theorem dX1_isMet_76 : decode cX1_isMet 76 = .ok (.if_icmp .lt 17, 3) := by decide +kernel
theorem dX1_isMet_79 : decode cX1_isMet 79 = .ok (.aload_n 0, 1) := by decide +kernel
theorem dX1_isMet_80 : decode cX1_isMet 80 = .ok (.getfield 27, 3) := by decide +kernel
theorem dX1_isMet_83 : decode cX1_isMet 83 = .ok (.iload 5, 2) := by decide +kernel
theorem dX1_isMet_85 : decode cX1_isMet 85 = .ok (.sipush 1000, 3) := by decide +kernel
theorem dX1_isMet_88 : decode cX1_isMet 88 = .ok (.isub, 1) := by decide +kernel
theorem dX1_isMet_89 : decode cX1_isMet 89 = .ok (.iaload, 1) := by decide +kernel
theorem dX1_isMet_90 : decode cX1_isMet 90 = .ok (.goto 5, 3) := by decide +kernel
theorem dX1_isMet_93 : decode cX1_isMet 93 = .ok (.iload 5, 2) := by decide +kernel
theorem dX1_isMet_95 : decode cX1_isMet 95 = .ok (.iastore, 1) := by decide +kernel
theorem dX1_isMet_96 : decode cX1_isMet 96 = .ok (.iinc 2 1, 3) := by decide +kernel
theorem dX1_isMet_99 : decode cX1_isMet 99 = .ok (.goto 71, 3) := by decide +kernel
theorem dX1_isMet_102 : decode cX1_isMet 102 = .ok (.iload 5, 2) := by decide +kernel
theorem dX1_isMet_104 : decode cX1_isMet 104 = .ok (.sipush 1008, 3) := by decide +kernel
theorem dX1_isMet_107 : decode cX1_isMet 107 = .ok (.if_icmp .ne 28, 3) := by decide +kernel
theorem dX1_isMet_110 : decode cX1_isMet 110 = .ok (.iload_n 2, 1) := by decide +kernel
theorem dX1_isMet_111 : decode cX1_isMet 111 = .ok (.ifCond .le 24, 3) := by decide +kernel
theorem dX1_isMet_114 : decode cX1_isMet 114 = .ok (.aload_n 0, 1) := by decide +kernel
theorem dX1_isMet_115 : decode cX1_isMet 115 = .ok (.getfield 24, 3) := by decide +kernel
theorem dX1_isMet_118 : decode cX1_isMet 118 = .ok (.iload_n 2, 1) := by decide +kernel
theorem dX1_isMet_119 : decode cX1_isMet 119 = .ok (.iconst 1, 1) := by decide +kernel
theorem dX1_isMet_120 : decode cX1_isMet 120 = .ok (.isub, 1) := by decide +kernel
theorem dX1_isMet_121 : decode cX1_isMet 121 = .ok (.iconst 1, 1) := by decide +kernel
theorem dX1_isMet_122 : decode cX1_isMet 122 = .ok (.aload_n 0, 1) := by decide +kernel
theorem dX1_isMet_123 : decode cX1_isMet 123 = .ok (.getfield 24, 3) := by decide +kernel
theorem dX1_isMet_126 : decode cX1_isMet 126 = .ok (.iload_n 2, 1) := by decide +kernel
theorem dX1_isMet_127 : decode cX1_isMet 127 = .ok (.iconst 1, 1) := by decide +kernel
theorem dX1_isMet_128 : decode cX1_isMet 128 = .ok (.isub, 1) := by decide +kernel
theorem dX1_isMet_129 : decode cX1_isMet 129 = .ok (.iaload, 1) := by decide +kernel
theorem dX1_isMet_130 : decode cX1_isMet 130 = .ok (.isub, 1) := by decide +kernel
theorem dX1_isMet_131 : decode cX1_isMet 131 = .ok (.iastore, 1) := by decide +kernel
theorem dX1_isMet_132 : decode cX1_isMet 132 = .ok (.goto 38, 3) := by decide +kernel
theorem dX1_isMet_135 : decode cX1_isMet 135 = .ok (.iload_n 2, 1) := by decide +kernel
theorem dX1_isMet_136 : decode cX1_isMet 136 = .ok (.iconst 1, 1) := by decide +kernel
theorem dX1_isMet_137 : decode cX1_isMet 137 = .ok (.if_icmp .le 33, 3) := by decide +kernel
theorem dX1_isMet_140 : decode cX1_isMet 140 = .ok (.iinc 2 (-1), 3) := by decide +kernel
theorem dX1_isMet_143 : decode cX1_isMet 143 = .ok (.aload_n 0, 1) := by decide +kernel
theorem dX1_isMet_144 : decode cX1_isMet 144 = .ok (.getfield 24, 3) := by decide +kernel
theorem dX1_isMet_147 : decode cX1_isMet 147 = .ok (.iload_n 2, 1) := by decide +kernel
theorem dX1_isMet_148 : decode cX1_isMet 148 = .ok (.iconst 1, 1) := by decide +kernel
theorem dX1_isMet_149 : decode cX1_isMet 149 = .ok (.isub, 1) := by decide +kernel
theorem dX1_isMet_150 : decode cX1_isMet 150 = .ok (.iload 5, 2) := by decide +kernel
theorem dX1_isMet_152 : decode cX1_isMet 152 = .ok (.aload_n 0, 1) := by decide +kernel
theorem dX1_isMet_153 : decode cX1_isMet 153 = .ok (.getfield 24, 3) := by decide +kernel
theorem dX1_isMet_156 : decode cX1_isMet 156 = .ok (.iload_n 2, 1) := by decide +kernel
theorem dX1_isMet_157 : decode cX1_isMet 157 = .ok (.iconst 1, 1) := by decide +kernel
theorem dX1_isMet_158 : decode cX1_isMet 158 = .ok (.isub, 1) := by decide +kernel
theorem dX1_isMet_159 : decode cX1_isMet 159 = .ok (.iaload, 1) := by decide +kernel
theorem dX1_isMet_160 : decode cX1_isMet 160 = .ok (.aload_n 0, 1) := by decide +kernel
theorem dX1_isMet_161 : decode cX1_isMet 161 = .ok (.getfield 24, 3) := by decide +kernel
theorem dX1_isMet_164 : decode cX1_isMet 164 = .ok (.iload_n 2, 1) := by decide +kernel
theorem dX1_isMet_165 : decode cX1_isMet 165 = .ok (.iaload, 1) := by decide +kernel
theorem dX1_isMet_166 : decode cX1_isMet 166 = .ok (.invokestatic 86, 3) := by decide +kernel
theorem dX1_isMet_169 : decode cX1_isMet 169 = .ok (.iastore, 1) := by decide +kernel
theorem dX1_isMet_170 : decode cX1_isMet 170 = .ok (.iinc 4 1, 3) := by decide +kernel
theorem dX1_isMet_173 : decode cX1_isMet 173 = .ok (.goto (-151), 3) := by decide +kernel
theorem dX1_isMet_176 : decode cX1_isMet 176 = .ok (.iload_n 2, 1) := by decide +kernel
theorem dX1_isMet_177 : decode cX1_isMet 177 = .ok (.ifCond .eq 14, 3) := by decide +kernel
theorem dX1_isMet_180 : decode cX1_isMet 180 = .ok (.aload_n 0, 1) := by decide +kernel
theorem dX1_isMet_181 : decode cX1_isMet 181 = .ok (.getfield 24, 3) := by decide +kernel
theorem dX1_isMet_184 : decode cX1_isMet 184 = .ok (.iload_n 2, 1) := by decide +kernel
theorem dX1_isMet_185 : decode cX1_isMet 185 = .ok (.iconst 1, 1) := by decide +kernel
theorem dX1_isMet_186 : decode cX1_isMet 186 = .ok (.isub, 1) := by decide +kernel
theorem dX1_isMet_187 : decode cX1_isMet 187 = .ok (.iaload, 1) := by decide +kernel
theorem dX1_isMet_188 : decode cX1_isMet 188 = .ok (.ifCond .eq 7, 3) := by decide +kernel
theorem dX1_isMet_191 : decode cX1_isMet 191 = .ok (.iconst 1, 1) := by decide +kernel
theorem dX1_isMet_192 : decode cX1_isMet 192 = .ok (.goto 4, 3) := by decide +kernel
theorem dX1_isMet_195 : decode cX1_isMet 195 = .ok (.iconst 0, 1) := by decide +kernel
theorem dX1_isMet_196 : decode cX1_isMet 196 = .ok (.ireturn, 1) := by decide +kernel
theorem dX1_join_0 : decode cX1_join 0 = .ok (.iload_n 0, 1) := by decide +kernel
theorem dX1_join_1 : decode cX1_join 1 = .ok (.lookupswitch 73 #[(1009, 69), (1143, 43), (1160, 47), (1162, 58)], 43) := by decide +kernel
theorem dX1_join_44 : decode cX1_join 44 = .ok (.iload_n 1, 1) := by decide +kernel
theorem dX1_join_45 : decode cX1_join 45 = .ok (.iload_n 2, 1) := by decide +kernel
theorem dX1_join_46 : decode cX1_join 46 = .ok (.iadd, 1) := by decide +kernel
theorem dX1_join_47 : decode cX1_join 47 = .ok (.ireturn, 1) := by decide +kernel
theorem dX1_join_48 : decode cX1_join 48 = .ok (.iload_n 1, 1) := by decide +kernel
theorem dX1_join_49 : decode cX1_join 49 = .ok (.iload_n 2, 1) := by decide +kernel
theorem dX1_join_50 : decode cX1_join 50 = .ok (.if_icmp .ge 7, 3) := by decide +kernel
theorem dX1_join_53 : decode cX1_join 53 = .ok (.iconst 1, 1) := by decide +kernel
theorem dX1_join_54 : decode cX1_join 54 = .ok (.goto 4, 3) := by decide +kernel
theorem dX1_join_57 : decode cX1_join 57 = .ok (.iconst 0, 1) := by decide +kernel
theorem dX1_join_58 : decode cX1_join 58 = .ok (.ireturn, 1) := by decide +kernel
theorem dX1_join_59 : decode cX1_join 59 = .ok (.iload_n 1, 1) := by decide +kernel
theorem dX1_join_60 : decode cX1_join 60 = .ok (.iload_n 2, 1) := by decide +kernel
theorem dX1_join_61 : decode cX1_join 61 = .ok (.if_icmp .le 7, 3) := by decide +kernel
theorem dX1_join_64 : decode cX1_join 64 = .ok (.iconst 1, 1) := by decide +kernel
theorem dX1_join_65 : decode cX1_join 65 = .ok (.goto 4, 3) := by decide +kernel
theorem dX1_join_68 : decode cX1_join 68 = .ok (.iconst 0, 1) := by decide +kernel
theorem dX1_join_69 : decode cX1_join 69 = .ok (.ireturn, 1) := by decide +kernel
theorem dX1_join_70 : decode cX1_join 70 = .ok (.iload_n 1, 1) := by decide +kernel
theorem dX1_join_71 : decode cX1_join 71 = .ok (.iload_n 2, 1) := by decide +kernel
theorem dX1_join_72 : decode cX1_join 72 = .ok (.iand, 1) := by decide +kernel
theorem dX1_join_73 : decode cX1_join 73 = .ok (.ireturn, 1) := by decide +kernel
theorem dX1_join_74 : decode cX1_join 74 = .ok (.iload_n 1, 1) := by decide +kernel
theorem dX1_join_75 : decode cX1_join 75 = .ok (.iload_n 2, 1) := by decide +kernel
theorem dX1_join_76 : decode cX1_join 76 = .ok (.ior, 1) := by decide +kernel
theorem dX1_join_77 : decode cX1_join 77 = .ok (.ireturn, 1) := by decide +kernel
theorem dX2_init_0 : decode cX2_init 0 = .ok (.aload_n 0, 1) := by decide +kernel
theorem dX2_init_1 : decode cX2_init 1 = .ok (.invokespecial 3, 3) := by decide +kernel
theorem dX2_init_4 : decode cX2_init 4 = .ok (.aload_n 0, 1) := by decide +kernel
theorem dX2_init_5 : decode cX2_init 5 = .ok (.new 9, 3) := by decide +kernel
theorem dX2_init_8 : decode cX2_init 8 = .ok (.dup, 1) := by decide +kernel
theorem dX2_init_9 : decode cX2_init 9 = .ok (.invokespecial 11, 3) := by decide +kernel
theorem dX2_init_12 : decode cX2_init 12 = .ok (.putfield 12, 3) := by decide +kernel
theorem dX2_init_15 : decode cX2_init 15 = .ok (.return_, 1) := by decide +kernel
theorem dX2_readLine_0 : decode cX2_readLine 0 = .ok (.aload_n 0, 1) := by decide +kernel
theorem dX2_readLine_1 : decode cX2_readLine 1 = .ok (.getfield 18, 3) := by decide +kernel
theorem dX2_readLine_4 : decode cX2_readLine 4 = .ok (.invokevirtual 22, 3) := by decide +kernel
theorem dX2_readLine_7 : decode cX2_readLine 7 = .ok (.istore_n 1, 1) := by decide +kernel
theorem dX2_readLine_8 : decode cX2_readLine 8 = .ok (.iload_n 1, 1) := by decide +kernel
theorem dX2_readLine_9 : decode cX2_readLine 9 = .ok (.iconst (-1), 1) := by decide +kernel
theorem dX2_readLine_10 : decode cX2_readLine 10 = .ok (.if_icmp .eq 16, 3) := by decide +kernel
theorem dX2_readLine_13 : decode cX2_readLine 13 = .ok (.aload_n 0, 1) := by decide +kernel
theorem dX2_readLine_14 : decode cX2_readLine 14 = .ok (.getfield 18, 3) := by decide +kernel
theorem dX2_readLine_17 : decode cX2_readLine 17 = .ok (.sipush 1011, 3) := by decide +kernel
theorem dX2_readLine_20 : decode cX2_readLine 20 = .ok (.invokevirtual 28, 3) := by decide +kernel
theorem dX2_readLine_23 : decode cX2_readLine 23 = .ok (.ifCond .ne 5, 3) := by decide +kernel
theorem dX2_readLine_26 : decode cX2_readLine 26 = .ok (.iconst 0, 1) := by decide +kernel
theorem dX2_readLine_27 : decode cX2_readLine 27 = .ok (.ireturn, 1) := by decide +kernel
theorem dX2_readLine_28 : decode cX2_readLine 28 = .ok (.aload_n 0, 1) := by decide +kernel
theorem dX2_readLine_29 : decode cX2_readLine 29 = .ok (.getfield 18, 3) := by decide +kernel
theorem dX2_readLine_32 : decode cX2_readLine 32 = .ok (.invokevirtual 22, 3) := by decide +kernel
theorem dX2_readLine_35 : decode cX2_readLine 35 = .ok (.istore_n 2, 1) := by decide +kernel
theorem dX2_readLine_36 : decode cX2_readLine 36 = .ok (.iload_n 2, 1) := by decide +kernel
theorem dX2_readLine_37 : decode cX2_readLine 37 = .ok (.iconst (-1), 1) := by decide +kernel
theorem dX2_readLine_38 : decode cX2_readLine 38 = .ok (.if_icmp .ne 5, 3) := by decide +kernel
theorem dX2_readLine_41 : decode cX2_readLine 41 = .ok (.iconst 0, 1) := by decide +kernel
theorem dX2_readLine_42 : decode cX2_readLine 42 = .ok (.ireturn, 1) := by decide +kernel
theorem dX2_readLine_43 : decode cX2_readLine 43 = .ok (.aload_n 0, 1) := by decide +kernel
theorem dX2_readLine_44 : decode cX2_readLine 44 = .ok (.getfield 18, 3) := by decide +kernel
theorem dX2_readLine_47 : decode cX2_readLine 47 = .ok (.invokevirtual 32, 3) := by decide +kernel
theorem dX2_readLine_50 : decode cX2_readLine 50 = .ok (.sipush 1012, 3) := by decide +kernel
theorem dX2_readLine_53 : decode cX2_readLine 53 = .ok (.if_icmp .ne 20, 3) := by decide +kernel
theorem dX2_readLine_56 : decode cX2_readLine 56 = .ok (.aload_n 0, 1) := by decide +kernel
theorem dX2_readLine_57 : decode cX2_readLine 57 = .ok (.getfield 18, 3) := by decide +kernel
theorem dX2_readLine_60 : decode cX2_readLine 60 = .ok (.invokevirtual 35, 3) := by decide +kernel
theorem dX2_readLine_63 : decode cX2_readLine 63 = .ok (.aload_n 0, 1) := by decide +kernel
theorem dX2_readLine_64 : decode cX2_readLine 64 = .ok (.iconst 0, 1) := by decide +kernel
theorem dX2_readLine_65 : decode cX2_readLine 65 = .ok (.invokevirtual 38, 3) := by decide +kernel
theorem dX2_readLine_68 : decode cX2_readLine 68 = .ok (.ifCond .ne 5, 3) := by decide +kernel
theorem dX2_readLine_71 : decode cX2_readLine 71 = .ok (.iconst 0, 1) := by decide +kernel
theorem dX2_readLine_72 : decode cX2_readLine 72 = .ok (.ireturn, 1) := by decide +kernel
theorem dX2_readLine_73 : decode cX2_readLine 73 = .ok (.aload_n 0, 1) := by decide +kernel
theorem dX2_readLine_74 : decode cX2_readLine 74 = .ok (.getfield 12, 3) := by decide +kernel
theorem dX2_readLine_77 : decode cX2_readLine 77 = .ok (.iload_n 1, 1) := by decide +kernel
theorem dX2_readLine_78 : decode cX2_readLine 78 = .ok (.iload_n 2, 1) := by decide +kernel
theorem dX2_readLine_79 : decode cX2_readLine 79 = .ok (.invokevirtual 41, 3) := by decide +kernel
theorem dX2_readLine_82 : decode cX2_readLine 82 = .ok (.iconst 1, 1) := by decide +kernel
theorem dX2_readLine_83 : decode cX2_readLine 83 = .ok (.ireturn, 1) := by decide +kernel
theorem dX2_readEither_0 : decode cX2_readEither 0 = .ok (.iconst 0, 1) := by decide +kernel
theorem dX2_readEither_1 : decode cX2_readEither 1 = .ok (.istore_n 2, 1) := by decide +kernel
theorem dX2_readEither_2 : decode cX2_readEither 2 = .ok (.iload_n 2, 1) := by decide +kernel
theorem dX2_readEither_3 : decode cX2_readEither 3 = .ok (.sipush 400, 3) := by decide +kernel
theorem dX2_readEither_6 : decode cX2_readEither 6 = .ok (.if_icmp .ge 55, 3) := by decide +kernel
theorem dX2_readEither_9 : decode cX2_readEither 9 = .ok (.aload_n 0, 1) := by decide +kernel
theorem dX2_readEither_10 : decode cX2_readEither 10 = .ok (.iload_n 1, 1) := by decide +kernel
theorem dX2_readEither_11 : decode cX2_readEither 11 = .ok (.invokevirtual 45, 3) := by decide +kernel
theorem dX2_readEither_14 : decode cX2_readEither 14 = .ok (.ifCond .ne 5, 3) := by decide +kernel
theorem dX2_readEither_17 : decode cX2_readEither 17 = .ok (.iconst 0, 1) := by decide +kernel
theorem dX2_readEither_18 : decode cX2_readEither 18 = .ok (.ireturn, 1) := by decide +kernel
theorem dX2_readEither_19 : decode cX2_readEither 19 = .ok (.iload_n 2, 1) := by decide +kernel
theorem dX2_readEither_20 : decode cX2_readEither 20 = .ok (.ifCond .le 13, 3) := by decide +kernel
theorem dX2_readEither_23 : decode cX2_readEither 23 = .ok (.aload_n 0, 1) := by decide +kernel
theorem dX2_readEither_24 : decode cX2_readEither 24 = .ok (.getfield 12, 3) := by decide +kernel
theorem dX2_readEither_27 : decode cX2_readEither 27 = .ok (.sipush 1010, 3) := by decide +kernel
theorem dX2_readEither_30 : decode cX2_readEither 30 = .ok (.invokevirtual 48, 3) := by decide +kernel
theorem dX2_readEither_33 : decode cX2_readEither 33 = .ok (.aload_n 0, 1) := by decide +kernel
theorem dX2_readEither_34 : decode cX2_readEither 34 = .ok (.getfield 18, 3) := by decide +kernel
theorem dX2_readEither_37 : decode cX2_readEither 37 = .ok (.invokevirtual 32, 3) := by decide +kernel
theorem dX2_readEither_40 : decode cX2_readEither 40 = .ok (.sipush 1010, 3) := by decide +kernel
theorem dX2_readEither_43 : decode cX2_readEither 43 = .ok (.if_icmp .eq 5, 3) := by decide +kernel
theorem dX2_readEither_46 : decode cX2_readEither 46 = .ok (.iconst 1, 1) := by decide +kernel
theorem dX2_readEither_47 : decode cX2_readEither 47 = .ok (.ireturn, 1) := by decide +kernel
theorem dX2_readEither_48 : decode cX2_readEither 48 = .ok (.aload_n 0, 1) := by decide +kernel
theorem dX2_readEither_49 : decode cX2_readEither 49 = .ok (.getfield 18, 3) := by decide +kernel
theorem dX2_readEither_52 : decode cX2_readEither 52 = .ok (.invokevirtual 35, 3) := by decide +kernel
theorem dX2_readEither_55 : decode cX2_readEither 55 = .ok (.iinc 2 1, 3) := by decide +kernel
theorem dX2_readEither_58 : decode cX2_readEither 58 = .ok (.goto (-56), 3) := by decide +kernel
theorem dX2_readEither_61 : decode cX2_readEither 61 = .ok (.aload_n 0, 1) := by decide +kernel
theorem dX2_readEither_62 : decode cX2_readEither 62 = .ok (.getfield 18, 3) := by decide +kernel
theorem dX2_readEither_65 : decode cX2_readEither 65 = .ok (.invokevirtual 52, 3) := by decide +kernel
theorem dX2_readEither_68 : decode cX2_readEither 68 = .ok (.ireturn, 1) := by decide +kernel
theorem dX2_readAll_0 : decode cX2_readAll 0 = .ok (.iconst 0, 1) := by decide +kernel
theorem dX2_readAll_1 : decode cX2_readAll 1 = .ok (.istore_n 2, 1) := by decide +kernel
theorem dX2_readAll_2 : decode cX2_readAll 2 = .ok (.iload_n 2, 1) := by decide +kernel
theorem dX2_readAll_3 : decode cX2_readAll 3 = .ok (.sipush 400, 3) := by decide +kernel
theorem dX2_readAll_6 : decode cX2_readAll 6 = .ok (.if_icmp .ge 55, 3) := by decide +kernel
theorem dX2_readAll_9 : decode cX2_readAll 9 = .ok (.aload_n 0, 1) := by decide +kernel
theorem dX2_readAll_10 : decode cX2_readAll 10 = .ok (.iload_n 1, 1) := by decide +kernel
theorem dX2_readAll_11 : decode cX2_readAll 11 = .ok (.invokevirtual 56, 3) := by decide +kernel
theorem dX2_readAll_14 : decode cX2_readAll 14 = .ok (.ifCond .ne 5, 3) := by decide +kernel
theorem dX2_readAll_17 : decode cX2_readAll 17 = .ok (.iconst 0, 1) := by decide +kernel
theorem dX2_readAll_18 : decode cX2_readAll 18 = .ok (.ireturn, 1) := by decide +kernel
theorem dX2_readAll_19 : decode cX2_readAll 19 = .ok (.iload_n 2, 1) := by decide +kernel
theorem dX2_readAll_20 : decode cX2_readAll 20 = .ok (.ifCond .le 13, 3) := by decide +kernel
theorem dX2_readAll_23 : decode cX2_readAll 23 = .ok (.aload_n 0, 1) := by decide +kernel
theorem dX2_readAll_24 : decode cX2_readAll 24 = .ok (.getfield 12, 3) := by decide +kernel
theorem dX2_readAll_27 : decode cX2_readAll 27 = .ok (.sipush 1009, 3) := by decide +kernel
theorem dX2_readAll_30 : decode cX2_readAll 30 = .ok (.invokevirtual 48, 3) := by decide +kernel
theorem dX2_readAll_33 : decode cX2_readAll 33 = .ok (.aload_n 0, 1) := by decide +kernel
theorem dX2_readAll_34 : decode cX2_readAll 34 = .ok (.getfield 18, 3) := by decide +kernel
theorem dX2_readAll_37 : decode cX2_readAll 37 = .ok (.invokevirtual 32, 3) := by decide +kernel
theorem dX2_readAll_40 : decode cX2_readAll 40 = .ok (.sipush 1009, 3) := by decide +kernel
theorem dX2_readAll_43 : decode cX2_readAll 43 = .ok (.if_icmp .eq 5, 3) := by decide +kernel
theorem dX2_readAll_46 : decode cX2_readAll 46 = .ok (.iconst 1, 1) := by decide +kernel
theorem dX2_readAll_47 : decode cX2_readAll 47 = .ok (.ireturn, 1) := by decide +kernel
theorem dX2_readAll_48 : decode cX2_readAll 48 = .ok (.aload_n 0, 1) := by decide +kernel
theorem dX2_readAll_49 : decode cX2_readAll 49 = .ok (.getfield 18, 3) := by decide +kernel
theorem dX2_readAll_52 : decode cX2_readAll 52 = .ok (.invokevirtual 35, 3) := by decide +kernel
theorem dX2_readAll_55 : decode cX2_readAll 55 = .ok (.iinc 2 1, 3) := by decide +kernel
theorem dX2_readAll_58 : decode cX2_readAll 58 = .ok (.goto (-56), 3) := by decide +kernel
theorem dX2_readAll_61 : decode cX2_readAll 61 = .ok (.aload_n 0, 1) := by decide +kernel
theorem dX2_readAll_62 : decode cX2_readAll 62 = .ok (.getfield 18, 3) := by decide +kernel
theorem dX2_readAll_65 : decode cX2_readAll 65 = .ok (.invokevirtual 52, 3) := by decide +kernel
theorem dX2_readAll_68 : decode cX2_readAll 68 = .ok (.ireturn, 1) := by decide +kernel
theorem dX2_readAtom_0 : decode cX2_readAtom 0 = .ok (.aload_n 0, 1) := by decide +kernel
theorem dX2_readAtom_1 : decode cX2_readAtom 1 = .ok (.getfield 18, 3) := by decide +kernel
theorem dX2_readAtom_4 : decode cX2_readAtom 4 = .ok (.invokevirtual 32, 3) := by decide +kernel
theorem dX2_readAtom_7 : decode cX2_readAtom 7 = .ok (.istore_n 2, 1) := by decide +kernel
theorem dX2_readAtom_8 : decode cX2_readAtom 8 = .ok (.iload_n 2, 1) := by decide +kernel
theorem dX2_readAtom_9 : decode cX2_readAtom 9 = .ok (.sipush 1008, 3) := by decide +kernel
theorem dX2_readAtom_12 : decode cX2_readAtom 12 = .ok (.if_icmp .eq 10, 3) := by decide +kernel
theorem dX2_readAtom_15 : decode cX2_readAtom 15 = .ok (.iload_n 2, 1) := by decide +kernel
theorem dX2_readAtom_16 : decode cX2_readAtom 16 = .ok (.sipush 1140, 3) := by decide +kernel
theorem dX2_readAtom_19 : decode cX2_readAtom 19 = .ok (.if_icmp .ne 28, 3) := by decide +kernel
theorem dX2_readAtom_22 : decode cX2_readAtom 22 = .ok (.iload_n 1, 1) := by decide +kernel
theorem dX2_readAtom_23 : decode cX2_readAtom 23 = .ok (.bipush 6, 2) := by decide +kernel
theorem dX2_readAtom_25 : decode cX2_readAtom 25 = .ok (.if_icmp .ge 14, 3) := by decide +kernel
theorem dX2_readAtom_28 : decode cX2_readAtom 28 = .ok (.aload_n 0, 1) := by decide +kernel
theorem dX2_readAtom_29 : decode cX2_readAtom 29 = .ok (.iload_n 2, 1) := by decide +kernel
theorem dX2_readAtom_30 : decode cX2_readAtom 30 = .ok (.iload_n 1, 1) := by decide +kernel
theorem dX2_readAtom_31 : decode cX2_readAtom 31 = .ok (.iconst 1, 1) := by decide +kernel
theorem dX2_readAtom_32 : decode cX2_readAtom 32 = .ok (.iadd, 1) := by decide +kernel
theorem dX2_readAtom_33 : decode cX2_readAtom 33 = .ok (.invokevirtual 59, 3) := by decide +kernel
theorem dX2_readAtom_36 : decode cX2_readAtom 36 = .ok (.goto 10, 3) := by decide +kernel
theorem dX2_readAtom_39 : decode cX2_readAtom 39 = .ok (.aload_n 0, 1) := by decide +kernel
theorem dX2_readAtom_40 : decode cX2_readAtom 40 = .ok (.getfield 18, 3) := by decide +kernel
theorem dX2_readAtom_43 : decode cX2_readAtom 43 = .ok (.invokevirtual 52, 3) := by decide +kernel
theorem dX2_readAtom_46 : decode cX2_readAtom 46 = .ok (.ireturn, 1) := by decide +kernel
theorem dX2_readAtom_47 : decode cX2_readAtom 47 = .ok (.iload_n 2, 1) := by decide +kernel
theorem dX2_readAtom_48 : decode cX2_readAtom 48 = .ok (.sipush 1000, 3) := by decide +kernel
theorem dX2_readAtom_51 : decode cX2_readAtom 51 = .ok (.if_icmp .eq 10, 3) := by decide +kernel
theorem dX2_readAtom_54 : decode cX2_readAtom 54 = .ok (.iload_n 2, 1) := by decide +kernel
theorem dX2_readAtom_55 : decode cX2_readAtom 55 = .ok (.sipush 1001, 3) := by decide +kernel
theorem dX2_readAtom_58 : decode cX2_readAtom 58 = .ok (.if_icmp .ne 20, 3) := by decide +kernel
theorem dX2_readAtom_61 : decode cX2_readAtom 61 = .ok (.aload_n 0, 1) := by decide +kernel
theorem dX2_readAtom_62 : decode cX2_readAtom 62 = .ok (.getfield 12, 3) := by decide +kernel
theorem dX2_readAtom_65 : decode cX2_readAtom 65 = .ok (.iload_n 2, 1) := by decide +kernel
theorem dX2_readAtom_66 : decode cX2_readAtom 66 = .ok (.invokevirtual 48, 3) := by decide +kernel
theorem dX2_readAtom_69 : decode cX2_readAtom 69 = .ok (.aload_n 0, 1) := by decide +kernel
theorem dX2_readAtom_70 : decode cX2_readAtom 70 = .ok (.getfield 18, 3) := by decide +kernel
theorem dX2_readAtom_73 : decode cX2_readAtom 73 = .ok (.invokevirtual 35, 3) := by decide +kernel
theorem dX2_readAtom_76 : decode cX2_readAtom 76 = .ok (.iconst 1, 1) := by decide +kernel
theorem dX2_readAtom_77 : decode cX2_readAtom 77 = .ok (.ireturn, 1) := by decide +kernel
theorem dX2_readAtom_78 : decode cX2_readAtom 78 = .ok (.aload_n 0, 1) := by decide +kernel
theorem dX2_readAtom_79 : decode cX2_readAtom 79 = .ok (.invokevirtual 63, 3) := by decide +kernel
theorem dX2_readAtom_82 : decode cX2_readAtom 82 = .ok (.ifCond .ne 5, 3) := by decide +kernel
theorem dX2_readAtom_85 : decode cX2_readAtom 85 = .ok (.iconst 0, 1) := by decide +kernel
theorem dX2_readAtom_86 : decode cX2_readAtom 86 = .ok (.ireturn, 1) := by decide +kernel
theorem dX2_readAtom_87 : decode cX2_readAtom 87 = .ok (.aload_n 0, 1) := by decide +kernel
theorem dX2_readAtom_88 : decode cX2_readAtom 88 = .ok (.getfield 18, 3) := by decide +kernel
theorem dX2_readAtom_91 : decode cX2_readAtom 91 = .ok (.invokevirtual 32, 3) := by decide +kernel
theorem dX2_readAtom_94 : decode cX2_readAtom 94 = .ok (.istore_n 3, 1) := by decide +kernel
theorem dX2_readAtom_95 : decode cX2_readAtom 95 = .ok (.iload_n 3, 1) := by decide +kernel
theorem dX2_readAtom_96 : decode cX2_readAtom 96 = .ok (.sipush 1160, 3) := by decide +kernel
theorem dX2_readAtom_99 : decode cX2_readAtom 99 = .ok (.if_icmp .eq 18, 3) := by decide +kernel
theorem dX2_readAtom_102 : decode cX2_readAtom 102 = .ok (.iload_n 3, 1) := by decide +kernel
theorem dX2_readAtom_103 : decode cX2_readAtom 103 = .ok (.sipush 1162, 3) := by decide +kernel
theorem dX2_readAtom_106 : decode cX2_readAtom 106 = .ok (.if_icmp .eq 11, 3) := by decide +kernel
theorem dX2_readAtom_109 : decode cX2_readAtom 109 = .ok (.aload_n 0, 1) := by decide +kernel
theorem dX2_readAtom_110 : decode cX2_readAtom 110 = .ok (.getfield 18, 3) := by decide +kernel
theorem dX2_readAtom_113 : decode cX2_readAtom 113 = .ok (.invokevirtual 52, 3) := by decide +kernel
theorem dX2_readAtom_116 : decode cX2_readAtom 116 = .ok (.ireturn, 1) := by decide +kernel
theorem dX2_readAtom_117 : decode cX2_readAtom 117 = .ok (.aload_n 0, 1) := by decide +kernel
theorem dX2_readAtom_118 : decode cX2_readAtom 118 = .ok (.getfield 18, 3) := by decide +kernel
theorem dX2_readAtom_121 : decode cX2_readAtom 121 = .ok (.invokevirtual 35, 3) := by decide +kernel
theorem dX2_readAtom_124 : decode cX2_readAtom 124 = .ok (.aload_n 0, 1) := by decide +kernel
theorem dX2_readAtom_125 : decode cX2_readAtom 125 = .ok (.invokevirtual 63, 3) := by decide +kernel
theorem dX2_readAtom_128 : decode cX2_readAtom 128 = .ok (.ifCond .ne 5, 3) := by decide +kernel
theorem dX2_readAtom_131 : decode cX2_readAtom 131 = .ok (.iconst 0, 1) := by decide +kernel
theorem dX2_readAtom_132 : decode cX2_readAtom 132 = .ok (.ireturn, 1) := by decide +kernel
theorem dX2_readAtom_133 : decode cX2_readAtom 133 = .ok (.aload_n 0, 1) := by decide +kernel
theorem dX2_readAtom_134 : decode cX2_readAtom 134 = .ok (.getfield 12, 3) := by decide +kernel
theorem dX2_readAtom_137 : decode cX2_readAtom 137 = .ok (.iload_n 3, 1) := by decide +kernel
theorem dX2_readAtom_138 : decode cX2_readAtom 138 = .ok (.invokevirtual 48, 3) := by decide +kernel
theorem dX2_readAtom_141 : decode cX2_readAtom 141 = .ok (.iconst 1, 1) := by decide +kernel
theorem dX2_readAtom_142 : decode cX2_readAtom 142 = .ok (.ireturn, 1) := by decide +kernel
theorem dX2_readInner_0 : decode cX2_readInner 0 = .ok (.aload_n 0, 1) := by decide +kernel
theorem dX2_readInner_1 : decode cX2_readInner 1 = .ok (.getfield 18, 3) := by decide +kernel
theorem dX2_readInner_4 : decode cX2_readInner 4 = .ok (.invokevirtual 35, 3) := by decide +kernel
theorem dX2_readInner_7 : decode cX2_readInner 7 = .ok (.iload_n 1, 1) := by decide +kernel
theorem dX2_readInner_8 : decode cX2_readInner 8 = .ok (.sipush 1140, 3) := by decide +kernel
theorem dX2_readInner_11 : decode cX2_readInner 11 = .ok (.if_icmp .ne 30, 3) := by decide +kernel
theorem dX2_readInner_14 : decode cX2_readInner 14 = .ok (.aload_n 0, 1) := by decide +kernel
theorem dX2_readInner_15 : decode cX2_readInner 15 = .ok (.iload_n 2, 1) := by decide +kernel
theorem dX2_readInner_16 : decode cX2_readInner 16 = .ok (.invokevirtual 38, 3) := by decide +kernel
theorem dX2_readInner_19 : decode cX2_readInner 19 = .ok (.ifCond .eq 20, 3) := by decide +kernel
theorem dX2_readInner_22 : decode cX2_readInner 22 = .ok (.aload_n 0, 1) := by decide +kernel
theorem dX2_readInner_23 : decode cX2_readInner 23 = .ok (.getfield 18, 3) := by decide +kernel
theorem dX2_readInner_26 : decode cX2_readInner 26 = .ok (.sipush 1141, 3) := by decide +kernel
theorem dX2_readInner_29 : decode cX2_readInner 29 = .ok (.invokevirtual 28, 3) := by decide +kernel
theorem dX2_readInner_32 : decode cX2_readInner 32 = .ok (.ifCond .eq 7, 3) := by decide +kernel
theorem dX2_readInner_35 : decode cX2_readInner 35 = .ok (.iconst 1, 1) := by decide +kernel
theorem dX2_readInner_36 : decode cX2_readInner 36 = .ok (.goto 4, 3) := by decide +kernel
theorem dX2_readInner_39 : decode cX2_readInner 39 = .ok (.iconst 0, 1) := by decide +kernel
theorem dX2_readInner_40 : decode cX2_readInner 40 = .ok (.ireturn, 1) := by decide +kernel
theorem dX2_readInner_41 : decode cX2_readInner 41 = .ok (.aload_n 0, 1) := by decide +kernel
theorem dX2_readInner_42 : decode cX2_readInner 42 = .ok (.iload_n 2, 1) := by decide +kernel
theorem dX2_readInner_43 : decode cX2_readInner 43 = .ok (.invokevirtual 56, 3) := by decide +kernel
theorem dX2_readInner_46 : decode cX2_readInner 46 = .ok (.ifCond .ne 5, 3) := by decide +kernel
theorem dX2_readInner_49 : decode cX2_readInner 49 = .ok (.iconst 0, 1) := by decide +kernel
theorem dX2_readInner_50 : decode cX2_readInner 50 = .ok (.ireturn, 1) := by decide +kernel
theorem dX2_readInner_51 : decode cX2_readInner 51 = .ok (.aload_n 0, 1) := by decide +kernel
theorem dX2_readInner_52 : decode cX2_readInner 52 = .ok (.getfield 12, 3) := by decide +kernel
theorem dX2_readInner_55 : decode cX2_readInner 55 = .ok (.sipush 1008, 3) := by decide +kernel
theorem dX2_readInner_58 : decode cX2_readInner 58 = .ok (.invokevirtual 48, 3) := by decide +kernel
theorem dX2_readInner_61 : decode cX2_readInner 61 = .ok (.iconst 1, 1) := by decide +kernel
theorem dX2_readInner_62 : decode cX2_readInner 62 = .ok (.ireturn, 1) := by decide +kernel
theorem dX2_readSum_0 : decode cX2_readSum 0 = .ok (.iconst 0, 1) := by decide +kernel
theorem dX2_readSum_1 : decode cX2_readSum 1 = .ok (.istore_n 1, 1) := by decide +kernel
theorem dX2_readSum_2 : decode cX2_readSum 2 = .ok (.iload_n 1, 1) := by decide +kernel
theorem dX2_readSum_3 : decode cX2_readSum 3 = .ok (.sipush 400, 3) := by decide +kernel
theorem dX2_readSum_6 : decode cX2_readSum 6 = .ok (.if_icmp .ge 97, 3) := by decide +kernel
theorem dX2_readSum_9 : decode cX2_readSum 9 = .ok (.aload_n 0, 1) := by decide +kernel
theorem dX2_readSum_10 : decode cX2_readSum 10 = .ok (.getfield 18, 3) := by decide +kernel
theorem dX2_readSum_13 : decode cX2_readSum 13 = .ok (.invokevirtual 32, 3) := by decide +kernel
theorem dX2_readSum_16 : decode cX2_readSum 16 = .ok (.istore_n 2, 1) := by decide +kernel
theorem dX2_readSum_17 : decode cX2_readSum 17 = .ok (.iload_n 2, 1) := by decide +kernel
theorem dX2_readSum_18 : decode cX2_readSum 18 = .ok (.sipush 999, 3) := by decide +kernel
theorem dX2_readSum_21 : decode cX2_readSum 21 = .ok (.if_icmp .le 10, 3) := by decide +kernel
theorem dX2_readSum_24 : decode cX2_readSum 24 = .ok (.iload_n 2, 1) := by decide +kernel
theorem dX2_readSum_25 : decode cX2_readSum 25 = .ok (.sipush 1002, 3) := by decide +kernel
theorem dX2_readSum_28 : decode cX2_readSum 28 = .ok (.if_icmp .lt 10, 3) := by decide +kernel
theorem dX2_readSum_31 : decode cX2_readSum 31 = .ok (.iload_n 2, 1) := by decide +kernel
theorem dX2_readSum_32 : decode cX2_readSum 32 = .ok (.sipush 1007, 3) := by decide +kernel
theorem dX2_readSum_35 : decode cX2_readSum 35 = .ok (.if_icmp .le 11, 3) := by decide +kernel
theorem dX2_readSum_38 : decode cX2_readSum 38 = .ok (.aload_n 0, 1) := by decide +kernel
theorem dX2_readSum_39 : decode cX2_readSum 39 = .ok (.getfield 18, 3) := by decide +kernel
theorem dX2_readSum_42 : decode cX2_readSum 42 = .ok (.invokevirtual 52, 3) := by decide +kernel
theorem dX2_readSum_45 : decode cX2_readSum 45 = .ok (.ireturn, 1) := by decide +kernel
theorem dX2_readSum_46 : decode cX2_readSum 46 = .ok (.aload_n 0, 1) := by decide +kernel
theorem dX2_readSum_47 : decode cX2_readSum 47 = .ok (.getfield 12, 3) := by decide +kernel
theorem dX2_readSum_50 : decode cX2_readSum 50 = .ok (.iload_n 2, 1) := by decide +kernel
theorem dX2_readSum_51 : decode cX2_readSum 51 = .ok (.invokevirtual 48, 3) := by decide +kernel
theorem dX2_readSum_54 : decode cX2_readSum 54 = .ok (.iload_n 1, 1) := by decide +kernel
theorem dX2_readSum_55 : decode cX2_readSum 55 = .ok (.ifCond .le 13, 3) := by decide +kernel
theorem dX2_readSum_58 : decode cX2_readSum 58 = .ok (.aload_n 0, 1) := by decide +kernel
theorem dX2_readSum_59 : decode cX2_readSum 59 = .ok (.getfield 12, 3) := by decide +kernel
theorem dX2_readSum_62 : decode cX2_readSum 62 = .ok (.sipush 1143, 3) := by decide +kernel
theorem dX2_readSum_65 : decode cX2_readSum 65 = .ok (.invokevirtual 48, 3) := by decide +kernel
theorem dX2_readSum_68 : decode cX2_readSum 68 = .ok (.aload_n 0, 1) := by decide +kernel
theorem dX2_readSum_69 : decode cX2_readSum 69 = .ok (.getfield 18, 3) := by decide +kernel
theorem dX2_readSum_72 : decode cX2_readSum 72 = .ok (.invokevirtual 35, 3) := by decide +kernel
theorem dX2_readSum_75 : decode cX2_readSum 75 = .ok (.aload_n 0, 1) := by decide +kernel
theorem dX2_readSum_76 : decode cX2_readSum 76 = .ok (.getfield 18, 3) := by decide +kernel
theorem dX2_readSum_79 : decode cX2_readSum 79 = .ok (.invokevirtual 32, 3) := by decide +kernel
theorem dX2_readSum_82 : decode cX2_readSum 82 = .ok (.sipush 1143, 3) := by decide +kernel
theorem dX2_readSum_85 : decode cX2_readSum 85 = .ok (.if_icmp .eq 5, 3) := by decide +kernel
theorem dX2_readSum_88 : decode cX2_readSum 88 = .ok (.iconst 1, 1) := by decide +kernel
theorem dX2_readSum_89 : decode cX2_readSum 89 = .ok (.ireturn, 1) := by decide +kernel
theorem dX2_readSum_90 : decode cX2_readSum 90 = .ok (.aload_n 0, 1) := by decide +kernel
theorem dX2_readSum_91 : decode cX2_readSum 91 = .ok (.getfield 18, 3) := by decide +kernel
theorem dX2_readSum_94 : decode cX2_readSum 94 = .ok (.invokevirtual 35, 3) := by decide +kernel
theorem dX2_readSum_97 : decode cX2_readSum 97 = .ok (.iinc 1 1, 3) := by decide +kernel
theorem dX2_readSum_100 : decode cX2_readSum 100 = .ok (.goto (-98), 3) := by decide +kernel
theorem dX2_readSum_103 : decode cX2_readSum 103 = .ok (.aload_n 0, 1) := by decide +kernel
theorem dX2_readSum_104 : decode cX2_readSum 104 = .ok (.getfield 18, 3) := by decide +kernel
theorem dX2_readSum_107 : decode cX2_readSum 107 = .ok (.invokevirtual 52, 3) := by decide +kernel
theorem dX2_readSum_110 : decode cX2_readSum 110 = .ok (.ireturn, 1) := by decide +kernel
theorem dX3_init_0 : decode cX3_init 0 = .ok (.aload_n 0, 1) := by decide +kernel
theorem dX3_init_1 : decode cX3_init 1 = .ok (.invokespecial 3, 3) := by decide +kernel
theorem dX3_init_4 : decode cX3_init 4 = .ok (.aload_n 0, 1) := by decide +kernel
theorem dX3_init_5 : decode cX3_init 5 = .ok (.bipush 24, 2) := by decide +kernel
theorem dX3_init_7 : decode cX3_init 7 = .ok (.newarray .int, 2) := by decide +kernel
theorem dX3_init_9 : decode cX3_init 9 = .ok (.putfield 9, 3) := by decide +kernel
theorem dX3_init_12 : decode cX3_init 12 = .ok (.aload_n 0, 1) := by decide +kernel
theorem dX3_init_13 : decode cX3_init 13 = .ok (.bipush 24, 2) := by decide +kernel
theorem dX3_init_15 : decode cX3_init 15 = .ok (.newarray .int, 2) := by decide +kernel
theorem dX3_init_17 : decode cX3_init 17 = .ok (.putfield 15, 3) := by decide +kernel
theorem dX3_init_20 : decode cX3_init 20 = .ok (.return_, 1) := by decide +kernel
theorem dX3_become_0 : decode cX3_become 0 = .ok (.aload_n 1, 1) := by decide +kernel
theorem dX3_become_1 : decode cX3_become 1 = .ok (.getfield 9, 3) := by decide +kernel
theorem dX3_become_4 : decode cX3_become 4 = .ok (.iconst 0, 1) := by decide +kernel
theorem dX3_become_5 : decode cX3_become 5 = .ok (.aload_n 0, 1) := by decide +kernel
theorem dX3_become_6 : decode cX3_become 6 = .ok (.getfield 9, 3) := by decide +kernel
theorem dX3_become_9 : decode cX3_become 9 = .ok (.iconst 0, 1) := by decide +kernel
theorem dX3_become_10 : decode cX3_become 10 = .ok (.bipush 24, 2) := by decide +kernel
theorem dX3_become_12 : decode cX3_become 12 = .ok (.invokestatic 18, 3) := by decide +kernel
theorem dX3_become_15 : decode cX3_become 15 = .ok (.aload_n 1, 1) := by decide +kernel
theorem dX3_become_16 : decode cX3_become 16 = .ok (.getfield 15, 3) := by decide +kernel
theorem dX3_become_19 : decode cX3_become 19 = .ok (.iconst 0, 1) := by decide +kernel
theorem dX3_become_20 : decode cX3_become 20 = .ok (.aload_n 0, 1) := by decide +kernel
theorem dX3_become_21 : decode cX3_become 21 = .ok (.getfield 15, 3) := by decide +kernel
theorem dX3_become_24 : decode cX3_become 24 = .ok (.iconst 0, 1) := by decide +kernel
theorem dX3_become_25 : decode cX3_become 25 = .ok (.bipush 24, 2) := by decide +kernel
theorem dX3_become_27 : decode cX3_become 27 = .ok (.invokestatic 18, 3) := by decide +kernel
theorem dX3_become_30 : decode cX3_become 30 = .ok (.aload_n 0, 1) := by decide +kernel
theorem dX3_become_31 : decode cX3_become 31 = .ok (.aload_n 1, 1) := by decide +kernel
theorem dX3_become_32 : decode cX3_become 32 = .ok (.getfield 24, 3) := by decide +kernel
theorem dX3_become_35 : decode cX3_become 35 = .ok (.putfield 24, 3) := by decide +kernel
theorem dX3_become_38 : decode cX3_become 38 = .ok (.aload_n 0, 1) := by decide +kernel
theorem dX3_become_39 : decode cX3_become 39 = .ok (.aload_n 1, 1) := by decide +kernel
theorem dX3_become_40 : decode cX3_become 40 = .ok (.getfield 28, 3) := by decide +kernel
theorem dX3_become_43 : decode cX3_become 43 = .ok (.putfield 28, 3) := by decide +kernel
theorem dX3_become_46 : decode cX3_become 46 = .ok (.aload_n 0, 1) := by decide +kernel
theorem dX3_become_47 : decode cX3_become 47 = .ok (.aload_n 1, 1) := by decide +kernel
theorem dX3_become_48 : decode cX3_become 48 = .ok (.getfield 31, 3) := by decide +kernel
theorem dX3_become_51 : decode cX3_become 51 = .ok (.putfield 31, 3) := by decide +kernel
theorem dX3_become_54 : decode cX3_become 54 = .ok (.aload_n 0, 1) := by decide +kernel
theorem dX3_become_55 : decode cX3_become 55 = .ok (.aload_n 1, 1) := by decide +kernel
theorem dX3_become_56 : decode cX3_become 56 = .ok (.getfield 34, 3) := by decide +kernel
theorem dX3_become_59 : decode cX3_become 59 = .ok (.putfield 34, 3) := by decide +kernel
theorem dX3_become_62 : decode cX3_become 62 = .ok (.aload_n 0, 1) := by decide +kernel
theorem dX3_become_63 : decode cX3_become 63 = .ok (.aload_n 1, 1) := by decide +kernel
theorem dX3_become_64 : decode cX3_become 64 = .ok (.getfield 38, 3) := by decide +kernel
theorem dX3_become_67 : decode cX3_become 67 = .ok (.putfield 38, 3) := by decide +kernel
theorem dX3_become_70 : decode cX3_become 70 = .ok (.return_, 1) := by decide +kernel
theorem dX3_begin_0 : decode cX3_begin 0 = .ok (.aload_n 0, 1) := by decide +kernel
theorem dX3_begin_1 : decode cX3_begin 1 = .ok (.iconst 0, 1) := by decide +kernel
theorem dX3_begin_2 : decode cX3_begin 2 = .ok (.putfield 24, 3) := by decide +kernel
theorem dX3_begin_5 : decode cX3_begin 5 = .ok (.aload_n 0, 1) := by decide +kernel
theorem dX3_begin_6 : decode cX3_begin 6 = .ok (.iload_n 1, 1) := by decide +kernel
theorem dX3_begin_7 : decode cX3_begin 7 = .ok (.putfield 31, 3) := by decide +kernel
theorem dX3_begin_10 : decode cX3_begin 10 = .ok (.aload_n 0, 1) := by decide +kernel
theorem dX3_begin_11 : decode cX3_begin 11 = .ok (.iload_n 2, 1) := by decide +kernel
theorem dX3_begin_12 : decode cX3_begin 12 = .ok (.putfield 28, 3) := by decide +kernel
theorem dX3_begin_15 : decode cX3_begin 15 = .ok (.aload_n 0, 1) := by decide +kernel
theorem dX3_begin_16 : decode cX3_begin 16 = .ok (.iconst 0, 1) := by decide +kernel
theorem dX3_begin_17 : decode cX3_begin 17 = .ok (.putfield 34, 3) := by decide +kernel
theorem dX3_begin_20 : decode cX3_begin 20 = .ok (.aload_n 0, 1) := by decide +kernel
theorem dX3_begin_21 : decode cX3_begin 21 = .ok (.iconst 0, 1) := by decide +kernel
theorem dX3_begin_22 : decode cX3_begin 22 = .ok (.putfield 38, 3) := by decide +kernel
