theorem dX11_copy_100 : decode cX11_copy 100 = .ok (.getfield 235, 3) := by decide +kernel
theorem dX11_copy_103 : decode cX11_copy 103 = .ok (.iconst 1, 1) := by decide +kernel
theorem dX11_copy_104 : decode cX11_copy 104 = .ok (.isub, 1) := by decide +kernel
theorem dX11_copy_105 : decode cX11_copy 105 = .ok (.ireturn, 1) := by decide +kernel
theorem dX11_prune_0 : decode cX11_prune 0 = .ok (.aload_n 0, 1) := by decide +kernel
theorem dX11_prune_1 : decode cX11_prune 1 = .ok (.iload_n 1, 1) := by decide +kernel
theorem dX11_prune_2 : decode cX11_prune 2 = .ok (.invokevirtual 153, 3) := by decide +kernel
theorem dX11_prune_5 : decode cX11_prune 5 = .ok (.astore_n 3, 1) := by decide +kernel
theorem dX11_prune_6 : decode cX11_prune 6 = .ok (.iload_n 2, 1) := by decide +kernel
theorem dX11_prune_7 : decode cX11_prune 7 = .ok (.iconst 1, 1) := by decide +kernel
theorem dX11_prune_8 : decode cX11_prune 8 = .ok (.if_icmp .lt 11, 3) := by decide +kernel
theorem dX11_prune_11 : decode cX11_prune 11 = .ok (.iload_n 2, 1) := by decide +kernel
theorem dX11_prune_12 : decode cX11_prune 12 = .ok (.aload_n 3, 1) := by decide +kernel
theorem dX11_prune_13 : decode cX11_prune 13 = .ok (.getfield 157, 3) := by decide +kernel
theorem dX11_prune_16 : decode cX11_prune 16 = .ok (.if_icmp .lt 14, 3) := by decide +kernel
theorem dX11_prune_19 : decode cX11_prune 19 = .ok (.new 110, 3) := by decide +kernel
theorem dX11_prune_22 : decode cX11_prune 22 = .ok (.dup, 1) := by decide +kernel
theorem dX11_prune_23 : decode cX11_prune 23 = .ok (.ldc_w 256, 3) := by decide +kernel
theorem dX11_prune_26 : decode cX11_prune 26 = .ok (.invokespecial 114, 3) := by decide +kernel
theorem dX11_prune_29 : decode cX11_prune 29 = .ok (.athrow, 1) := by decide +kernel
theorem dX11_prune_30 : decode cX11_prune 30 = .ok (.aload_n 0, 1) := by decide +kernel
theorem dX11_prune_31 : decode cX11_prune 31 = .ok (.getfield 30, 3) := by decide +kernel
theorem dX11_prune_34 : decode cX11_prune 34 = .ok (.aload_n 0, 1) := by decide +kernel
theorem dX11_prune_35 : decode cX11_prune 35 = .ok (.getfield 20, 3) := by decide +kernel
theorem dX11_prune_38 : decode cX11_prune 38 = .ok (.getfield 182, 3) := by decide +kernel
theorem dX11_prune_41 : decode cX11_prune 41 = .ok (.invokevirtual 238, 3) := by decide +kernel
theorem dX11_prune_44 : decode cX11_prune 44 = .ok (.aload_n 3, 1) := by decide +kernel
theorem dX11_prune_45 : decode cX11_prune 45 = .ok (.iload_n 2, 1) := by decide +kernel
theorem dX11_prune_46 : decode cX11_prune 46 = .ok (.invokevirtual 258, 3) := by decide +kernel
theorem dX11_prune_49 : decode cX11_prune 49 = .ok (.aload_n 3, 1) := by decide +kernel
theorem dX11_prune_50 : decode cX11_prune 50 = .ok (.getfield 157, 3) := by decide +kernel
theorem dX11_prune_53 : decode cX11_prune 53 = .ok (.ireturn, 1) := by decide +kernel
theorem dX11_cut_0 : decode cX11_cut 0 = .ok (.aload_n 0, 1) := by decide +kernel
theorem dX11_cut_1 : decode cX11_cut 1 = .ok (.iload_n 1, 1) := by decide +kernel
theorem dX11_cut_2 : decode cX11_cut 2 = .ok (.invokevirtual 153, 3) := by decide +kernel
theorem dX11_cut_5 : decode cX11_cut 5 = .ok (.astore_n 3, 1) := by decide +kernel
theorem dX11_cut_6 : decode cX11_cut 6 = .ok (.aload_n 3, 1) := by decide +kernel
theorem dX11_cut_7 : decode cX11_cut 7 = .ok (.iload_n 2, 1) := by decide +kernel
theorem dX11_cut_8 : decode cX11_cut 8 = .ok (.invokestatic 197, 3) := by decide +kernel
theorem dX11_cut_11 : decode cX11_cut 11 = .ok (.aload_n 3, 1) := by decide +kernel
theorem dX11_cut_12 : decode cX11_cut 12 = .ok (.getfield 157, 3) := by decide +kernel
theorem dX11_cut_15 : decode cX11_cut 15 = .ok (.iconst 2, 1) := by decide +kernel
theorem dX11_cut_16 : decode cX11_cut 16 = .ok (.if_icmp .ge 14, 3) := by decide +kernel
theorem dX11_cut_19 : decode cX11_cut 19 = .ok (.new 261, 3) := by decide +kernel
theorem dX11_cut_22 : decode cX11_cut 22 = .ok (.dup, 1) := by decide +kernel
theorem dX11_cut_23 : decode cX11_cut 23 = .ok (.ldc_w 263, 3) := by decide +kernel
theorem dX11_cut_26 : decode cX11_cut 26 = .ok (.invokespecial 265, 3) := by decide +kernel
theorem dX11_cut_29 : decode cX11_cut 29 = .ok (.athrow, 1) := by decide +kernel
theorem dX11_cut_30 : decode cX11_cut 30 = .ok (.aload_n 0, 1) := by decide +kernel
theorem dX11_cut_31 : decode cX11_cut 31 = .ok (.getfield 30, 3) := by decide +kernel
theorem dX11_cut_34 : decode cX11_cut 34 = .ok (.aload_n 0, 1) := by decide +kernel
theorem dX11_cut_35 : decode cX11_cut 35 = .ok (.getfield 20, 3) := by decide +kernel
theorem dX11_cut_38 : decode cX11_cut 38 = .ok (.getfield 182, 3) := by decide +kernel
theorem dX11_cut_41 : decode cX11_cut 41 = .ok (.invokevirtual 238, 3) := by decide +kernel
theorem dX11_cut_44 : decode cX11_cut 44 = .ok (.aload_n 3, 1) := by decide +kernel
theorem dX11_cut_45 : decode cX11_cut 45 = .ok (.iload_n 2, 1) := by decide +kernel
theorem dX11_cut_46 : decode cX11_cut 46 = .ok (.invokevirtual 205, 3) := by decide +kernel
theorem dX11_cut_49 : decode cX11_cut 49 = .ok (.istore 4, 2) := by decide +kernel
theorem dX11_cut_51 : decode cX11_cut 51 = .ok (.aload_n 3, 1) := by decide +kernel
theorem dX11_cut_52 : decode cX11_cut 52 = .ok (.iload_n 2, 1) := by decide +kernel
theorem dX11_cut_53 : decode cX11_cut 53 = .ok (.invokevirtual 266, 3) := by decide +kernel
theorem dX11_cut_56 : decode cX11_cut 56 = .ok (.iload 4, 2) := by decide +kernel
theorem dX11_cut_58 : decode cX11_cut 58 = .ok (.ireturn, 1) := by decide +kernel
theorem dX11_heat_0 : decode cX11_heat 0 = .ok (.aload_n 0, 1) := by decide +kernel
theorem dX11_heat_1 : decode cX11_heat 1 = .ok (.iload_n 1, 1) := by decide +kernel
theorem dX11_heat_2 : decode cX11_heat 2 = .ok (.invokevirtual 153, 3) := by decide +kernel
theorem dX11_heat_5 : decode cX11_heat 5 = .ok (.astore_n 3, 1) := by decide +kernel
theorem dX11_heat_6 : decode cX11_heat 6 = .ok (.aload_n 0, 1) := by decide +kernel
theorem dX11_heat_7 : decode cX11_heat 7 = .ok (.getfield 30, 3) := by decide +kernel
theorem dX11_heat_10 : decode cX11_heat 10 = .ok (.aload_n 0, 1) := by decide +kernel
theorem dX11_heat_11 : decode cX11_heat 11 = .ok (.getfield 20, 3) := by decide +kernel
theorem dX11_heat_14 : decode cX11_heat 14 = .ok (.getfield 182, 3) := by decide +kernel
theorem dX11_heat_17 : decode cX11_heat 17 = .ok (.invokevirtual 238, 3) := by decide +kernel
theorem dX11_heat_20 : decode cX11_heat 20 = .ok (.aload_n 3, 1) := by decide +kernel
theorem dX11_heat_21 : decode cX11_heat 21 = .ok (.getfield 171, 3) := by decide +kernel
theorem dX11_heat_24 : decode cX11_heat 24 = .ok (.iload_n 2, 1) := by decide +kernel
theorem dX11_heat_25 : decode cX11_heat 25 = .ok (.if_icmp .eq 7, 3) := by decide +kernel
theorem dX11_heat_28 : decode cX11_heat 28 = .ok (.iconst 1, 1) := by decide +kernel
theorem dX11_heat_29 : decode cX11_heat 29 = .ok (.goto 4, 3) := by decide +kernel
theorem dX11_heat_32 : decode cX11_heat 32 = .ok (.iconst 0, 1) := by decide +kernel
theorem dX11_heat_33 : decode cX11_heat 33 = .ok (.istore 4, 2) := by decide +kernel
theorem dX11_heat_35 : decode cX11_heat 35 = .ok (.aload_n 3, 1) := by decide +kernel
theorem dX11_heat_36 : decode cX11_heat 36 = .ok (.iload_n 2, 1) := by decide +kernel
theorem dX11_heat_37 : decode cX11_heat 37 = .ok (.putfield 171, 3) := by decide +kernel
theorem dX11_heat_40 : decode cX11_heat 40 = .ok (.iload 4, 2) := by decide +kernel
theorem dX11_heat_42 : decode cX11_heat 42 = .ok (.ireturn, 1) := by decide +kernel
theorem dX11_burn_0 : decode cX11_burn 0 = .ok (.aload_n 0, 1) := by decide +kernel
theorem dX11_burn_1 : decode cX11_burn 1 = .ok (.iload_n 1, 1) := by decide +kernel
theorem dX11_burn_2 : decode cX11_burn 2 = .ok (.invokevirtual 269, 3) := by decide +kernel
theorem dX11_burn_5 : decode cX11_burn 5 = .ok (.aload_n 0, 1) := by decide +kernel
theorem dX11_burn_6 : decode cX11_burn 6 = .ok (.getfield 30, 3) := by decide +kernel
theorem dX11_burn_9 : decode cX11_burn 9 = .ok (.aload_n 0, 1) := by decide +kernel
theorem dX11_burn_10 : decode cX11_burn 10 = .ok (.getfield 20, 3) := by decide +kernel
theorem dX11_burn_13 : decode cX11_burn 13 = .ok (.getfield 182, 3) := by decide +kernel
theorem dX11_burn_16 : decode cX11_burn 16 = .ok (.invokevirtual 238, 3) := by decide +kernel
theorem dX11_burn_19 : decode cX11_burn 19 = .ok (.aload_n 0, 1) := by decide +kernel
theorem dX11_burn_20 : decode cX11_burn 20 = .ok (.getfield 20, 3) := by decide +kernel
theorem dX11_burn_23 : decode cX11_burn 23 = .ok (.getfield 182, 3) := by decide +kernel
theorem dX11_burn_26 : decode cX11_burn 26 = .ok (.iload_n 1, 1) := by decide +kernel
theorem dX11_burn_27 : decode cX11_burn 27 = .ok (.invokevirtual 272, 3) := by decide +kernel
theorem dX11_burn_30 : decode cX11_burn 30 = .ok (.aload_n 0, 1) := by decide +kernel
theorem dX11_burn_31 : decode cX11_burn 31 = .ok (.getfield 20, 3) := by decide +kernel
theorem dX11_burn_34 : decode cX11_burn 34 = .ok (.getfield 182, 3) := by decide +kernel
theorem dX11_burn_37 : decode cX11_burn 37 = .ok (.getfield 235, 3) := by decide +kernel
theorem dX11_burn_40 : decode cX11_burn 40 = .ok (.ireturn, 1) := by decide +kernel
theorem dX11_weeks_0 : decode cX11_weeks 0 = .ok (.iload_n 1, 1) := by decide +kernel
theorem dX11_weeks_1 : decode cX11_weeks 1 = .ok (.iconst 1, 1) := by decide +kernel
theorem dX11_weeks_2 : decode cX11_weeks 2 = .ok (.if_icmp .lt 9, 3) := by decide +kernel
theorem dX11_weeks_5 : decode cX11_weeks 5 = .ok (.iload_n 1, 1) := by decide +kernel
theorem dX11_weeks_6 : decode cX11_weeks 6 = .ok (.bipush 60, 2) := by decide +kernel
theorem dX11_weeks_8 : decode cX11_weeks 8 = .ok (.if_icmp .le 14, 3) := by decide +kernel
theorem dX11_weeks_11 : decode cX11_weeks 11 = .ok (.new 110, 3) := by decide +kernel
theorem dX11_weeks_14 : decode cX11_weeks 14 = .ok (.dup, 1) := by decide +kernel
theorem dX11_weeks_15 : decode cX11_weeks 15 = .ok (.ldc_w 273, 3) := by decide +kernel
theorem dX11_weeks_18 : decode cX11_weeks 18 = .ok (.invokespecial 114, 3) := by decide +kernel
theorem dX11_weeks_21 : decode cX11_weeks 21 = .ok (.athrow, 1) := by decide +kernel
theorem dX11_weeks_22 : decode cX11_weeks 22 = .ok (.aload_n 0, 1) := by decide +kernel
theorem dX11_weeks_23 : decode cX11_weeks 23 = .ok (.getfield 30, 3) := by decide +kernel
theorem dX11_weeks_26 : decode cX11_weeks 26 = .ok (.aload_n 0, 1) := by decide +kernel
theorem dX11_weeks_27 : decode cX11_weeks 27 = .ok (.getfield 20, 3) := by decide +kernel
theorem dX11_weeks_30 : decode cX11_weeks 30 = .ok (.getfield 182, 3) := by decide +kernel
theorem dX11_weeks_33 : decode cX11_weeks 33 = .ok (.invokevirtual 238, 3) := by decide +kernel
theorem dX11_weeks_36 : decode cX11_weeks 36 = .ok (.iconst 0, 1) := by decide +kernel
theorem dX11_weeks_37 : decode cX11_weeks 37 = .ok (.istore_n 2, 1) := by decide +kernel
theorem dX11_weeks_38 : decode cX11_weeks 38 = .ok (.iconst 0, 1) := by decide +kernel
theorem dX11_weeks_39 : decode cX11_weeks 39 = .ok (.istore_n 3, 1) := by decide +kernel
theorem dX11_weeks_40 : decode cX11_weeks 40 = .ok (.iload_n 3, 1) := by decide +kernel
theorem dX11_weeks_41 : decode cX11_weeks 41 = .ok (.iload_n 1, 1) := by decide +kernel
theorem dX11_weeks_42 : decode cX11_weeks 42 = .ok (.if_icmp .ge 36, 3) := by decide +kernel
theorem dX11_weeks_45 : decode cX11_weeks 45 = .ok (.iload_n 2, 1) := by decide +kernel
theorem dX11_weeks_46 : decode cX11_weeks 46 = .ok (.aload_n 0, 1) := by decide +kernel
theorem dX11_weeks_47 : decode cX11_weeks 47 = .ok (.getfield 20, 3) := by decide +kernel
theorem dX11_weeks_50 : decode cX11_weeks 50 = .ok (.getfield 182, 3) := by decide +kernel
theorem dX11_weeks_53 : decode cX11_weeks 53 = .ok (.aload_n 0, 1) := by decide +kernel
theorem dX11_weeks_54 : decode cX11_weeks 54 = .ok (.getfield 20, 3) := by decide +kernel
theorem dX11_weeks_57 : decode cX11_weeks 57 = .ok (.getfield 144, 3) := by decide +kernel
theorem dX11_weeks_60 : decode cX11_weeks 60 = .ok (.aload_n 0, 1) := by decide +kernel
theorem dX11_weeks_61 : decode cX11_weeks 61 = .ok (.getfield 20, 3) := by decide +kernel
theorem dX11_weeks_64 : decode cX11_weeks 64 = .ok (.getfield 275, 3) := by decide +kernel
theorem dX11_weeks_67 : decode cX11_weeks 67 = .ok (.invokevirtual 278, 3) := by decide +kernel
theorem dX11_weeks_70 : decode cX11_weeks 70 = .ok (.iadd, 1) := by decide +kernel
theorem dX11_weeks_71 : decode cX11_weeks 71 = .ok (.istore_n 2, 1) := by decide +kernel
theorem dX11_weeks_72 : decode cX11_weeks 72 = .ok (.iinc 3 1, 3) := by decide +kernel
theorem dX11_weeks_75 : decode cX11_weeks 75 = .ok (.goto (-35), 3) := by decide +kernel
theorem dX11_weeks_78 : decode cX11_weeks 78 = .ok (.aload_n 0, 1) := by decide +kernel
theorem dX11_weeks_79 : decode cX11_weeks 79 = .ok (.getfield 20, 3) := by decide +kernel
theorem dX11_weeks_82 : decode cX11_weeks 82 = .ok (.getfield 182, 3) := by decide +kernel
theorem dX11_weeks_85 : decode cX11_weeks 85 = .ok (.dup, 1) := by decide +kernel
theorem dX11_weeks_86 : decode cX11_weeks 86 = .ok (.getfield 282, 3) := by decide +kernel
theorem dX11_weeks_89 : decode cX11_weeks 89 = .ok (.iload_n 2, 1) := by decide +kernel
theorem dX11_weeks_90 : decode cX11_weeks 90 = .ok (.iadd, 1) := by decide +kernel
theorem dX11_weeks_91 : decode cX11_weeks 91 = .ok (.putfield 282, 3) := by decide +kernel
theorem dX11_weeks_94 : decode cX11_weeks 94 = .ok (.iload_n 2, 1) := by decide +kernel
theorem dX11_weeks_95 : decode cX11_weeks 95 = .ok (.ireturn, 1) := by decide +kernel
theorem dX11_ahead_0 : decode cX11_ahead 0 = .ok (.aload_n 0, 1) := by decide +kernel
theorem dX11_ahead_1 : decode cX11_ahead 1 = .ok (.iload_n 1, 1) := by decide +kernel
theorem dX11_ahead_2 : decode cX11_ahead 2 = .ok (.invokevirtual 153, 3) := by decide +kernel
theorem dX11_ahead_5 : decode cX11_ahead 5 = .ok (.astore 4, 2) := by decide +kernel
theorem dX11_ahead_7 : decode cX11_ahead 7 = .ok (.iload_n 2, 1) := by decide +kernel
theorem dX11_ahead_8 : decode cX11_ahead 8 = .ok (.iconst 0, 1) := by decide +kernel
theorem dX11_ahead_9 : decode cX11_ahead 9 = .ok (.invokestatic 285, 3) := by decide +kernel
theorem dX11_ahead_12 : decode cX11_ahead 12 = .ok (.iload_n 3, 1) := by decide +kernel
theorem dX11_ahead_13 : decode cX11_ahead 13 = .ok (.ifCond .lt 8, 3) := by decide +kernel
theorem dX11_ahead_16 : decode cX11_ahead 16 = .ok (.iload_n 3, 1) := by decide +kernel
theorem dX11_ahead_17 : decode cX11_ahead 17 = .ok (.iconst 2, 1) := by decide +kernel
theorem dX11_ahead_18 : decode cX11_ahead 18 = .ok (.if_icmp .le 14, 3) := by decide +kernel
theorem dX11_ahead_21 : decode cX11_ahead 21 = .ok (.new 192, 3) := by decide +kernel
theorem dX11_ahead_24 : decode cX11_ahead 24 = .ok (.dup, 1) := by decide +kernel
theorem dX11_ahead_25 : decode cX11_ahead 25 = .ok (.ldc_w 288, 3) := by decide +kernel
theorem dX11_ahead_28 : decode cX11_ahead 28 = .ok (.invokespecial 196, 3) := by decide +kernel
theorem dX11_ahead_31 : decode cX11_ahead 31 = .ok (.athrow, 1) := by decide +kernel
theorem dX11_ahead_32 : decode cX11_ahead 32 = .ok (.aload_n 0, 1) := by decide +kernel
theorem dX11_ahead_33 : decode cX11_ahead 33 = .ok (.getfield 51, 3) := by decide +kernel
theorem dX11_ahead_36 : decode cX11_ahead 36 = .ok (.aload 4, 2) := by decide +kernel
theorem dX11_ahead_38 : decode cX11_ahead 38 = .ok (.aload_n 0, 1) := by decide +kernel
theorem dX11_ahead_39 : decode cX11_ahead 39 = .ok (.getfield 20, 3) := by decide +kernel
theorem dX11_ahead_42 : decode cX11_ahead 42 = .ok (.getfield 182, 3) := by decide +kernel
theorem dX11_ahead_45 : decode cX11_ahead 45 = .ok (.getfield 185, 3) := by decide +kernel
theorem dX11_ahead_48 : decode cX11_ahead 48 = .ok (.invokevirtual 290, 3) := by decide +kernel
theorem dX11_ahead_51 : decode cX11_ahead 51 = .ok (.aload_n 0, 1) := by decide +kernel
theorem dX11_ahead_52 : decode cX11_ahead 52 = .ok (.getfield 51, 3) := by decide +kernel
theorem dX11_ahead_55 : decode cX11_ahead 55 = .ok (.aload_n 0, 1) := by decide +kernel
theorem dX11_ahead_56 : decode cX11_ahead 56 = .ok (.getfield 20, 3) := by decide +kernel
theorem dX11_ahead_59 : decode cX11_ahead 59 = .ok (.getfield 144, 3) := by decide +kernel
theorem dX11_ahead_62 : decode cX11_ahead 62 = .ok (.iload_n 2, 1) := by decide +kernel
theorem dX11_ahead_63 : decode cX11_ahead 63 = .ok (.invokevirtual 293, 3) := by decide +kernel
theorem dX11_ahead_66 : decode cX11_ahead 66 = .ok (.iload_n 3, 1) := by decide +kernel
theorem dX11_ahead_67 : decode cX11_ahead 67 = .ok (.ifCond .ne 14, 3) := by decide +kernel
theorem dX11_ahead_70 : decode cX11_ahead 70 = .ok (.aload_n 0, 1) := by decide +kernel
theorem dX11_ahead_71 : decode cX11_ahead 71 = .ok (.getfield 51, 3) := by decide +kernel
theorem dX11_ahead_74 : decode cX11_ahead 74 = .ok (.getfield 297, 3) := by decide +kernel
theorem dX11_ahead_77 : decode cX11_ahead 77 = .ok (.invokevirtual 178, 3) := by decide +kernel
theorem dX11_ahead_80 : decode cX11_ahead 80 = .ok (.ireturn, 1) := by decide +kernel
theorem dX11_ahead_81 : decode cX11_ahead 81 = .ok (.iload_n 3, 1) := by decide +kernel
theorem dX11_ahead_82 : decode cX11_ahead 82 = .ok (.iconst 1, 1) := by decide +kernel
theorem dX11_ahead_83 : decode cX11_ahead 83 = .ok (.if_icmp .ne 16, 3) := by decide +kernel
theorem dX11_ahead_86 : decode cX11_ahead 86 = .ok (.aload_n 0, 1) := by decide +kernel
theorem dX11_ahead_87 : decode cX11_ahead 87 = .ok (.getfield 51, 3) := by decide +kernel
theorem dX11_ahead_90 : decode cX11_ahead 90 = .ok (.getfield 297, 3) := by decide +kernel
theorem dX11_ahead_93 : decode cX11_ahead 93 = .ok (.getfield 157, 3) := by decide +kernel
theorem dX11_ahead_96 : decode cX11_ahead 96 = .ok (.goto 17, 3) := by decide +kernel
theorem dX11_ahead_99 : decode cX11_ahead 99 = .ok (.aload_n 0, 1) := by decide +kernel
theorem dX11_ahead_100 : decode cX11_ahead 100 = .ok (.getfield 20, 3) := by decide +kernel
theorem dX11_ahead_103 : decode cX11_ahead 103 = .ok (.aload_n 0, 1) := by decide +kernel
theorem dX11_ahead_104 : decode cX11_ahead 104 = .ok (.getfield 51, 3) := by decide +kernel
theorem dX11_ahead_107 : decode cX11_ahead 107 = .ok (.getfield 297, 3) := by decide +kernel
theorem dX11_ahead_110 : decode cX11_ahead 110 = .ok (.invokevirtual 174, 3) := by decide +kernel
theorem dX11_ahead_113 : decode cX11_ahead 113 = .ok (.ireturn, 1) := by decide +kernel
theorem dX11_says_0 : decode cX11_says 0 = .ok (.aload_n 0, 1) := by decide +kernel
theorem dX11_says_1 : decode cX11_says 1 = .ok (.iload_n 1, 1) := by decide +kernel
theorem dX11_says_2 : decode cX11_says 2 = .ok (.invokevirtual 153, 3) := by decide +kernel
theorem dX11_says_5 : decode cX11_says 5 = .ok (.astore 4, 2) := by decide +kernel
theorem dX11_says_7 : decode cX11_says 7 = .ok (.iload_n 2, 1) := by decide +kernel
theorem dX11_says_8 : decode cX11_says 8 = .ok (.invokestatic 208, 3) := by decide +kernel
theorem dX11_says_11 : decode cX11_says 11 = .ok (.aload_n 0, 1) := by decide +kernel
theorem dX11_says_12 : decode cX11_says 12 = .ok (.getfield 51, 3) := by decide +kernel
theorem dX11_says_15 : decode cX11_says 15 = .ok (.aload 4, 2) := by decide +kernel
theorem dX11_says_17 : decode cX11_says 17 = .ok (.aload_n 0, 1) := by decide +kernel
theorem dX11_says_18 : decode cX11_says 18 = .ok (.getfield 20, 3) := by decide +kernel
theorem dX11_says_21 : decode cX11_says 21 = .ok (.getfield 182, 3) := by decide +kernel
theorem dX11_says_24 : decode cX11_says 24 = .ok (.getfield 185, 3) := by decide +kernel
theorem dX11_says_27 : decode cX11_says 27 = .ok (.invokevirtual 290, 3) := by decide +kernel
theorem dX11_says_30 : decode cX11_says 30 = .ok (.iconst 0, 1) := by decide +kernel
theorem dX11_says_31 : decode cX11_says 31 = .ok (.istore 5, 2) := by decide +kernel
theorem dX11_says_33 : decode cX11_says 33 = .ok (.iload 5, 2) := by decide +kernel
theorem dX11_says_35 : decode cX11_says 35 = .ok (.bipush 40, 2) := by decide +kernel
theorem dX11_says_37 : decode cX11_says 37 = .ok (.if_icmp .gt 70, 3) := by decide +kernel
theorem dX11_says_40 : decode cX11_says 40 = .ok (.iload_n 3, 1) := by decide +kernel
theorem dX11_says_41 : decode cX11_says 41 = .ok (.ifCond .eq 17, 3) := by decide +kernel
theorem dX11_says_44 : decode cX11_says 44 = .ok (.aload_n 0, 1) := by decide +kernel
theorem dX11_says_45 : decode cX11_says 45 = .ok (.getfield 51, 3) := by decide +kernel
theorem dX11_says_48 : decode cX11_says 48 = .ok (.getfield 297, 3) := by decide +kernel
theorem dX11_says_51 : decode cX11_says 51 = .ok (.iload_n 2, 1) := by decide +kernel
theorem dX11_says_52 : decode cX11_says 52 = .ok (.invokevirtual 301, 3) := by decide +kernel
theorem dX11_says_55 : decode cX11_says 55 = .ok (.goto 22, 3) := by decide +kernel
theorem dX11_says_58 : decode cX11_says 58 = .ok (.aload_n 0, 1) := by decide +kernel
theorem dX11_says_59 : decode cX11_says 59 = .ok (.getfield 51, 3) := by decide +kernel
theorem dX11_says_62 : decode cX11_says 62 = .ok (.getfield 297, 3) := by decide +kernel
theorem dX11_says_65 : decode cX11_says 65 = .ok (.invokevirtual 178, 3) := by decide +kernel
theorem dX11_says_68 : decode cX11_says 68 = .ok (.iload_n 2, 1) := by decide +kernel
theorem dX11_says_69 : decode cX11_says 69 = .ok (.if_icmp .ne 7, 3) := by decide +kernel
theorem dX11_says_72 : decode cX11_says 72 = .ok (.iconst 1, 1) := by decide +kernel
theorem dX11_says_73 : decode cX11_says 73 = .ok (.goto 4, 3) := by decide +kernel
theorem dX11_says_76 : decode cX11_says 76 = .ok (.iconst 0, 1) := by decide +kernel
theorem dX11_says_77 : decode cX11_says 77 = .ok (.istore 6, 2) := by decide +kernel
theorem dX11_says_79 : decode cX11_says 79 = .ok (.iload 6, 2) := by decide +kernel
theorem dX11_says_81 : decode cX11_says 81 = .ok (.ifCond .eq 6, 3) := by decide +kernel
theorem dX11_says_84 : decode cX11_says 84 = .ok (.iload 5, 2) := by decide +kernel
theorem dX11_says_86 : decode cX11_says 86 = .ok (.ireturn, 1) := by decide +kernel
theorem dX11_says_87 : decode cX11_says 87 = .ok (.aload_n 0, 1) := by decide +kernel
theorem dX11_says_88 : decode cX11_says 88 = .ok (.getfield 51, 3) := by decide +kernel
theorem dX11_says_91 : decode cX11_says 91 = .ok (.aload_n 0, 1) := by decide +kernel
theorem dX11_says_92 : decode cX11_says 92 = .ok (.getfield 20, 3) := by decide +kernel
theorem dX11_says_95 : decode cX11_says 95 = .ok (.getfield 144, 3) := by decide +kernel
theorem dX11_says_98 : decode cX11_says 98 = .ok (.invokevirtual 304, 3) := by decide +kernel
theorem dX11_says_101 : decode cX11_says 101 = .ok (.iinc 5 1, 3) := by decide +kernel
theorem dX11_says_104 : decode cX11_says 104 = .ok (.goto (-71), 3) := by decide +kernel
theorem dX11_says_107 : decode cX11_says 107 = .ok (.iconst (-1), 1) := by decide +kernel
theorem dX11_says_108 : decode cX11_says 108 = .ok (.ireturn, 1) := by decide +kernel
theorem dX11_stops_0 : decode cX11_stops 0 = .ok (.aload_n 0, 1) := by decide +kernel
theorem dX11_stops_1 : decode cX11_stops 1 = .ok (.iload_n 1, 1) := by decide +kernel
theorem dX11_stops_2 : decode cX11_stops 2 = .ok (.invokevirtual 153, 3) := by decide +kernel
theorem dX11_stops_5 : decode cX11_stops 5 = .ok (.astore_n 2, 1) := by decide +kernel
theorem dX11_stops_6 : decode cX11_stops 6 = .ok (.aload_n 0, 1) := by decide +kernel
theorem dX11_stops_7 : decode cX11_stops 7 = .ok (.getfield 51, 3) := by decide +kernel
theorem dX11_stops_10 : decode cX11_stops 10 = .ok (.aload_n 2, 1) := by decide +kernel
theorem dX11_stops_11 : decode cX11_stops 11 = .ok (.aload_n 0, 1) := by decide +kernel
theorem dX11_stops_12 : decode cX11_stops 12 = .ok (.getfield 20, 3) := by decide +kernel
theorem dX11_stops_15 : decode cX11_stops 15 = .ok (.getfield 182, 3) := by decide +kernel
theorem dX11_stops_18 : decode cX11_stops 18 = .ok (.getfield 185, 3) := by decide +kernel
theorem dX11_stops_21 : decode cX11_stops 21 = .ok (.invokevirtual 290, 3) := by decide +kernel
theorem dX11_stops_24 : decode cX11_stops 24 = .ok (.iconst 0, 1) := by decide +kernel
theorem dX11_stops_25 : decode cX11_stops 25 = .ok (.istore_n 3, 1) := by decide +kernel
theorem dX11_stops_26 : decode cX11_stops 26 = .ok (.iload_n 3, 1) := by decide +kernel
theorem dX11_stops_27 : decode cX11_stops 27 = .ok (.bipush 40, 2) := by decide +kernel
theorem dX11_stops_29 : decode cX11_stops 29 = .ok (.if_icmp .gt 53, 3) := by decide +kernel
theorem dX11_stops_32 : decode cX11_stops 32 = .ok (.aload_n 0, 1) := by decide +kernel
theorem dX11_stops_33 : decode cX11_stops 33 = .ok (.getfield 20, 3) := by decide +kernel
theorem dX11_stops_36 : decode cX11_stops 36 = .ok (.getfield 144, 3) := by decide +kernel
theorem dX11_stops_39 : decode cX11_stops 39 = .ok (.aload_n 0, 1) := by decide +kernel
theorem dX11_stops_40 : decode cX11_stops 40 = .ok (.getfield 51, 3) := by decide +kernel
theorem dX11_stops_43 : decode cX11_stops 43 = .ok (.getfield 297, 3) := by decide +kernel
theorem dX11_stops_46 : decode cX11_stops 46 = .ok (.aload_n 0, 1) := by decide +kernel
theorem dX11_stops_47 : decode cX11_stops 47 = .ok (.getfield 51, 3) := by decide +kernel
theorem dX11_stops_50 : decode cX11_stops 50 = .ok (.getfield 307, 3) := by decide +kernel
theorem dX11_stops_53 : decode cX11_stops 53 = .ok (.invokevirtual 188, 3) := by decide +kernel
theorem dX11_stops_56 : decode cX11_stops 56 = .ok (.iconst (-1), 1) := by decide +kernel
theorem dX11_stops_57 : decode cX11_stops 57 = .ok (.if_icmp .ne 5, 3) := by decide +kernel
theorem dX11_stops_60 : decode cX11_stops 60 = .ok (.iload_n 3, 1) := by decide +kernel
theorem dX11_stops_61 : decode cX11_stops 61 = .ok (.ireturn, 1) := by decide +kernel
theorem dX11_stops_62 : decode cX11_stops 62 = .ok (.aload_n 0, 1) := by decide +kernel
theorem dX11_stops_63 : decode cX11_stops 63 = .ok (.getfield 51, 3) := by decide +kernel
theorem dX11_stops_66 : decode cX11_stops 66 = .ok (.aload_n 0, 1) := by decide +kernel
theorem dX11_stops_67 : decode cX11_stops 67 = .ok (.getfield 20, 3) := by decide +kernel
theorem dX11_stops_70 : decode cX11_stops 70 = .ok (.getfield 144, 3) := by decide +kernel
theorem dX11_stops_73 : decode cX11_stops 73 = .ok (.invokevirtual 304, 3) := by decide +kernel
theorem dX11_stops_76 : decode cX11_stops 76 = .ok (.iinc 3 1, 3) := by decide +kernel
theorem dX11_stops_79 : decode cX11_stops 79 = .ok (.goto (-53), 3) := by decide +kernel
theorem dX11_stops_82 : decode cX11_stops 82 = .ok (.iconst (-1), 1) := by decide +kernel
theorem dX11_stops_83 : decode cX11_stops 83 = .ok (.ireturn, 1) := by decide +kernel
theorem dX11_stays_0 : decode cX11_stays 0 = .ok (.aload_n 0, 1) := by decide +kernel
theorem dX11_stays_1 : decode cX11_stays 1 = .ok (.iload_n 1, 1) := by decide +kernel
theorem dX11_stays_2 : decode cX11_stays 2 = .ok (.invokevirtual 153, 3) := by decide +kernel
theorem dX11_stays_5 : decode cX11_stays 5 = .ok (.astore_n 3, 1) := by decide +kernel
theorem dX11_stays_6 : decode cX11_stays 6 = .ok (.iload_n 2, 1) := by decide +kernel
theorem dX11_stays_7 : decode cX11_stays 7 = .ok (.invokestatic 208, 3) := by decide +kernel
theorem dX11_stays_10 : decode cX11_stays 10 = .ok (.aload_n 0, 1) := by decide +kernel
theorem dX11_stays_11 : decode cX11_stays 11 = .ok (.getfield 51, 3) := by decide +kernel
theorem dX11_stays_14 : decode cX11_stays 14 = .ok (.aload_n 3, 1) := by decide +kernel
theorem dX11_stays_15 : decode cX11_stays 15 = .ok (.aload_n 0, 1) := by decide +kernel
theorem dX11_stays_16 : decode cX11_stays 16 = .ok (.getfield 20, 3) := by decide +kernel
theorem dX11_stays_19 : decode cX11_stays 19 = .ok (.getfield 182, 3) := by decide +kernel
theorem dX11_stays_22 : decode cX11_stays 22 = .ok (.getfield 185, 3) := by decide +kernel
theorem dX11_stays_25 : decode cX11_stays 25 = .ok (.invokevirtual 290, 3) := by decide +kernel
theorem dX11_stays_28 : decode cX11_stays 28 = .ok (.iconst 0, 1) := by decide +kernel
theorem dX11_stays_29 : decode cX11_stays 29 = .ok (.istore 4, 2) := by decide +kernel
theorem dX11_stays_31 : decode cX11_stays 31 = .ok (.iconst 0, 1) := by decide +kernel
theorem dX11_stays_32 : decode cX11_stays 32 = .ok (.istore 5, 2) := by decide +kernel
theorem dX11_stays_34 : decode cX11_stays 34 = .ok (.iload 5, 2) := by decide +kernel
theorem dX11_stays_36 : decode cX11_stays 36 = .ok (.bipush 40, 2) := by decide +kernel
theorem dX11_stays_38 : decode cX11_stays 38 = .ok (.if_icmp .gt 51, 3) := by decide +kernel
theorem dX11_stays_41 : decode cX11_stays 41 = .ok (.aload_n 0, 1) := by decide +kernel
theorem dX11_stays_42 : decode cX11_stays 42 = .ok (.getfield 51, 3) := by decide +kernel
theorem dX11_stays_45 : decode cX11_stays 45 = .ok (.getfield 297, 3) := by decide +kernel
theorem dX11_stays_48 : decode cX11_stays 48 = .ok (.invokevirtual 178, 3) := by decide +kernel
theorem dX11_stays_51 : decode cX11_stays 51 = .ok (.iload_n 2, 1) := by decide +kernel
theorem dX11_stays_52 : decode cX11_stays 52 = .ok (.if_icmp .ne 9, 3) := by decide +kernel
theorem dX11_stays_55 : decode cX11_stays 55 = .ok (.iinc 4 1, 3) := by decide +kernel
theorem dX11_stays_58 : decode cX11_stays 58 = .ok (.goto 11, 3) := by decide +kernel
theorem dX11_stays_61 : decode cX11_stays 61 = .ok (.iload 4, 2) := by decide +kernel
theorem dX11_stays_63 : decode cX11_stays 63 = .ok (.ifCond .le 6, 3) := by decide +kernel
theorem dX11_stays_66 : decode cX11_stays 66 = .ok (.iload 4, 2) := by decide +kernel
theorem dX11_stays_68 : decode cX11_stays 68 = .ok (.ireturn, 1) := by decide +kernel
theorem dX11_stays_69 : decode cX11_stays 69 = .ok (.aload_n 0, 1) := by decide +kernel
theorem dX11_stays_70 : decode cX11_stays 70 = .ok (.getfield 51, 3) := by decide +kernel
theorem dX11_stays_73 : decode cX11_stays 73 = .ok (.aload_n 0, 1) := by decide +kernel
theorem dX11_stays_74 : decode cX11_stays 74 = .ok (.getfield 20, 3) := by decide +kernel
theorem dX11_stays_77 : decode cX11_stays 77 = .ok (.getfield 144, 3) := by decide +kernel
theorem dX11_stays_80 : decode cX11_stays 80 = .ok (.invokevirtual 304, 3) := by decide +kernel
theorem dX11_stays_83 : decode cX11_stays 83 = .ok (.iinc 5 1, 3) := by decide +kernel
theorem dX11_stays_86 : decode cX11_stays 86 = .ok (.goto (-52), 3) := by decide +kernel
theorem dX11_stays_89 : decode cX11_stays 89 = .ok (.iload 4, 2) := by decide +kernel
theorem dX11_stays_91 : decode cX11_stays 91 = .ok (.ireturn, 1) := by decide +kernel
theorem dX11_send_0 : decode cX11_send 0 = .ok (.iload_n 3, 1) := by decide +kernel
theorem dX11_send_1 : decode cX11_send 1 = .ok (.invokestatic 208, 3) := by decide +kernel
theorem dX11_send_4 : decode cX11_send 4 = .ok (.iload_n 1, 1) := by decide +kernel
theorem dX11_send_5 : decode cX11_send 5 = .ok (.invokestatic 308, 3) := by decide +kernel
theorem dX11_send_8 : decode cX11_send 8 = .ok (.iload_n 2, 1) := by decide +kernel
theorem dX11_send_9 : decode cX11_send 9 = .ok (.invokestatic 308, 3) := by decide +kernel
theorem dX11_send_12 : decode cX11_send 12 = .ok (.iload 4, 2) := by decide +kernel
theorem dX11_send_14 : decode cX11_send 14 = .ok (.iconst 0, 1) := by decide +kernel
theorem dX11_send_15 : decode cX11_send 15 = .ok (.invokestatic 285, 3) := by decide +kernel
theorem dX11_send_18 : decode cX11_send 18 = .ok (.iconst 0, 1) := by decide +kernel
theorem dX11_send_19 : decode cX11_send 19 = .ok (.istore 6, 2) := by decide +kernel
theorem dX11_send_21 : decode cX11_send 21 = .ok (.iconst 0, 1) := by decide +kernel
theorem dX11_send_22 : decode cX11_send 22 = .ok (.istore 7, 2) := by decide +kernel
theorem dX11_send_24 : decode cX11_send 24 = .ok (.iload 7, 2) := by decide +kernel
theorem dX11_send_26 : decode cX11_send 26 = .ok (.sipush 156, 3) := by decide +kernel
theorem dX11_send_29 : decode cX11_send 29 = .ok (.if_icmp .ge 71, 3) := by decide +kernel
theorem dX11_send_32 : decode cX11_send 32 = .ok (.aload_n 0, 1) := by decide +kernel
theorem dX11_send_33 : decode cX11_send 33 = .ok (.getfield 51, 3) := by decide +kernel
theorem dX11_send_36 : decode cX11_send 36 = .ok (.iload 7, 2) := by decide +kernel
theorem dX11_send_38 : decode cX11_send 38 = .ok (.iload_n 1, 1) := by decide +kernel
theorem dX11_send_39 : decode cX11_send 39 = .ok (.iload_n 2, 1) := by decide +kernel
theorem dX11_send_40 : decode cX11_send 40 = .ok (.aload_n 0, 1) := by decide +kernel
theorem dX11_send_41 : decode cX11_send 41 = .ok (.getfield 20, 3) := by decide +kernel
theorem dX11_send_44 : decode cX11_send 44 = .ok (.getfield 182, 3) := by decide +kernel
theorem dX11_send_47 : decode cX11_send 47 = .ok (.getfield 185, 3) := by decide +kernel
theorem dX11_send_50 : decode cX11_send 50 = .ok (.invokevirtual 311, 3) := by decide +kernel
theorem dX11_send_53 : decode cX11_send 53 = .ok (.aload_n 0, 1) := by decide +kernel
theorem dX11_send_54 : decode cX11_send 54 = .ok (.getfield 51, 3) := by decide +kernel
theorem dX11_send_57 : decode cX11_send 57 = .ok (.aload_n 0, 1) := by decide +kernel
theorem dX11_send_58 : decode cX11_send 58 = .ok (.getfield 20, 3) := by decide +kernel
theorem dX11_send_61 : decode cX11_send 61 = .ok (.getfield 144, 3) := by decide +kernel
theorem dX11_send_64 : decode cX11_send 64 = .ok (.iload 4, 2) := by decide +kernel
theorem dX11_send_66 : decode cX11_send 66 = .ok (.invokevirtual 293, 3) := by decide +kernel
theorem dX11_send_69 : decode cX11_send 69 = .ok (.aload_n 0, 1) := by decide +kernel
theorem dX11_send_70 : decode cX11_send 70 = .ok (.getfield 51, 3) := by decide +kernel
theorem dX11_send_73 : decode cX11_send 73 = .ok (.getfield 297, 3) := by decide +kernel
theorem dX11_send_76 : decode cX11_send 76 = .ok (.invokevirtual 178, 3) := by decide +kernel
theorem dX11_send_79 : decode cX11_send 79 = .ok (.iload_n 3, 1) := by decide +kernel
theorem dX11_send_80 : decode cX11_send 80 = .ok (.if_icmp .ne 14, 3) := by decide +kernel
theorem dX11_send_83 : decode cX11_send 83 = .ok (.iload 5, 2) := by decide +kernel
theorem dX11_send_85 : decode cX11_send 85 = .ok (.ifCond .ne 6, 3) := by decide +kernel
theorem dX11_send_88 : decode cX11_send 88 = .ok (.iload 7, 2) := by decide +kernel
theorem dX11_send_90 : decode cX11_send 90 = .ok (.ireturn, 1) := by decide +kernel
theorem dX11_send_91 : decode cX11_send 91 = .ok (.iinc 6 1, 3) := by decide +kernel
theorem dX11_send_94 : decode cX11_send 94 = .ok (.iinc 7 1, 3) := by decide +kernel
theorem dX11_send_97 : decode cX11_send 97 = .ok (.goto (-73), 3) := by decide +kernel
theorem dX11_send_100 : decode cX11_send 100 = .ok (.iload 5, 2) := by decide +kernel
theorem dX11_send_102 : decode cX11_send 102 = .ok (.ifCond .eq 8, 3) := by decide +kernel
theorem dX11_send_105 : decode cX11_send 105 = .ok (.iload 6, 2) := by decide +kernel
theorem dX11_send_107 : decode cX11_send 107 = .ok (.goto 4, 3) := by decide +kernel
theorem dX11_send_110 : decode cX11_send 110 = .ok (.iconst (-1), 1) := by decide +kernel
theorem dX11_send_111 : decode cX11_send 111 = .ok (.ireturn, 1) := by decide +kernel
theorem dX11_cuts_0 : decode cX11_cuts 0 = .ok (.aload_n 0, 1) := by decide +kernel
theorem dX11_cuts_1 : decode cX11_cuts 1 = .ok (.iload_n 1, 1) := by decide +kernel
theorem dX11_cuts_2 : decode cX11_cuts 2 = .ok (.invokevirtual 153, 3) := by decide +kernel
theorem dX11_cuts_5 : decode cX11_cuts 5 = .ok (.astore 5, 2) := by decide +kernel
theorem dX11_cuts_7 : decode cX11_cuts 7 = .ok (.iload_n 2, 1) := by decide +kernel
theorem dX11_cuts_8 : decode cX11_cuts 8 = .ok (.invokestatic 208, 3) := by decide +kernel
theorem dX11_cuts_11 : decode cX11_cuts 11 = .ok (.iload_n 3, 1) := by decide +kernel
theorem dX11_cuts_12 : decode cX11_cuts 12 = .ok (.iconst 0, 1) := by decide +kernel
theorem dX11_cuts_13 : decode cX11_cuts 13 = .ok (.invokestatic 285, 3) := by decide +kernel
theorem dX11_cuts_16 : decode cX11_cuts 16 = .ok (.iconst 0, 1) := by decide +kernel
theorem dX11_cuts_17 : decode cX11_cuts 17 = .ok (.istore 6, 2) := by decide +kernel
theorem dX11_cuts_19 : decode cX11_cuts 19 = .ok (.iload 6, 2) := by decide +kernel
theorem dX11_cuts_21 : decode cX11_cuts 21 = .ok (.aload 5, 2) := by decide +kernel
theorem dX11_cuts_23 : decode cX11_cuts 23 = .ok (.getfield 157, 3) := by decide +kernel
theorem dX11_cuts_26 : decode cX11_cuts 26 = .ok (.if_icmp .ge 82, 3) := by decide +kernel
theorem dX11_cuts_29 : decode cX11_cuts 29 = .ok (.aload_n 0, 1) := by decide +kernel
theorem dX11_cuts_30 : decode cX11_cuts 30 = .ok (.getfield 51, 3) := by decide +kernel
theorem dX11_cuts_33 : decode cX11_cuts 33 = .ok (.aload 5, 2) := by decide +kernel
theorem dX11_cuts_35 : decode cX11_cuts 35 = .ok (.aload_n 0, 1) := by decide +kernel
theorem dX11_cuts_36 : decode cX11_cuts 36 = .ok (.getfield 20, 3) := by decide +kernel
theorem dX11_cuts_39 : decode cX11_cuts 39 = .ok (.getfield 182, 3) := by decide +kernel
theorem dX11_cuts_42 : decode cX11_cuts 42 = .ok (.getfield 185, 3) := by decide +kernel
theorem dX11_cuts_45 : decode cX11_cuts 45 = .ok (.invokevirtual 290, 3) := by decide +kernel
theorem dX11_cuts_48 : decode cX11_cuts 48 = .ok (.aload_n 0, 1) := by decide +kernel
theorem dX11_cuts_49 : decode cX11_cuts 49 = .ok (.getfield 51, 3) := by decide +kernel
theorem dX11_cuts_52 : decode cX11_cuts 52 = .ok (.getfield 297, 3) := by decide +kernel
theorem dX11_cuts_55 : decode cX11_cuts 55 = .ok (.iload 6, 2) := by decide +kernel
theorem dX11_cuts_57 : decode cX11_cuts 57 = .ok (.invokevirtual 258, 3) := by decide +kernel
theorem dX11_cuts_60 : decode cX11_cuts 60 = .ok (.aload_n 0, 1) := by decide +kernel
theorem dX11_cuts_61 : decode cX11_cuts 61 = .ok (.getfield 51, 3) := by decide +kernel
theorem dX11_cuts_64 : decode cX11_cuts 64 = .ok (.aload_n 0, 1) := by decide +kernel
theorem dX11_cuts_65 : decode cX11_cuts 65 = .ok (.getfield 20, 3) := by decide +kernel
theorem dX11_cuts_68 : decode cX11_cuts 68 = .ok (.getfield 144, 3) := by decide +kernel
theorem dX11_cuts_71 : decode cX11_cuts 71 = .ok (.iload_n 3, 1) := by decide +kernel
theorem dX11_cuts_72 : decode cX11_cuts 72 = .ok (.invokevirtual 293, 3) := by decide +kernel
theorem dX11_cuts_75 : decode cX11_cuts 75 = .ok (.aload_n 0, 1) := by decide +kernel
theorem dX11_cuts_76 : decode cX11_cuts 76 = .ok (.getfield 51, 3) := by decide +kernel
theorem dX11_cuts_79 : decode cX11_cuts 79 = .ok (.getfield 297, 3) := by decide +kernel
theorem dX11_cuts_82 : decode cX11_cuts 82 = .ok (.invokevirtual 178, 3) := by decide +kernel
theorem dX11_cuts_85 : decode cX11_cuts 85 = .ok (.iload_n 2, 1) := by decide +kernel
theorem dX11_cuts_86 : decode cX11_cuts 86 = .ok (.if_icmp .ne 7, 3) := by decide +kernel
theorem dX11_cuts_89 : decode cX11_cuts 89 = .ok (.iconst 1, 1) := by decide +kernel
theorem dX11_cuts_90 : decode cX11_cuts 90 = .ok (.goto 4, 3) := by decide +kernel
theorem dX11_cuts_93 : decode cX11_cuts 93 = .ok (.iconst 0, 1) := by decide +kernel
theorem dX11_cuts_94 : decode cX11_cuts 94 = .ok (.iload 4, 2) := by decide +kernel
theorem dX11_cuts_96 : decode cX11_cuts 96 = .ok (.if_icmp .eq 6, 3) := by decide +kernel
theorem dX11_cuts_99 : decode cX11_cuts 99 = .ok (.iload 6, 2) := by decide +kernel
theorem dX11_cuts_101 : decode cX11_cuts 101 = .ok (.ireturn, 1) := by decide +kernel
theorem dX11_cuts_102 : decode cX11_cuts 102 = .ok (.iinc 6 1, 3) := by decide +kernel
theorem dX11_cuts_105 : decode cX11_cuts 105 = .ok (.goto (-86), 3) := by decide +kernel
theorem dX11_cuts_108 : decode cX11_cuts 108 = .ok (.iconst (-1), 1) := by decide +kernel
theorem dX11_cuts_109 : decode cX11_cuts 109 = .ok (.ireturn, 1) := by decide +kernel
theorem dX11_out_0 : decode cX11_out 0 = .ok (.aload_n 0, 1) := by decide +kernel
theorem dX11_out_1 : decode cX11_out 1 = .ok (.iload_n 1, 1) := by decide +kernel
theorem dX11_out_2 : decode cX11_out 2 = .ok (.invokevirtual 153, 3) := by decide +kernel
theorem dX11_out_5 : decode cX11_out 5 = .ok (.astore 5, 2) := by decide +kernel
theorem dX11_out_7 : decode cX11_out 7 = .ok (.iload_n 2, 1) := by decide +kernel
theorem dX11_out_8 : decode cX11_out 8 = .ok (.invokestatic 208, 3) := by decide +kernel
theorem dX11_out_11 : decode cX11_out 11 = .ok (.iload_n 3, 1) := by decide +kernel
theorem dX11_out_12 : decode cX11_out 12 = .ok (.iconst 0, 1) := by decide +kernel
theorem dX11_out_13 : decode cX11_out 13 = .ok (.invokestatic 285, 3) := by decide +kernel
theorem dX11_out_16 : decode cX11_out 16 = .ok (.iconst 0, 1) := by decide +kernel
theorem dX11_out_17 : decode cX11_out 17 = .ok (.istore 6, 2) := by decide +kernel
theorem dX11_out_19 : decode cX11_out 19 = .ok (.iconst 0, 1) := by decide +kernel
theorem dX11_out_20 : decode cX11_out 20 = .ok (.istore 7, 2) := by decide +kernel
theorem dX11_out_22 : decode cX11_out 22 = .ok (.iload 7, 2) := by decide +kernel
theorem dX11_out_24 : decode cX11_out 24 = .ok (.aload 5, 2) := by decide +kernel
theorem dX11_out_26 : decode cX11_out 26 = .ok (.getfield 157, 3) := by decide +kernel
theorem dX11_out_29 : decode cX11_out 29 = .ok (.if_icmp .ge 97, 3) := by decide +kernel
theorem dX11_out_32 : decode cX11_out 32 = .ok (.aload 5, 2) := by decide +kernel
theorem dX11_out_34 : decode cX11_out 34 = .ok (.getfield 157, 3) := by decide +kernel
theorem dX11_out_37 : decode cX11_out 37 = .ok (.iconst 1, 1) := by decide +kernel
theorem dX11_out_38 : decode cX11_out 38 = .ok (.if_icmp .le 88, 3) := by decide +kernel
theorem dX11_out_41 : decode cX11_out 41 = .ok (.aload_n 0, 1) := by decide +kernel
theorem dX11_out_42 : decode cX11_out 42 = .ok (.getfield 51, 3) := by decide +kernel
theorem dX11_out_45 : decode cX11_out 45 = .ok (.aload 5, 2) := by decide +kernel
theorem dX11_out_47 : decode cX11_out 47 = .ok (.aload_n 0, 1) := by decide +kernel
theorem dX11_out_48 : decode cX11_out 48 = .ok (.getfield 20, 3) := by decide +kernel
theorem dX11_out_51 : decode cX11_out 51 = .ok (.getfield 182, 3) := by decide +kernel
theorem dX11_out_54 : decode cX11_out 54 = .ok (.getfield 185, 3) := by decide +kernel
theorem dX11_out_57 : decode cX11_out 57 = .ok (.invokevirtual 290, 3) := by decide +kernel
theorem dX11_out_60 : decode cX11_out 60 = .ok (.aload_n 0, 1) := by decide +kernel
theorem dX11_out_61 : decode cX11_out 61 = .ok (.getfield 51, 3) := by decide +kernel
theorem dX11_out_64 : decode cX11_out 64 = .ok (.getfield 297, 3) := by decide +kernel
theorem dX11_out_67 : decode cX11_out 67 = .ok (.iload 7, 2) := by decide +kernel
theorem dX11_out_69 : decode cX11_out 69 = .ok (.invokevirtual 266, 3) := by decide +kernel
theorem dX11_out_72 : decode cX11_out 72 = .ok (.aload_n 0, 1) := by decide +kernel
theorem dX11_out_73 : decode cX11_out 73 = .ok (.getfield 51, 3) := by decide +kernel
theorem dX11_out_76 : decode cX11_out 76 = .ok (.aload_n 0, 1) := by decide +kernel
theorem dX11_out_77 : decode cX11_out 77 = .ok (.getfield 20, 3) := by decide +kernel
theorem dX11_out_80 : decode cX11_out 80 = .ok (.getfield 144, 3) := by decide +kernel
theorem dX11_out_83 : decode cX11_out 83 = .ok (.iload_n 3, 1) := by decide +kernel
theorem dX11_out_84 : decode cX11_out 84 = .ok (.invokevirtual 293, 3) := by decide +kernel
theorem dX11_out_87 : decode cX11_out 87 = .ok (.aload_n 0, 1) := by decide +kernel
theorem dX11_out_88 : decode cX11_out 88 = .ok (.getfield 51, 3) := by decide +kernel
theorem dX11_out_91 : decode cX11_out 91 = .ok (.getfield 297, 3) := by decide +kernel
theorem dX11_out_94 : decode cX11_out 94 = .ok (.invokevirtual 178, 3) := by decide +kernel
theorem dX11_out_97 : decode cX11_out 97 = .ok (.iload_n 2, 1) := by decide +kernel
theorem dX11_out_98 : decode cX11_out 98 = .ok (.if_icmp .ne 7, 3) := by decide +kernel
theorem dX11_out_101 : decode cX11_out 101 = .ok (.iconst 1, 1) := by decide +kernel
theorem dX11_out_102 : decode cX11_out 102 = .ok (.goto 4, 3) := by decide +kernel
theorem dX11_out_105 : decode cX11_out 105 = .ok (.iconst 0, 1) := by decide +kernel
theorem dX11_out_106 : decode cX11_out 106 = .ok (.iload 4, 2) := by decide +kernel
theorem dX11_out_108 : decode cX11_out 108 = .ok (.if_icmp .eq 12, 3) := by decide +kernel
theorem dX11_out_111 : decode cX11_out 111 = .ok (.iload 6, 2) := by decide +kernel
theorem dX11_out_113 : decode cX11_out 113 = .ok (.iconst 1, 1) := by decide +kernel
theorem dX11_out_114 : decode cX11_out 114 = .ok (.iload 7, 2) := by decide +kernel
theorem dX11_out_116 : decode cX11_out 116 = .ok (.ishl, 1) := by decide +kernel
theorem dX11_out_117 : decode cX11_out 117 = .ok (.ior, 1) := by decide +kernel
theorem dX11_out_118 : decode cX11_out 118 = .ok (.istore 6, 2) := by decide +kernel
theorem dX11_out_120 : decode cX11_out 120 = .ok (.iinc 7 1, 3) := by decide +kernel
theorem dX11_out_123 : decode cX11_out 123 = .ok (.goto (-101), 3) := by decide +kernel
theorem dX11_out_126 : decode cX11_out 126 = .ok (.iload 6, 2) := by decide +kernel
theorem dX11_out_128 : decode cX11_out 128 = .ok (.ireturn, 1) := by decide +kernel
theorem dX11_astray_0 : decode cX11_astray 0 = .ok (.aload_n 0, 1) := by decide +kernel
theorem dX11_astray_1 : decode cX11_astray 1 = .ok (.getfield 20, 3) := by decide +kernel
theorem dX11_astray_4 : decode cX11_astray 4 = .ok (.getfield 144, 3) := by decide +kernel
theorem dX11_astray_7 : decode cX11_astray 7 = .ok (.aload_n 0, 1) := by decide +kernel
theorem dX11_astray_8 : decode cX11_astray 8 = .ok (.iload_n 1, 1) := by decide +kernel
theorem dX11_astray_9 : decode cX11_astray 9 = .ok (.invokevirtual 153, 3) := by decide +kernel
theorem dX11_astray_12 : decode cX11_astray 12 = .ok (.invokevirtual 315, 3) := by decide +kernel
theorem dX11_astray_15 : decode cX11_astray 15 = .ok (.ireturn, 1) := by decide +kernel
theorem dX11_written_0 : decode cX11_written 0 = .ok (.aload_n 0, 1) := by decide +kernel
theorem dX11_written_1 : decode cX11_written 1 = .ok (.getfield 20, 3) := by decide +kernel
theorem dX11_written_4 : decode cX11_written 4 = .ok (.getfield 144, 3) := by decide +kernel
theorem dX11_written_7 : decode cX11_written 7 = .ok (.aload_n 0, 1) := by decide +kernel
theorem dX11_written_8 : decode cX11_written 8 = .ok (.iload_n 1, 1) := by decide +kernel
theorem dX11_written_9 : decode cX11_written 9 = .ok (.invokevirtual 153, 3) := by decide +kernel
theorem dX11_written_12 : decode cX11_written 12 = .ok (.invokevirtual 315, 3) := by decide +kernel
theorem dX11_written_15 : decode cX11_written 15 = .ok (.istore_n 2, 1) := by decide +kernel
theorem dX11_written_16 : decode cX11_written 16 = .ok (.bipush 23, 2) := by decide +kernel
theorem dX11_written_18 : decode cX11_written 18 = .ok (.istore_n 3, 1) := by decide +kernel
theorem dX11_written_19 : decode cX11_written 19 = .ok (.iload_n 3, 1) := by decide +kernel
theorem dX11_written_20 : decode cX11_written 20 = .ok (.ifCond .le 22, 3) := by decide +kernel
theorem dX11_written_23 : decode cX11_written 23 = .ok (.iload_n 2, 1) := by decide +kernel
theorem dX11_written_24 : decode cX11_written 24 = .ok (.iload_n 3, 1) := by decide +kernel
theorem dX11_written_25 : decode cX11_written 25 = .ok (.ishr, 1) := by decide +kernel
theorem dX11_written_26 : decode cX11_written 26 = .ok (.iconst 1, 1) := by decide +kernel
theorem dX11_written_27 : decode cX11_written 27 = .ok (.iand, 1) := by decide +kernel
theorem dX11_written_28 : decode cX11_written 28 = .ok (.iconst 1, 1) := by decide +kernel
theorem dX11_written_29 : decode cX11_written 29 = .ok (.if_icmp .ne 7, 3) := by decide +kernel
theorem dX11_written_32 : decode cX11_written 32 = .ok (.iload_n 3, 1) := by decide +kernel
theorem dX11_written_33 : decode cX11_written 33 = .ok (.iconst 1, 1) := by decide +kernel
theorem dX11_written_34 : decode cX11_written 34 = .ok (.iadd, 1) := by decide +kernel
theorem dX11_written_35 : decode cX11_written 35 = .ok (.ireturn, 1) := by decide +kernel
theorem dX11_written_36 : decode cX11_written 36 = .ok (.iinc 3 (-1), 3) := by decide +kernel
theorem dX11_written_39 : decode cX11_written 39 = .ok (.goto (-20), 3) := by decide +kernel
theorem dX11_written_42 : decode cX11_written 42 = .ok (.iconst 1, 1) := by decide +kernel
theorem dX11_written_43 : decode cX11_written 43 = .ok (.ireturn, 1) := by decide +kernel
theorem dX11_senseless_0 : decode cX11_senseless 0 = .ok (.aload_n 0, 1) := by decide +kernel
theorem dX11_senseless_1 : decode cX11_senseless 1 = .ok (.iload_n 1, 1) := by decide +kernel
theorem dX11_senseless_2 : decode cX11_senseless 2 = .ok (.invokevirtual 153, 3) := by decide +kernel
theorem dX11_senseless_5 : decode cX11_senseless 5 = .ok (.astore_n 2, 1) := by decide +kernel
theorem dX11_senseless_6 : decode cX11_senseless 6 = .ok (.iconst 1, 1) := by decide +kernel
theorem dX11_senseless_7 : decode cX11_senseless 7 = .ok (.istore_n 3, 1) := by decide +kernel
theorem dX11_senseless_8 : decode cX11_senseless 8 = .ok (.iload_n 3, 1) := by decide +kernel
theorem dX11_senseless_9 : decode cX11_senseless 9 = .ok (.aload_n 2, 1) := by decide +kernel
theorem dX11_senseless_10 : decode cX11_senseless 10 = .ok (.getfield 157, 3) := by decide +kernel
theorem dX11_senseless_13 : decode cX11_senseless 13 = .ok (.if_icmp .ge 36, 3) := by decide +kernel
theorem dX11_senseless_16 : decode cX11_senseless 16 = .ok (.aload_n 0, 1) := by decide +kernel
theorem dX11_senseless_17 : decode cX11_senseless 17 = .ok (.getfield 20, 3) := by decide +kernel
theorem dX11_senseless_20 : decode cX11_senseless 20 = .ok (.getfield 144, 3) := by decide +kernel
theorem dX11_senseless_23 : decode cX11_senseless 23 = .ok (.aload_n 2, 1) := by decide +kernel
theorem dX11_senseless_24 : decode cX11_senseless 24 = .ok (.iload_n 3, 1) := by decide +kernel
theorem dX11_senseless_25 : decode cX11_senseless 25 = .ok (.iconst 1, 1) := by decide +kernel
theorem dX11_senseless_26 : decode cX11_senseless 26 = .ok (.isub, 1) := by decide +kernel
theorem dX11_senseless_27 : decode cX11_senseless 27 = .ok (.invokevirtual 205, 3) := by decide +kernel
theorem dX11_senseless_30 : decode cX11_senseless 30 = .ok (.aload_n 2, 1) := by decide +kernel
theorem dX11_senseless_31 : decode cX11_senseless 31 = .ok (.iload_n 3, 1) := by decide +kernel
theorem dX11_senseless_32 : decode cX11_senseless 32 = .ok (.invokevirtual 205, 3) := by decide +kernel
theorem dX11_senseless_35 : decode cX11_senseless 35 = .ok (.invokevirtual 318, 3) := by decide +kernel
theorem dX11_senseless_38 : decode cX11_senseless 38 = .ok (.ifCond .ne 5, 3) := by decide +kernel
theorem dX11_senseless_41 : decode cX11_senseless 41 = .ok (.iload_n 3, 1) := by decide +kernel
theorem dX11_senseless_42 : decode cX11_senseless 42 = .ok (.ireturn, 1) := by decide +kernel
theorem dX11_senseless_43 : decode cX11_senseless 43 = .ok (.iinc 3 1, 3) := by decide +kernel
theorem dX11_senseless_46 : decode cX11_senseless 46 = .ok (.goto (-38), 3) := by decide +kernel
theorem dX11_senseless_49 : decode cX11_senseless 49 = .ok (.iconst (-1), 1) := by decide +kernel
theorem dX11_senseless_50 : decode cX11_senseless 50 = .ok (.ireturn, 1) := by decide +kernel
theorem dX11_meet_0 : decode cX11_meet 0 = .ok (.aload_n 0, 1) := by decide +kernel
theorem dX11_meet_1 : decode cX11_meet 1 = .ok (.iload_n 1, 1) := by decide +kernel
theorem dX11_meet_2 : decode cX11_meet 2 = .ok (.invokevirtual 153, 3) := by decide +kernel
theorem dX11_meet_5 : decode cX11_meet 5 = .ok (.astore 4, 2) := by decide +kernel
theorem dX11_meet_7 : decode cX11_meet 7 = .ok (.aload_n 0, 1) := by decide +kernel
theorem dX11_meet_8 : decode cX11_meet 8 = .ok (.iload_n 2, 1) := by decide +kernel
theorem dX11_meet_9 : decode cX11_meet 9 = .ok (.invokevirtual 153, 3) := by decide +kernel
theorem dX11_meet_12 : decode cX11_meet 12 = .ok (.astore 5, 2) := by decide +kernel
theorem dX11_meet_14 : decode cX11_meet 14 = .ok (.iload_n 1, 1) := by decide +kernel
theorem dX11_meet_15 : decode cX11_meet 15 = .ok (.iload_n 2, 1) := by decide +kernel
theorem dX11_meet_16 : decode cX11_meet 16 = .ok (.invokestatic 322, 3) := by decide +kernel
theorem dX11_meet_19 : decode cX11_meet 19 = .ok (.aload_n 0, 1) := by decide +kernel
theorem dX11_meet_20 : decode cX11_meet 20 = .ok (.getfield 51, 3) := by decide +kernel
theorem dX11_meet_23 : decode cX11_meet 23 = .ok (.aload 4, 2) := by decide +kernel
theorem dX11_meet_25 : decode cX11_meet 25 = .ok (.aload_n 0, 1) := by decide +kernel
theorem dX11_meet_26 : decode cX11_meet 26 = .ok (.getfield 20, 3) := by decide +kernel
theorem dX11_meet_29 : decode cX11_meet 29 = .ok (.getfield 182, 3) := by decide +kernel
theorem dX11_meet_32 : decode cX11_meet 32 = .ok (.getfield 185, 3) := by decide +kernel
theorem dX11_meet_35 : decode cX11_meet 35 = .ok (.invokevirtual 290, 3) := by decide +kernel
theorem dX11_meet_38 : decode cX11_meet 38 = .ok (.aload_n 0, 1) := by decide +kernel
theorem dX11_meet_39 : decode cX11_meet 39 = .ok (.getfield 55, 3) := by decide +kernel
theorem dX11_meet_42 : decode cX11_meet 42 = .ok (.aload 5, 2) := by decide +kernel
theorem dX11_meet_44 : decode cX11_meet 44 = .ok (.aload_n 0, 1) := by decide +kernel
theorem dX11_meet_45 : decode cX11_meet 45 = .ok (.getfield 20, 3) := by decide +kernel
theorem dX11_meet_48 : decode cX11_meet 48 = .ok (.getfield 182, 3) := by decide +kernel
theorem dX11_meet_51 : decode cX11_meet 51 = .ok (.getfield 185, 3) := by decide +kernel
theorem dX11_meet_54 : decode cX11_meet 54 = .ok (.invokevirtual 290, 3) := by decide +kernel
theorem dX11_meet_57 : decode cX11_meet 57 = .ok (.iconst 0, 1) := by decide +kernel
theorem dX11_meet_58 : decode cX11_meet 58 = .ok (.istore 6, 2) := by decide +kernel
theorem dX11_meet_60 : decode cX11_meet 60 = .ok (.iload 6, 2) := by decide +kernel
theorem dX11_meet_62 : decode cX11_meet 62 = .ok (.bipush 40, 2) := by decide +kernel
theorem dX11_meet_64 : decode cX11_meet 64 = .ok (.if_icmp .gt 108, 3) := by decide +kernel
theorem dX11_meet_67 : decode cX11_meet 67 = .ok (.iload_n 3, 1) := by decide +kernel
theorem dX11_meet_68 : decode cX11_meet 68 = .ok (.ifCond .eq 32, 3) := by decide +kernel
theorem dX11_meet_71 : decode cX11_meet 71 = .ok (.aload_n 0, 1) := by decide +kernel
theorem dX11_meet_72 : decode cX11_meet 72 = .ok (.getfield 51, 3) := by decide +kernel
theorem dX11_meet_75 : decode cX11_meet 75 = .ok (.getfield 297, 3) := by decide +kernel
theorem dX11_meet_78 : decode cX11_meet 78 = .ok (.aload_n 0, 1) := by decide +kernel
theorem dX11_meet_79 : decode cX11_meet 79 = .ok (.getfield 55, 3) := by decide +kernel
theorem dX11_meet_82 : decode cX11_meet 82 = .ok (.getfield 297, 3) := by decide +kernel
theorem dX11_meet_85 : decode cX11_meet 85 = .ok (.invokevirtual 325, 3) := by decide +kernel
theorem dX11_meet_88 : decode cX11_meet 88 = .ok (.iconst (-1), 1) := by decide +kernel
theorem dX11_meet_89 : decode cX11_meet 89 = .ok (.if_icmp .ne 7, 3) := by decide +kernel
theorem dX11_meet_92 : decode cX11_meet 92 = .ok (.iconst 1, 1) := by decide +kernel
theorem dX11_meet_93 : decode cX11_meet 93 = .ok (.goto 35, 3) := by decide +kernel
theorem dX11_meet_96 : decode cX11_meet 96 = .ok (.iconst 0, 1) := by decide +kernel
theorem dX11_meet_97 : decode cX11_meet 97 = .ok (.goto 31, 3) := by decide +kernel
theorem dX11_meet_100 : decode cX11_meet 100 = .ok (.aload_n 0, 1) := by decide +kernel
theorem dX11_meet_101 : decode cX11_meet 101 = .ok (.getfield 51, 3) := by decide +kernel
theorem dX11_meet_104 : decode cX11_meet 104 = .ok (.getfield 297, 3) := by decide +kernel
theorem dX11_meet_107 : decode cX11_meet 107 = .ok (.invokevirtual 178, 3) := by decide +kernel
theorem dX11_meet_110 : decode cX11_meet 110 = .ok (.aload_n 0, 1) := by decide +kernel
theorem dX11_meet_111 : decode cX11_meet 111 = .ok (.getfield 55, 3) := by decide +kernel
theorem dX11_meet_114 : decode cX11_meet 114 = .ok (.getfield 297, 3) := by decide +kernel
theorem dX11_meet_117 : decode cX11_meet 117 = .ok (.invokevirtual 178, 3) := by decide +kernel
theorem dX11_meet_120 : decode cX11_meet 120 = .ok (.if_icmp .ne 7, 3) := by decide +kernel
theorem dX11_meet_123 : decode cX11_meet 123 = .ok (.iconst 1, 1) := by decide +kernel
theorem dX11_meet_124 : decode cX11_meet 124 = .ok (.goto 4, 3) := by decide +kernel
theorem dX11_meet_127 : decode cX11_meet 127 = .ok (.iconst 0, 1) := by decide +kernel
theorem dX11_meet_128 : decode cX11_meet 128 = .ok (.istore 7, 2) := by decide +kernel
theorem dX11_meet_130 : decode cX11_meet 130 = .ok (.iload 7, 2) := by decide +kernel
theorem dX11_meet_132 : decode cX11_meet 132 = .ok (.ifCond .eq 6, 3) := by decide +kernel
theorem dX11_meet_135 : decode cX11_meet 135 = .ok (.iload 6, 2) := by decide +kernel
theorem dX11_meet_137 : decode cX11_meet 137 = .ok (.ireturn, 1) := by decide +kernel
theorem dX11_meet_138 : decode cX11_meet 138 = .ok (.aload_n 0, 1) := by decide +kernel
theorem dX11_meet_139 : decode cX11_meet 139 = .ok (.getfield 51, 3) := by decide +kernel
theorem dX11_meet_142 : decode cX11_meet 142 = .ok (.aload_n 0, 1) := by decide +kernel
theorem dX11_meet_143 : decode cX11_meet 143 = .ok (.getfield 20, 3) := by decide +kernel
theorem dX11_meet_146 : decode cX11_meet 146 = .ok (.getfield 144, 3) := by decide +kernel
theorem dX11_meet_149 : decode cX11_meet 149 = .ok (.invokevirtual 304, 3) := by decide +kernel
theorem dX11_meet_152 : decode cX11_meet 152 = .ok (.aload_n 0, 1) := by decide +kernel
theorem dX11_meet_153 : decode cX11_meet 153 = .ok (.getfield 55, 3) := by decide +kernel
theorem dX11_meet_156 : decode cX11_meet 156 = .ok (.aload_n 0, 1) := by decide +kernel
theorem dX11_meet_157 : decode cX11_meet 157 = .ok (.getfield 20, 3) := by decide +kernel
theorem dX11_meet_160 : decode cX11_meet 160 = .ok (.getfield 144, 3) := by decide +kernel
theorem dX11_meet_163 : decode cX11_meet 163 = .ok (.invokevirtual 304, 3) := by decide +kernel
theorem dX11_meet_166 : decode cX11_meet 166 = .ok (.iinc 6 1, 3) := by decide +kernel
theorem dX11_meet_169 : decode cX11_meet 169 = .ok (.goto (-109), 3) := by decide +kernel
theorem dX11_meet_172 : decode cX11_meet 172 = .ok (.iconst (-1), 1) := by decide +kernel
theorem dX11_meet_173 : decode cX11_meet 173 = .ok (.ireturn, 1) := by decide +kernel
theorem dX11_part_0 : decode cX11_part 0 = .ok (.aload_n 0, 1) := by decide +kernel
theorem dX11_part_1 : decode cX11_part 1 = .ok (.iload_n 1, 1) := by decide +kernel
theorem dX11_part_2 : decode cX11_part 2 = .ok (.invokevirtual 153, 3) := by decide +kernel
theorem dX11_part_5 : decode cX11_part 5 = .ok (.astore_n 3, 1) := by decide +kernel
theorem dX11_part_6 : decode cX11_part 6 = .ok (.aload_n 0, 1) := by decide +kernel
theorem dX11_part_7 : decode cX11_part 7 = .ok (.iload_n 2, 1) := by decide +kernel
theorem dX11_part_8 : decode cX11_part 8 = .ok (.invokevirtual 153, 3) := by decide +kernel
theorem dX11_part_11 : decode cX11_part 11 = .ok (.astore 4, 2) := by decide +kernel
theorem dX11_part_13 : decode cX11_part 13 = .ok (.iload_n 1, 1) := by decide +kernel
theorem dX11_part_14 : decode cX11_part 14 = .ok (.iload_n 2, 1) := by decide +kernel
theorem dX11_part_15 : decode cX11_part 15 = .ok (.invokestatic 322, 3) := by decide +kernel
theorem dX11_part_18 : decode cX11_part 18 = .ok (.aload_n 3, 1) := by decide +kernel
theorem dX11_part_19 : decode cX11_part 19 = .ok (.aload 4, 2) := by decide +kernel
theorem dX11_part_21 : decode cX11_part 21 = .ok (.invokevirtual 325, 3) := by decide +kernel
theorem dX11_part_24 : decode cX11_part 24 = .ok (.ireturn, 1) := by decide +kernel
theorem dX11_drawer_0 : decode cX11_drawer 0 = .ok (.aload_n 0, 1) := by decide +kernel
theorem dX11_drawer_1 : decode cX11_drawer 1 = .ok (.invokevirtual 328, 3) := by decide +kernel
theorem dX11_drawer_4 : decode cX11_drawer 4 = .ok (.bipush 41, 2) := by decide +kernel
theorem dX11_drawer_6 : decode cX11_drawer 6 = .ok (.istore_n 1, 1) := by decide +kernel
theorem dX11_drawer_7 : decode cX11_drawer 7 = .ok (.iconst (-1), 1) := by decide +kernel
theorem dX11_drawer_8 : decode cX11_drawer 8 = .ok (.istore_n 2, 1) := by decide +kernel
theorem dX11_drawer_9 : decode cX11_drawer 9 = .ok (.iconst 0, 1) := by decide +kernel
theorem dX11_drawer_10 : decode cX11_drawer 10 = .ok (.istore_n 3, 1) := by decide +kernel
theorem dX11_drawer_11 : decode cX11_drawer 11 = .ok (.iload_n 3, 1) := by decide +kernel
theorem dX11_drawer_12 : decode cX11_drawer 12 = .ok (.aload_n 0, 1) := by decide +kernel
theorem dX11_drawer_13 : decode cX11_drawer 13 = .ok (.getfield 20, 3) := by decide +kernel
theorem dX11_drawer_16 : decode cX11_drawer 16 = .ok (.getfield 182, 3) := by decide +kernel
theorem dX11_drawer_19 : decode cX11_drawer 19 = .ok (.getfield 235, 3) := by decide +kernel
theorem dX11_drawer_22 : decode cX11_drawer 22 = .ok (.if_icmp .ge 87, 3) := by decide +kernel
theorem dX11_drawer_25 : decode cX11_drawer 25 = .ok (.iload_n 3, 1) := by decide +kernel
theorem dX11_drawer_26 : decode cX11_drawer 26 = .ok (.iconst 1, 1) := by decide +kernel
theorem dX11_drawer_27 : decode cX11_drawer 27 = .ok (.iadd, 1) := by decide +kernel
theorem dX11_drawer_28 : decode cX11_drawer 28 = .ok (.istore 4, 2) := by decide +kernel
theorem dX11_drawer_30 : decode cX11_drawer 30 = .ok (.iload 4, 2) := by decide +kernel
theorem dX11_drawer_32 : decode cX11_drawer 32 = .ok (.aload_n 0, 1) := by decide +kernel
theorem dX11_drawer_33 : decode cX11_drawer 33 = .ok (.getfield 20, 3) := by decide +kernel
theorem dX11_drawer_36 : decode cX11_drawer 36 = .ok (.getfield 182, 3) := by decide +kernel
theorem dX11_drawer_39 : decode cX11_drawer 39 = .ok (.getfield 235, 3) := by decide +kernel
theorem dX11_drawer_42 : decode cX11_drawer 42 = .ok (.if_icmp .ge 61, 3) := by decide +kernel
theorem dX11_drawer_45 : decode cX11_drawer 45 = .ok (.aload_n 0, 1) := by decide +kernel
theorem dX11_drawer_46 : decode cX11_drawer 46 = .ok (.getfield 20, 3) := by decide +kernel
theorem dX11_drawer_49 : decode cX11_drawer 49 = .ok (.getfield 182, 3) := by decide +kernel
theorem dX11_drawer_52 : decode cX11_drawer 52 = .ok (.iload_n 3, 1) := by decide +kernel
theorem dX11_drawer_53 : decode cX11_drawer 53 = .ok (.iload 4, 2) := by decide +kernel
theorem dX11_drawer_55 : decode cX11_drawer 55 = .ok (.invokevirtual 331, 3) := by decide +kernel
theorem dX11_drawer_58 : decode cX11_drawer 58 = .ok (.ifCond .eq 13, 3) := by decide +kernel
theorem dX11_drawer_61 : decode cX11_drawer 61 = .ok (.aload_n 0, 1) := by decide +kernel
theorem dX11_drawer_62 : decode cX11_drawer 62 = .ok (.iload_n 3, 1) := by decide +kernel
theorem dX11_drawer_63 : decode cX11_drawer 63 = .ok (.iload 4, 2) := by decide +kernel
theorem dX11_drawer_65 : decode cX11_drawer 65 = .ok (.invokevirtual 334, 3) := by decide +kernel
theorem dX11_drawer_68 : decode cX11_drawer 68 = .ok (.goto 4, 3) := by decide +kernel
theorem dX11_drawer_71 : decode cX11_drawer 71 = .ok (.iconst (-1), 1) := by decide +kernel
theorem dX11_drawer_72 : decode cX11_drawer 72 = .ok (.istore 5, 2) := by decide +kernel
theorem dX11_drawer_74 : decode cX11_drawer 74 = .ok (.iload 5, 2) := by decide +kernel
theorem dX11_drawer_76 : decode cX11_drawer 76 = .ok (.iconst (-1), 1) := by decide +kernel
theorem dX11_drawer_77 : decode cX11_drawer 77 = .ok (.if_icmp .eq 20, 3) := by decide +kernel
theorem dX11_drawer_80 : decode cX11_drawer 80 = .ok (.iload 5, 2) := by decide +kernel
theorem dX11_drawer_82 : decode cX11_drawer 82 = .ok (.iload_n 1, 1) := by decide +kernel
theorem dX11_drawer_83 : decode cX11_drawer 83 = .ok (.if_icmp .ge 14, 3) := by decide +kernel
theorem dX11_drawer_86 : decode cX11_drawer 86 = .ok (.iload 5, 2) := by decide +kernel
theorem dX11_drawer_88 : decode cX11_drawer 88 = .ok (.istore_n 1, 1) := by decide +kernel
theorem dX11_drawer_89 : decode cX11_drawer 89 = .ok (.bipush 10, 2) := by decide +kernel
theorem dX11_drawer_91 : decode cX11_drawer 91 = .ok (.iload_n 3, 1) := by decide +kernel
theorem dX11_drawer_92 : decode cX11_drawer 92 = .ok (.imul, 1) := by decide +kernel
theorem dX11_drawer_93 : decode cX11_drawer 93 = .ok (.iload 4, 2) := by decide +kernel
theorem dX11_drawer_95 : decode cX11_drawer 95 = .ok (.iadd, 1) := by decide +kernel
theorem dX11_drawer_96 : decode cX11_drawer 96 = .ok (.istore_n 2, 1) := by decide +kernel
theorem dX11_drawer_97 : decode cX11_drawer 97 = .ok (.iinc 4 1, 3) := by decide +kernel
theorem dX11_drawer_100 : decode cX11_drawer 100 = .ok (.goto (-70), 3) := by decide +kernel
theorem dX11_drawer_103 : decode cX11_drawer 103 = .ok (.iinc 3 1, 3) := by decide +kernel
theorem dX11_drawer_106 : decode cX11_drawer 106 = .ok (.goto (-95), 3) := by decide +kernel
theorem dX11_drawer_109 : decode cX11_drawer 109 = .ok (.iload_n 2, 1) := by decide +kernel
theorem dX11_drawer_110 : decode cX11_drawer 110 = .ok (.ireturn, 1) := by decide +kernel
theorem dX11_bound_0 : decode cX11_bound 0 = .ok (.aload_n 0, 1) := by decide +kernel
theorem dX11_bound_1 : decode cX11_bound 1 = .ok (.iload_n 1, 1) := by decide +kernel
theorem dX11_bound_2 : decode cX11_bound 2 = .ok (.invokevirtual 153, 3) := by decide +kernel
theorem dX11_bound_5 : decode cX11_bound 5 = .ok (.astore_n 3, 1) := by decide +kernel
theorem dX11_bound_6 : decode cX11_bound 6 = .ok (.iload_n 2, 1) := by decide +kernel
theorem dX11_bound_7 : decode cX11_bound 7 = .ok (.iconst 0, 1) := by decide +kernel
theorem dX11_bound_8 : decode cX11_bound 8 = .ok (.invokestatic 285, 3) := by decide +kernel
theorem dX11_bound_11 : decode cX11_bound 11 = .ok (.aload_n 0, 1) := by decide +kernel
theorem dX11_bound_12 : decode cX11_bound 12 = .ok (.getfield 51, 3) := by decide +kernel
theorem dX11_bound_15 : decode cX11_bound 15 = .ok (.aload_n 3, 1) := by decide +kernel
theorem dX11_bound_16 : decode cX11_bound 16 = .ok (.aload_n 0, 1) := by decide +kernel
theorem dX11_bound_17 : decode cX11_bound 17 = .ok (.getfield 20, 3) := by decide +kernel
theorem dX11_bound_20 : decode cX11_bound 20 = .ok (.getfield 182, 3) := by decide +kernel
theorem dX11_bound_23 : decode cX11_bound 23 = .ok (.getfield 185, 3) := by decide +kernel
theorem dX11_bound_26 : decode cX11_bound 26 = .ok (.invokevirtual 290, 3) := by decide +kernel
theorem dX11_bound_29 : decode cX11_bound 29 = .ok (.aload_n 0, 1) := by decide +kernel
theorem dX11_bound_30 : decode cX11_bound 30 = .ok (.getfield 51, 3) := by decide +kernel
theorem dX11_bound_33 : decode cX11_bound 33 = .ok (.aload_n 0, 1) := by decide +kernel
theorem dX11_bound_34 : decode cX11_bound 34 = .ok (.getfield 20, 3) := by decide +kernel
theorem dX11_bound_37 : decode cX11_bound 37 = .ok (.getfield 144, 3) := by decide +kernel
theorem dX11_bound_40 : decode cX11_bound 40 = .ok (.iload_n 2, 1) := by decide +kernel
theorem dX11_bound_41 : decode cX11_bound 41 = .ok (.invokevirtual 293, 3) := by decide +kernel
theorem dX11_bound_44 : decode cX11_bound 44 = .ok (.aload_n 0, 1) := by decide +kernel
theorem dX11_bound_45 : decode cX11_bound 45 = .ok (.getfield 20, 3) := by decide +kernel
theorem dX11_bound_48 : decode cX11_bound 48 = .ok (.aload_n 0, 1) := by decide +kernel
theorem dX11_bound_49 : decode cX11_bound 49 = .ok (.getfield 51, 3) := by decide +kernel
theorem dX11_bound_52 : decode cX11_bound 52 = .ok (.getfield 297, 3) := by decide +kernel
theorem dX11_bound_55 : decode cX11_bound 55 = .ok (.invokevirtual 338, 3) := by decide +kernel
theorem dX11_bound_58 : decode cX11_bound 58 = .ok (.ireturn, 1) := by decide +kernel
theorem dX11_when_0 : decode cX11_when 0 = .ok (.aload_n 0, 1) := by decide +kernel
theorem dX11_when_1 : decode cX11_when 1 = .ok (.iload_n 1, 1) := by decide +kernel
theorem dX11_when_2 : decode cX11_when 2 = .ok (.invokevirtual 153, 3) := by decide +kernel
theorem dX11_when_5 : decode cX11_when 5 = .ok (.astore_n 3, 1) := by decide +kernel
theorem dX11_when_6 : decode cX11_when 6 = .ok (.aload_n 0, 1) := by decide +kernel
theorem dX11_when_7 : decode cX11_when 7 = .ok (.iload_n 2, 1) := by decide +kernel
theorem dX11_when_8 : decode cX11_when 8 = .ok (.invokevirtual 214, 3) := by decide +kernel
theorem dX11_when_11 : decode cX11_when 11 = .ok (.aload_n 0, 1) := by decide +kernel
theorem dX11_when_12 : decode cX11_when 12 = .ok (.aload_n 3, 1) := by decide +kernel
theorem dX11_when_13 : decode cX11_when 13 = .ok (.iload_n 2, 1) := by decide +kernel
theorem dX11_when_14 : decode cX11_when 14 = .ok (.invokevirtual 341, 3) := by decide +kernel
theorem dX11_when_17 : decode cX11_when 17 = .ok (.ireturn, 1) := by decide +kernel
theorem dX11_soonest_0 : decode cX11_soonest 0 = .ok (.aload_n 0, 1) := by decide +kernel
theorem dX11_soonest_1 : decode cX11_soonest 1 = .ok (.iload_n 1, 1) := by decide +kernel
theorem dX11_soonest_2 : decode cX11_soonest 2 = .ok (.invokevirtual 214, 3) := by decide +kernel
theorem dX11_soonest_5 : decode cX11_soonest 5 = .ok (.bipush 41, 2) := by decide +kernel
theorem dX11_soonest_7 : decode cX11_soonest 7 = .ok (.istore_n 2, 1) := by decide +kernel
theorem dX11_soonest_8 : decode cX11_soonest 8 = .ok (.iconst (-1), 1) := by decide +kernel
theorem dX11_soonest_9 : decode cX11_soonest 9 = .ok (.istore_n 3, 1) := by decide +kernel
theorem dX11_soonest_10 : decode cX11_soonest 10 = .ok (.iconst 0, 1) := by decide +kernel
theorem dX11_soonest_11 : decode cX11_soonest 11 = .ok (.istore 4, 2) := by decide +kernel
theorem dX11_soonest_13 : decode cX11_soonest 13 = .ok (.iload 4, 2) := by decide +kernel
theorem dX11_soonest_15 : decode cX11_soonest 15 = .ok (.aload_n 0, 1) := by decide +kernel
theorem dX11_soonest_16 : decode cX11_soonest 16 = .ok (.getfield 20, 3) := by decide +kernel
theorem dX11_soonest_19 : decode cX11_soonest 19 = .ok (.getfield 182, 3) := by decide +kernel
theorem dX11_soonest_22 : decode cX11_soonest 22 = .ok (.getfield 235, 3) := by decide +kernel
theorem dX11_soonest_25 : decode cX11_soonest 25 = .ok (.if_icmp .ge 47, 3) := by decide +kernel
theorem dX11_soonest_28 : decode cX11_soonest 28 = .ok (.aload_n 0, 1) := by decide +kernel
theorem dX11_soonest_29 : decode cX11_soonest 29 = .ok (.aload_n 0, 1) := by decide +kernel
theorem dX11_soonest_30 : decode cX11_soonest 30 = .ok (.getfield 20, 3) := by decide +kernel
theorem dX11_soonest_33 : decode cX11_soonest 33 = .ok (.getfield 182, 3) := by decide +kernel
theorem dX11_soonest_36 : decode cX11_soonest 36 = .ok (.getfield 242, 3) := by decide +kernel
theorem dX11_soonest_39 : decode cX11_soonest 39 = .ok (.iload 4, 2) := by decide +kernel
theorem dX11_soonest_41 : decode cX11_soonest 41 = .ok (.aaload, 1) := by decide +kernel
theorem dX11_soonest_42 : decode cX11_soonest 42 = .ok (.iload_n 1, 1) := by decide +kernel
theorem dX11_soonest_43 : decode cX11_soonest 43 = .ok (.invokevirtual 341, 3) := by decide +kernel
theorem dX11_soonest_46 : decode cX11_soonest 46 = .ok (.istore 5, 2) := by decide +kernel
theorem dX11_soonest_48 : decode cX11_soonest 48 = .ok (.iload 5, 2) := by decide +kernel
theorem dX11_soonest_50 : decode cX11_soonest 50 = .ok (.iconst (-1), 1) := by decide +kernel
theorem dX11_soonest_51 : decode cX11_soonest 51 = .ok (.if_icmp .eq 15, 3) := by decide +kernel
theorem dX11_soonest_54 : decode cX11_soonest 54 = .ok (.iload 5, 2) := by decide +kernel
theorem dX11_soonest_56 : decode cX11_soonest 56 = .ok (.iload_n 2, 1) := by decide +kernel
theorem dX11_soonest_57 : decode cX11_soonest 57 = .ok (.if_icmp .ge 9, 3) := by decide +kernel
theorem dX11_soonest_60 : decode cX11_soonest 60 = .ok (.iload 5, 2) := by decide +kernel
theorem dX11_soonest_62 : decode cX11_soonest 62 = .ok (.istore_n 2, 1) := by decide +kernel
theorem dX11_soonest_63 : decode cX11_soonest 63 = .ok (.iload 4, 2) := by decide +kernel
theorem dX11_soonest_65 : decode cX11_soonest 65 = .ok (.istore_n 3, 1) := by decide +kernel
theorem dX11_soonest_66 : decode cX11_soonest 66 = .ok (.iinc 4 1, 3) := by decide +kernel
theorem dX11_soonest_69 : decode cX11_soonest 69 = .ok (.goto (-56), 3) := by decide +kernel
theorem dX11_soonest_72 : decode cX11_soonest 72 = .ok (.iload_n 3, 1) := by decide +kernel
theorem dX11_soonest_73 : decode cX11_soonest 73 = .ok (.ireturn, 1) := by decide +kernel
theorem dX11_spies_0 : decode cX11_spies 0 = .ok (.iconst 0, 1) := by decide +kernel
theorem dX11_spies_1 : decode cX11_spies 1 = .ok (.istore_n 2, 1) := by decide +kernel
theorem dX11_spies_2 : decode cX11_spies 2 = .ok (.iconst 0, 1) := by decide +kernel
theorem dX11_spies_3 : decode cX11_spies 3 = .ok (.istore_n 3, 1) := by decide +kernel
theorem dX11_spies_4 : decode cX11_spies 4 = .ok (.iload_n 3, 1) := by decide +kernel
theorem dX11_spies_5 : decode cX11_spies 5 = .ok (.aload_n 0, 1) := by decide +kernel
theorem dX11_spies_6 : decode cX11_spies 6 = .ok (.getfield 20, 3) := by decide +kernel
theorem dX11_spies_9 : decode cX11_spies 9 = .ok (.getfield 182, 3) := by decide +kernel
theorem dX11_spies_12 : decode cX11_spies 12 = .ok (.getfield 235, 3) := by decide +kernel
theorem dX11_spies_15 : decode cX11_spies 15 = .ok (.if_icmp .ge 38, 3) := by decide +kernel
theorem dX11_spies_18 : decode cX11_spies 18 = .ok (.aload_n 0, 1) := by decide +kernel
theorem dX11_spies_19 : decode cX11_spies 19 = .ok (.getfield 20, 3) := by decide +kernel
theorem dX11_spies_22 : decode cX11_spies 22 = .ok (.aload_n 0, 1) := by decide +kernel
theorem dX11_spies_23 : decode cX11_spies 23 = .ok (.getfield 20, 3) := by decide +kernel
theorem dX11_spies_26 : decode cX11_spies 26 = .ok (.getfield 182, 3) := by decide +kernel
theorem dX11_spies_29 : decode cX11_spies 29 = .ok (.getfield 242, 3) := by decide +kernel
theorem dX11_spies_32 : decode cX11_spies 32 = .ok (.iload_n 3, 1) := by decide +kernel
theorem dX11_spies_33 : decode cX11_spies 33 = .ok (.aaload, 1) := by decide +kernel
theorem dX11_spies_34 : decode cX11_spies 34 = .ok (.invokevirtual 174, 3) := by decide +kernel
theorem dX11_spies_37 : decode cX11_spies 37 = .ok (.iload_n 1, 1) := by decide +kernel
theorem dX11_spies_38 : decode cX11_spies 38 = .ok (.if_icmp .ne 9, 3) := by decide +kernel
theorem dX11_spies_41 : decode cX11_spies 41 = .ok (.iload_n 2, 1) := by decide +kernel
theorem dX11_spies_42 : decode cX11_spies 42 = .ok (.iconst 1, 1) := by decide +kernel
theorem dX11_spies_43 : decode cX11_spies 43 = .ok (.iload_n 3, 1) := by decide +kernel
theorem dX11_spies_44 : decode cX11_spies 44 = .ok (.ishl, 1) := by decide +kernel
theorem dX11_spies_45 : decode cX11_spies 45 = .ok (.ior, 1) := by decide +kernel
theorem dX11_spies_46 : decode cX11_spies 46 = .ok (.istore_n 2, 1) := by decide +kernel
theorem dX11_spies_47 : decode cX11_spies 47 = .ok (.iinc 3 1, 3) := by decide +kernel
theorem dX11_spies_50 : decode cX11_spies 50 = .ok (.goto (-46), 3) := by decide +kernel
theorem dX11_spies_53 : decode cX11_spies 53 = .ok (.iload_n 2, 1) := by decide +kernel
theorem dX11_spies_54 : decode cX11_spies 54 = .ok (.ireturn, 1) := by decide +kernel
theorem dX11_guess_0 : decode cX11_guess 0 = .ok (.aload_n 0, 1) := by decide +kernel
theorem dX11_guess_1 : decode cX11_guess 1 = .ok (.getfield 20, 3) := by decide +kernel
theorem dX11_guess_4 : decode cX11_guess 4 = .ok (.aload_n 0, 1) := by decide +kernel
theorem dX11_guess_5 : decode cX11_guess 5 = .ok (.iload_n 1, 1) := by decide +kernel
theorem dX11_guess_6 : decode cX11_guess 6 = .ok (.invokevirtual 153, 3) := by decide +kernel
theorem dX11_guess_9 : decode cX11_guess 9 = .ok (.invokevirtual 178, 3) := by decide +kernel
theorem dX11_guess_12 : decode cX11_guess 12 = .ok (.invokevirtual 211, 3) := by decide +kernel
theorem dX11_guess_15 : decode cX11_guess 15 = .ok (.istore_n 2, 1) := by decide +kernel
theorem dX11_guess_16 : decode cX11_guess 16 = .ok (.iconst 0, 1) := by decide +kernel
theorem dX11_guess_17 : decode cX11_guess 17 = .ok (.istore_n 3, 1) := by decide +kernel
theorem dX11_guess_18 : decode cX11_guess 18 = .ok (.iconst 0, 1) := by decide +kernel
theorem dX11_guess_19 : decode cX11_guess 19 = .ok (.istore 4, 2) := by decide +kernel
theorem dX11_guess_21 : decode cX11_guess 21 = .ok (.iload 4, 2) := by decide +kernel
theorem dX11_guess_23 : decode cX11_guess 23 = .ok (.bipush 12, 2) := by decide +kernel
theorem dX11_guess_25 : decode cX11_guess 25 = .ok (.if_icmp .ge 29, 3) := by decide +kernel
theorem dX11_guess_28 : decode cX11_guess 28 = .ok (.aload_n 0, 1) := by decide +kernel
theorem dX11_guess_29 : decode cX11_guess 29 = .ok (.getfield 20, 3) := by decide +kernel
theorem dX11_guess_32 : decode cX11_guess 32 = .ok (.iload 4, 2) := by decide +kernel
theorem dX11_guess_34 : decode cX11_guess 34 = .ok (.invokevirtual 211, 3) := by decide +kernel
theorem dX11_guess_37 : decode cX11_guess 37 = .ok (.iload_n 2, 1) := by decide +kernel
theorem dX11_guess_38 : decode cX11_guess 38 = .ok (.if_icmp .ne 10, 3) := by decide +kernel
theorem dX11_guess_41 : decode cX11_guess 41 = .ok (.iload_n 3, 1) := by decide +kernel
theorem dX11_guess_42 : decode cX11_guess 42 = .ok (.iconst 1, 1) := by decide +kernel
theorem dX11_guess_43 : decode cX11_guess 43 = .ok (.iload 4, 2) := by decide +kernel
theorem dX11_guess_45 : decode cX11_guess 45 = .ok (.ishl, 1) := by decide +kernel
theorem dX11_guess_46 : decode cX11_guess 46 = .ok (.ior, 1) := by decide +kernel
theorem dX11_guess_47 : decode cX11_guess 47 = .ok (.istore_n 3, 1) := by decide +kernel
theorem dX11_guess_48 : decode cX11_guess 48 = .ok (.iinc 4 1, 3) := by decide +kernel
theorem dX11_guess_51 : decode cX11_guess 51 = .ok (.goto (-30), 3) := by decide +kernel
theorem dX11_guess_54 : decode cX11_guess 54 = .ok (.iload_n 3, 1) := by decide +kernel
theorem dX11_guess_55 : decode cX11_guess 55 = .ok (.ireturn, 1) := by decide +kernel
theorem dX11_postage_0 : decode cX11_postage 0 = .ok (.aload_n 0, 1) := by decide +kernel
theorem dX11_postage_1 : decode cX11_postage 1 = .ok (.iload_n 1, 1) := by decide +kernel
theorem dX11_postage_2 : decode cX11_postage 2 = .ok (.invokevirtual 153, 3) := by decide +kernel
theorem dX11_postage_5 : decode cX11_postage 5 = .ok (.astore 4, 2) := by decide +kernel
theorem dX11_postage_7 : decode cX11_postage 7 = .ok (.iload_n 2, 1) := by decide +kernel
theorem dX11_postage_8 : decode cX11_postage 8 = .ok (.iload_n 3, 1) := by decide +kernel
theorem dX11_postage_9 : decode cX11_postage 9 = .ok (.ifCond .eq 7, 3) := by decide +kernel
theorem dX11_postage_12 : decode cX11_postage 12 = .ok (.iconst 1, 1) := by decide +kernel
theorem dX11_postage_13 : decode cX11_postage 13 = .ok (.goto 4, 3) := by decide +kernel
theorem dX11_postage_16 : decode cX11_postage 16 = .ok (.iconst 0, 1) := by decide +kernel
theorem dX11_postage_17 : decode cX11_postage 17 = .ok (.invokestatic 285, 3) := by decide +kernel
theorem dX11_postage_20 : decode cX11_postage 20 = .ok (.aload_n 0, 1) := by decide +kernel
theorem dX11_postage_21 : decode cX11_postage 21 = .ok (.getfield 51, 3) := by decide +kernel
theorem dX11_postage_24 : decode cX11_postage 24 = .ok (.aload 4, 2) := by decide +kernel
theorem dX11_postage_26 : decode cX11_postage 26 = .ok (.aload_n 0, 1) := by decide +kernel
theorem dX11_postage_27 : decode cX11_postage 27 = .ok (.getfield 20, 3) := by decide +kernel
theorem dX11_postage_30 : decode cX11_postage 30 = .ok (.getfield 182, 3) := by decide +kernel
theorem dX11_postage_33 : decode cX11_postage 33 = .ok (.getfield 185, 3) := by decide +kernel
theorem dX11_postage_36 : decode cX11_postage 36 = .ok (.invokevirtual 290, 3) := by decide +kernel
theorem dX11_postage_39 : decode cX11_postage 39 = .ok (.aload_n 0, 1) := by decide +kernel
theorem dX11_postage_40 : decode cX11_postage 40 = .ok (.getfield 51, 3) := by decide +kernel
theorem dX11_postage_43 : decode cX11_postage 43 = .ok (.aload_n 0, 1) := by decide +kernel
theorem dX11_postage_44 : decode cX11_postage 44 = .ok (.getfield 20, 3) := by decide +kernel
theorem dX11_postage_47 : decode cX11_postage 47 = .ok (.getfield 144, 3) := by decide +kernel
theorem dX11_postage_50 : decode cX11_postage 50 = .ok (.iload_n 3, 1) := by decide +kernel
theorem dX11_postage_51 : decode cX11_postage 51 = .ok (.ifCond .eq 9, 3) := by decide +kernel
theorem dX11_postage_54 : decode cX11_postage 54 = .ok (.iload_n 2, 1) := by decide +kernel
theorem dX11_postage_55 : decode cX11_postage 55 = .ok (.iconst 1, 1) := by decide +kernel
theorem dX11_postage_56 : decode cX11_postage 56 = .ok (.isub, 1) := by decide +kernel
theorem dX11_postage_57 : decode cX11_postage 57 = .ok (.goto 4, 3) := by decide +kernel
theorem dX11_postage_60 : decode cX11_postage 60 = .ok (.iload_n 2, 1) := by decide +kernel
theorem dX11_postage_61 : decode cX11_postage 61 = .ok (.invokevirtual 293, 3) := by decide +kernel
theorem dX11_postage_64 : decode cX11_postage 64 = .ok (.aload_n 0, 1) := by decide +kernel
theorem dX11_postage_65 : decode cX11_postage 65 = .ok (.getfield 20, 3) := by decide +kernel
theorem dX11_postage_68 : decode cX11_postage 68 = .ok (.aload_n 0, 1) := by decide +kernel
theorem dX11_postage_69 : decode cX11_postage 69 = .ok (.getfield 51, 3) := by decide +kernel
theorem dX11_postage_72 : decode cX11_postage 72 = .ok (.getfield 297, 3) := by decide +kernel
theorem dX11_postage_75 : decode cX11_postage 75 = .ok (.invokevirtual 344, 3) := by decide +kernel
theorem dX11_postage_78 : decode cX11_postage 78 = .ok (.istore 5, 2) := by decide +kernel
theorem dX11_postage_80 : decode cX11_postage 80 = .ok (.iload_n 3, 1) := by decide +kernel
theorem dX11_postage_81 : decode cX11_postage 81 = .ok (.ifCond .ne 6, 3) := by decide +kernel
theorem dX11_postage_84 : decode cX11_postage 84 = .ok (.iload 5, 2) := by decide +kernel
theorem dX11_postage_86 : decode cX11_postage 86 = .ok (.ireturn, 1) := by decide +kernel
theorem dX11_postage_87 : decode cX11_postage 87 = .ok (.aload_n 0, 1) := by decide +kernel
theorem dX11_postage_88 : decode cX11_postage 88 = .ok (.getfield 51, 3) := by decide +kernel
theorem dX11_postage_91 : decode cX11_postage 91 = .ok (.aload_n 0, 1) := by decide +kernel
theorem dX11_postage_92 : decode cX11_postage 92 = .ok (.getfield 20, 3) := by decide +kernel
theorem dX11_postage_95 : decode cX11_postage 95 = .ok (.getfield 144, 3) := by decide +kernel
theorem dX11_postage_98 : decode cX11_postage 98 = .ok (.invokevirtual 304, 3) := by decide +kernel
theorem dX11_postage_101 : decode cX11_postage 101 = .ok (.aload_n 0, 1) := by decide +kernel
theorem dX11_postage_102 : decode cX11_postage 102 = .ok (.getfield 20, 3) := by decide +kernel
theorem dX11_postage_105 : decode cX11_postage 105 = .ok (.aload_n 0, 1) := by decide +kernel
theorem dX11_postage_106 : decode cX11_postage 106 = .ok (.getfield 51, 3) := by decide +kernel
theorem dX11_postage_109 : decode cX11_postage 109 = .ok (.getfield 297, 3) := by decide +kernel
theorem dX11_postage_112 : decode cX11_postage 112 = .ok (.invokevirtual 344, 3) := by decide +kernel
theorem dX11_postage_115 : decode cX11_postage 115 = .ok (.iload 5, 2) := by decide +kernel
theorem dX11_postage_117 : decode cX11_postage 117 = .ok (.isub, 1) := by decide +kernel
theorem dX11_postage_118 : decode cX11_postage 118 = .ok (.ireturn, 1) := by decide +kernel
theorem dX11_forks_0 : decode cX11_forks 0 = .ok (.aload_n 0, 1) := by decide +kernel
theorem dX11_forks_1 : decode cX11_forks 1 = .ok (.iload_n 1, 1) := by decide +kernel
theorem dX11_forks_2 : decode cX11_forks 2 = .ok (.invokevirtual 153, 3) := by decide +kernel
theorem dX11_forks_5 : decode cX11_forks 5 = .ok (.astore_n 3, 1) := by decide +kernel
theorem dX11_forks_6 : decode cX11_forks 6 = .ok (.iload_n 2, 1) := by decide +kernel
theorem dX11_forks_7 : decode cX11_forks 7 = .ok (.iconst 1, 1) := by decide +kernel
theorem dX11_forks_8 : decode cX11_forks 8 = .ok (.invokestatic 285, 3) := by decide +kernel
theorem dX11_forks_11 : decode cX11_forks 11 = .ok (.iconst 0, 1) := by decide +kernel
theorem dX11_forks_12 : decode cX11_forks 12 = .ok (.istore 4, 2) := by decide +kernel
theorem dX11_forks_14 : decode cX11_forks 14 = .ok (.iconst 0, 1) := by decide +kernel
theorem dX11_forks_15 : decode cX11_forks 15 = .ok (.istore 5, 2) := by decide +kernel
theorem dX11_forks_17 : decode cX11_forks 17 = .ok (.iload 5, 2) := by decide +kernel
theorem dX11_forks_19 : decode cX11_forks 19 = .ok (.bipush 12, 2) := by decide +kernel
theorem dX11_forks_21 : decode cX11_forks 21 = .ok (.if_icmp .ge 68, 3) := by decide +kernel
theorem dX11_forks_24 : decode cX11_forks 24 = .ok (.aload_n 0, 1) := by decide +kernel
theorem dX11_forks_25 : decode cX11_forks 25 = .ok (.getfield 51, 3) := by decide +kernel
theorem dX11_forks_28 : decode cX11_forks 28 = .ok (.aload_n 3, 1) := by decide +kernel
theorem dX11_forks_29 : decode cX11_forks 29 = .ok (.aload_n 0, 1) := by decide +kernel
theorem dX11_forks_30 : decode cX11_forks 30 = .ok (.getfield 20, 3) := by decide +kernel
theorem dX11_forks_33 : decode cX11_forks 33 = .ok (.getfield 182, 3) := by decide +kernel
theorem dX11_forks_36 : decode cX11_forks 36 = .ok (.getfield 185, 3) := by decide +kernel
theorem dX11_forks_39 : decode cX11_forks 39 = .ok (.invokevirtual 290, 3) := by decide +kernel
theorem dX11_forks_42 : decode cX11_forks 42 = .ok (.aload_n 0, 1) := by decide +kernel
theorem dX11_forks_43 : decode cX11_forks 43 = .ok (.getfield 51, 3) := by decide +kernel
theorem dX11_forks_46 : decode cX11_forks 46 = .ok (.iload 5, 2) := by decide +kernel
theorem dX11_forks_48 : decode cX11_forks 48 = .ok (.putfield 347, 3) := by decide +kernel
theorem dX11_forks_51 : decode cX11_forks 51 = .ok (.aload_n 0, 1) := by decide +kernel
theorem dX11_forks_52 : decode cX11_forks 52 = .ok (.getfield 51, 3) := by decide +kernel
theorem dX11_forks_55 : decode cX11_forks 55 = .ok (.aload_n 0, 1) := by decide +kernel
theorem dX11_forks_56 : decode cX11_forks 56 = .ok (.getfield 20, 3) := by decide +kernel
theorem dX11_forks_59 : decode cX11_forks 59 = .ok (.getfield 144, 3) := by decide +kernel
theorem dX11_forks_62 : decode cX11_forks 62 = .ok (.iload_n 2, 1) := by decide +kernel
theorem dX11_forks_63 : decode cX11_forks 63 = .ok (.invokevirtual 293, 3) := by decide +kernel
theorem dX11_forks_66 : decode cX11_forks 66 = .ok (.iload 4, 2) := by decide +kernel
theorem dX11_forks_68 : decode cX11_forks 68 = .ok (.iconst 1, 1) := by decide +kernel
theorem dX11_forks_69 : decode cX11_forks 69 = .ok (.aload_n 0, 1) := by decide +kernel
theorem dX11_forks_70 : decode cX11_forks 70 = .ok (.getfield 51, 3) := by decide +kernel
theorem dX11_forks_73 : decode cX11_forks 73 = .ok (.getfield 297, 3) := by decide +kernel
theorem dX11_forks_76 : decode cX11_forks 76 = .ok (.invokevirtual 178, 3) := by decide +kernel
theorem dX11_forks_79 : decode cX11_forks 79 = .ok (.ishl, 1) := by decide +kernel
theorem dX11_forks_80 : decode cX11_forks 80 = .ok (.ior, 1) := by decide +kernel
theorem dX11_forks_81 : decode cX11_forks 81 = .ok (.istore 4, 2) := by decide +kernel
theorem dX11_forks_83 : decode cX11_forks 83 = .ok (.iinc 5 1, 3) := by decide +kernel
theorem dX11_forks_86 : decode cX11_forks 86 = .ok (.goto (-69), 3) := by decide +kernel
theorem dX11_forks_89 : decode cX11_forks 89 = .ok (.iload 4, 2) := by decide +kernel
theorem dX11_forks_91 : decode cX11_forks 91 = .ok (.ireturn, 1) := by decide +kernel
theorem dX11_ripe_0 : decode cX11_ripe 0 = .ok (.aload_n 0, 1) := by decide +kernel
theorem dX11_ripe_1 : decode cX11_ripe 1 = .ok (.iload_n 1, 1) := by decide +kernel
theorem dX11_ripe_2 : decode cX11_ripe 2 = .ok (.invokevirtual 153, 3) := by decide +kernel
theorem dX11_ripe_5 : decode cX11_ripe 5 = .ok (.astore_n 3, 1) := by decide +kernel
theorem dX11_ripe_6 : decode cX11_ripe 6 = .ok (.aload_n 0, 1) := by decide +kernel
theorem dX11_ripe_7 : decode cX11_ripe 7 = .ok (.getfield 51, 3) := by decide +kernel
theorem dX11_ripe_10 : decode cX11_ripe 10 = .ok (.aload_n 3, 1) := by decide +kernel
theorem dX11_ripe_11 : decode cX11_ripe 11 = .ok (.aload_n 0, 1) := by decide +kernel
theorem dX11_ripe_12 : decode cX11_ripe 12 = .ok (.getfield 20, 3) := by decide +kernel
theorem dX11_ripe_15 : decode cX11_ripe 15 = .ok (.getfield 182, 3) := by decide +kernel
theorem dX11_ripe_18 : decode cX11_ripe 18 = .ok (.getfield 185, 3) := by decide +kernel
theorem dX11_ripe_21 : decode cX11_ripe 21 = .ok (.invokevirtual 290, 3) := by decide +kernel
theorem dX11_ripe_24 : decode cX11_ripe 24 = .ok (.iconst (-1), 1) := by decide +kernel
theorem dX11_ripe_25 : decode cX11_ripe 25 = .ok (.istore 4, 2) := by decide +kernel
theorem dX11_ripe_27 : decode cX11_ripe 27 = .ok (.iconst 0, 1) := by decide +kernel
theorem dX11_ripe_28 : decode cX11_ripe 28 = .ok (.istore 5, 2) := by decide +kernel
theorem dX11_ripe_30 : decode cX11_ripe 30 = .ok (.iconst 0, 1) := by decide +kernel
theorem dX11_ripe_31 : decode cX11_ripe 31 = .ok (.istore 6, 2) := by decide +kernel
theorem dX11_ripe_33 : decode cX11_ripe 33 = .ok (.iload 6, 2) := by decide +kernel
theorem dX11_ripe_35 : decode cX11_ripe 35 = .ok (.bipush 40, 2) := by decide +kernel
theorem dX11_ripe_37 : decode cX11_ripe 37 = .ok (.if_icmp .gt 57, 3) := by decide +kernel
theorem dX11_ripe_40 : decode cX11_ripe 40 = .ok (.aload_n 0, 1) := by decide +kernel
theorem dX11_ripe_41 : decode cX11_ripe 41 = .ok (.getfield 20, 3) := by decide +kernel
theorem dX11_ripe_44 : decode cX11_ripe 44 = .ok (.aload_n 0, 1) := by decide +kernel
theorem dX11_ripe_45 : decode cX11_ripe 45 = .ok (.getfield 51, 3) := by decide +kernel
theorem dX11_ripe_48 : decode cX11_ripe 48 = .ok (.getfield 297, 3) := by decide +kernel
theorem dX11_ripe_51 : decode cX11_ripe 51 = .ok (.invokevirtual 338, 3) := by decide +kernel
theorem dX11_ripe_54 : decode cX11_ripe 54 = .ok (.invokestatic 350, 3) := by decide +kernel
theorem dX11_ripe_57 : decode cX11_ripe 57 = .ok (.istore 7, 2) := by decide +kernel
theorem dX11_ripe_59 : decode cX11_ripe 59 = .ok (.iload 7, 2) := by decide +kernel
theorem dX11_ripe_61 : decode cX11_ripe 61 = .ok (.iload 4, 2) := by decide +kernel
theorem dX11_ripe_63 : decode cX11_ripe 63 = .ok (.if_icmp .le 11, 3) := by decide +kernel
theorem dX11_ripe_66 : decode cX11_ripe 66 = .ok (.iload 7, 2) := by decide +kernel
theorem dX11_ripe_68 : decode cX11_ripe 68 = .ok (.istore 4, 2) := by decide +kernel
theorem dX11_ripe_70 : decode cX11_ripe 70 = .ok (.iload 6, 2) := by decide +kernel
theorem dX11_ripe_72 : decode cX11_ripe 72 = .ok (.istore 5, 2) := by decide +kernel
theorem dX11_ripe_74 : decode cX11_ripe 74 = .ok (.aload_n 0, 1) := by decide +kernel
theorem dX11_ripe_75 : decode cX11_ripe 75 = .ok (.getfield 51, 3) := by decide +kernel
theorem dX11_ripe_78 : decode cX11_ripe 78 = .ok (.aload_n 0, 1) := by decide +kernel
theorem dX11_ripe_79 : decode cX11_ripe 79 = .ok (.getfield 20, 3) := by decide +kernel
theorem dX11_ripe_82 : decode cX11_ripe 82 = .ok (.getfield 144, 3) := by decide +kernel
theorem dX11_ripe_85 : decode cX11_ripe 85 = .ok (.invokevirtual 304, 3) := by decide +kernel
theorem dX11_ripe_88 : decode cX11_ripe 88 = .ok (.iinc 6 1, 3) := by decide +kernel
theorem dX11_ripe_91 : decode cX11_ripe 91 = .ok (.goto (-58), 3) := by decide +kernel
theorem dX11_ripe_94 : decode cX11_ripe 94 = .ok (.iload_n 2, 1) := by decide +kernel
theorem dX11_ripe_95 : decode cX11_ripe 95 = .ok (.ifCond .eq 8, 3) := by decide +kernel
theorem dX11_ripe_98 : decode cX11_ripe 98 = .ok (.iload 4, 2) := by decide +kernel
theorem dX11_ripe_100 : decode cX11_ripe 100 = .ok (.goto 5, 3) := by decide +kernel
theorem dX11_ripe_103 : decode cX11_ripe 103 = .ok (.iload 5, 2) := by decide +kernel
theorem dX11_ripe_105 : decode cX11_ripe 105 = .ok (.ireturn, 1) := by decide +kernel
theorem dX11_has_0 : decode cX11_has 0 = .ok (.aload_n 0, 1) := by decide +kernel
theorem dX11_has_1 : decode cX11_has 1 = .ok (.iload_n 1, 1) := by decide +kernel
theorem dX11_has_2 : decode cX11_has 2 = .ok (.invokevirtual 153, 3) := by decide +kernel
theorem dX11_has_5 : decode cX11_has 5 = .ok (.invokevirtual 355, 3) := by decide +kernel
theorem dX11_has_8 : decode cX11_has 8 = .ok (.ireturn, 1) := by decide +kernel
theorem dX11_echo_0 : decode cX11_echo 0 = .ok (.aload_n 0, 1) := by decide +kernel
theorem dX11_echo_1 : decode cX11_echo 1 = .ok (.iload_n 1, 1) := by decide +kernel
theorem dX11_echo_2 : decode cX11_echo 2 = .ok (.invokevirtual 153, 3) := by decide +kernel
theorem dX11_echo_5 : decode cX11_echo 5 = .ok (.astore_n 2, 1) := by decide +kernel
theorem dX11_echo_6 : decode cX11_echo 6 = .ok (.iconst 0, 1) := by decide +kernel
theorem dX11_echo_7 : decode cX11_echo 7 = .ok (.istore_n 3, 1) := by decide +kernel
theorem dX11_echo_8 : decode cX11_echo 8 = .ok (.iconst 0, 1) := by decide +kernel
theorem dX11_echo_9 : decode cX11_echo 9 = .ok (.istore 4, 2) := by decide +kernel
theorem dX11_echo_11 : decode cX11_echo 11 = .ok (.iload 4, 2) := by decide +kernel
theorem dX11_echo_13 : decode cX11_echo 13 = .ok (.aload_n 2, 1) := by decide +kernel
theorem dX11_echo_14 : decode cX11_echo 14 = .ok (.getfield 157, 3) := by decide +kernel
theorem dX11_echo_17 : decode cX11_echo 17 = .ok (.if_icmp .ge 44, 3) := by decide +kernel
theorem dX11_echo_20 : decode cX11_echo 20 = .ok (.iload 4, 2) := by decide +kernel
theorem dX11_echo_22 : decode cX11_echo 22 = .ok (.iconst 1, 1) := by decide +kernel
theorem dX11_echo_23 : decode cX11_echo 23 = .ok (.iadd, 1) := by decide +kernel
theorem dX11_echo_24 : decode cX11_echo 24 = .ok (.istore 5, 2) := by decide +kernel
theorem dX11_echo_26 : decode cX11_echo 26 = .ok (.iload 5, 2) := by decide +kernel
theorem dX11_echo_28 : decode cX11_echo 28 = .ok (.aload_n 2, 1) := by decide +kernel
theorem dX11_echo_29 : decode cX11_echo 29 = .ok (.getfield 157, 3) := by decide +kernel
theorem dX11_echo_32 : decode cX11_echo 32 = .ok (.if_icmp .ge 23, 3) := by decide +kernel
theorem dX11_echo_35 : decode cX11_echo 35 = .ok (.iload_n 3, 1) := by decide +kernel
theorem dX11_echo_36 : decode cX11_echo 36 = .ok (.aload_n 2, 1) := by decide +kernel
theorem dX11_echo_37 : decode cX11_echo 37 = .ok (.iload 4, 2) := by decide +kernel
