theorem dX12_copy_12 : decode cX12_copy 12 = .ok (.invokevirtual 254, 3) := by decide +kernel
theorem dX12_copy_15 : decode cX12_copy 15 = .ok (.ifCond .ne 25, 3) := by decide +kernel
theorem dX12_copy_18 : decode cX12_copy 18 = .ok (.aload_n 0, 1) := by decide +kernel
theorem dX12_copy_19 : decode cX12_copy 19 = .ok (.aload_n 0, 1) := by decide +kernel
theorem dX12_copy_20 : decode cX12_copy 20 = .ok (.invokevirtual 74, 3) := by decide +kernel
theorem dX12_copy_23 : decode cX12_copy 23 = .ok (.bipush 8, 2) := by decide +kernel
theorem dX12_copy_25 : decode cX12_copy 25 = .ok (.if_icmp .ne 7, 3) := by decide +kernel
theorem dX12_copy_28 : decode cX12_copy 28 = .ok (.iconst 1, 1) := by decide +kernel
theorem dX12_copy_29 : decode cX12_copy 29 = .ok (.goto 4, 3) := by decide +kernel
theorem dX12_copy_32 : decode cX12_copy 32 = .ok (.iconst 0, 1) := by decide +kernel
theorem dX12_copy_33 : decode cX12_copy 33 = .ok (.iconst 2, 1) := by decide +kernel
theorem dX12_copy_34 : decode cX12_copy 34 = .ok (.invokevirtual 254, 3) := by decide +kernel
theorem dX12_copy_37 : decode cX12_copy 37 = .ok (.ifCond .eq 5, 3) := by decide +kernel
theorem dX12_copy_40 : decode cX12_copy 40 = .ok (.iconst 0, 1) := by decide +kernel
theorem dX12_copy_41 : decode cX12_copy 41 = .ok (.ireturn, 1) := by decide +kernel
theorem dX12_copy_42 : decode cX12_copy 42 = .ok (.aload_n 0, 1) := by decide +kernel
theorem dX12_copy_43 : decode cX12_copy 43 = .ok (.invokevirtual 340, 3) := by decide +kernel
theorem dX12_copy_46 : decode cX12_copy 46 = .ok (.aload_n 0, 1) := by decide +kernel
theorem dX12_copy_47 : decode cX12_copy 47 = .ok (.invokevirtual 74, 3) := by decide +kernel
theorem dX12_copy_50 : decode cX12_copy 50 = .ok (.istore_n 2, 1) := by decide +kernel
theorem dX12_copy_51 : decode cX12_copy 51 = .ok (.iconst 0, 1) := by decide +kernel
theorem dX12_copy_52 : decode cX12_copy 52 = .ok (.istore_n 3, 1) := by decide +kernel
theorem dX12_copy_53 : decode cX12_copy 53 = .ok (.iload_n 3, 1) := by decide +kernel
theorem dX12_copy_54 : decode cX12_copy 54 = .ok (.bipush 53, 2) := by decide +kernel
theorem dX12_copy_56 : decode cX12_copy 56 = .ok (.if_icmp .ge 25, 3) := by decide +kernel
theorem dX12_copy_59 : decode cX12_copy 59 = .ok (.aload_n 0, 1) := by decide +kernel
theorem dX12_copy_60 : decode cX12_copy 60 = .ok (.getfield 13, 3) := by decide +kernel
theorem dX12_copy_63 : decode cX12_copy 63 = .ok (.iload_n 2, 1) := by decide +kernel
theorem dX12_copy_64 : decode cX12_copy 64 = .ok (.iload_n 3, 1) := by decide +kernel
theorem dX12_copy_65 : decode cX12_copy 65 = .ok (.invokestatic 67, 3) := by decide +kernel
theorem dX12_copy_68 : decode cX12_copy 68 = .ok (.aload_n 0, 1) := by decide +kernel
theorem dX12_copy_69 : decode cX12_copy 69 = .ok (.iload_n 1, 1) := by decide +kernel
theorem dX12_copy_70 : decode cX12_copy 70 = .ok (.iload_n 3, 1) := by decide +kernel
theorem dX12_copy_71 : decode cX12_copy 71 = .ok (.invokevirtual 71, 3) := by decide +kernel
theorem dX12_copy_74 : decode cX12_copy 74 = .ok (.iastore, 1) := by decide +kernel
theorem dX12_copy_75 : decode cX12_copy 75 = .ok (.iinc 3 1, 3) := by decide +kernel
theorem dX12_copy_78 : decode cX12_copy 78 = .ok (.goto (-25), 3) := by decide +kernel
theorem dX12_copy_81 : decode cX12_copy 81 = .ok (.aload_n 0, 1) := by decide +kernel
theorem dX12_copy_82 : decode cX12_copy 82 = .ok (.getfield 13, 3) := by decide +kernel
theorem dX12_copy_85 : decode cX12_copy 85 = .ok (.iload_n 2, 1) := by decide +kernel
theorem dX12_copy_86 : decode cX12_copy 86 = .ok (.iconst 3, 1) := by decide +kernel
theorem dX12_copy_87 : decode cX12_copy 87 = .ok (.invokestatic 67, 3) := by decide +kernel
theorem dX12_copy_90 : decode cX12_copy 90 = .ok (.iconst 0, 1) := by decide +kernel
theorem dX12_copy_91 : decode cX12_copy 91 = .ok (.iastore, 1) := by decide +kernel
theorem dX12_copy_92 : decode cX12_copy 92 = .ok (.aload_n 0, 1) := by decide +kernel
theorem dX12_copy_93 : decode cX12_copy 93 = .ok (.getfield 13, 3) := by decide +kernel
theorem dX12_copy_96 : decode cX12_copy 96 = .ok (.iconst 0, 1) := by decide +kernel
theorem dX12_copy_97 : decode cX12_copy 97 = .ok (.dup2, 1) := by decide +kernel
theorem dX12_copy_98 : decode cX12_copy 98 = .ok (.iaload, 1) := by decide +kernel
theorem dX12_copy_99 : decode cX12_copy 99 = .ok (.iconst 1, 1) := by decide +kernel
theorem dX12_copy_100 : decode cX12_copy 100 = .ok (.iadd, 1) := by decide +kernel
theorem dX12_copy_101 : decode cX12_copy 101 = .ok (.iastore, 1) := by decide +kernel
theorem dX12_copy_102 : decode cX12_copy 102 = .ok (.iload_n 2, 1) := by decide +kernel
theorem dX12_copy_103 : decode cX12_copy 103 = .ok (.ireturn, 1) := by decide +kernel
theorem dX12_prune_0 : decode cX12_prune 0 = .ok (.aload_n 0, 1) := by decide +kernel
theorem dX12_prune_1 : decode cX12_prune 1 = .ok (.iconst 0, 1) := by decide +kernel
theorem dX12_prune_2 : decode cX12_prune 2 = .ok (.putfield 3, 3) := by decide +kernel
theorem dX12_prune_5 : decode cX12_prune 5 = .ok (.aload_n 0, 1) := by decide +kernel
theorem dX12_prune_6 : decode cX12_prune 6 = .ok (.aload_n 0, 1) := by decide +kernel
theorem dX12_prune_7 : decode cX12_prune 7 = .ok (.iload_n 1, 1) := by decide +kernel
theorem dX12_prune_8 : decode cX12_prune 8 = .ok (.invokevirtual 82, 3) := by decide +kernel
theorem dX12_prune_11 : decode cX12_prune 11 = .ok (.iconst 1, 1) := by decide +kernel
theorem dX12_prune_12 : decode cX12_prune 12 = .ok (.invokevirtual 254, 3) := by decide +kernel
theorem dX12_prune_15 : decode cX12_prune 15 = .ok (.ifCond .ne 30, 3) := by decide +kernel
theorem dX12_prune_18 : decode cX12_prune 18 = .ok (.aload_n 0, 1) := by decide +kernel
theorem dX12_prune_19 : decode cX12_prune 19 = .ok (.iload_n 2, 1) := by decide +kernel
theorem dX12_prune_20 : decode cX12_prune 20 = .ok (.iconst 1, 1) := by decide +kernel
theorem dX12_prune_21 : decode cX12_prune 21 = .ok (.if_icmp .lt 12, 3) := by decide +kernel
theorem dX12_prune_24 : decode cX12_prune 24 = .ok (.iload_n 2, 1) := by decide +kernel
theorem dX12_prune_25 : decode cX12_prune 25 = .ok (.aload_n 0, 1) := by decide +kernel
theorem dX12_prune_26 : decode cX12_prune 26 = .ok (.iload_n 1, 1) := by decide +kernel
theorem dX12_prune_27 : decode cX12_prune 27 = .ok (.invokevirtual 86, 3) := by decide +kernel
theorem dX12_prune_30 : decode cX12_prune 30 = .ok (.if_icmp .lt 7, 3) := by decide +kernel
theorem dX12_prune_33 : decode cX12_prune 33 = .ok (.iconst 1, 1) := by decide +kernel
theorem dX12_prune_34 : decode cX12_prune 34 = .ok (.goto 4, 3) := by decide +kernel
theorem dX12_prune_37 : decode cX12_prune 37 = .ok (.iconst 0, 1) := by decide +kernel
theorem dX12_prune_38 : decode cX12_prune 38 = .ok (.iconst 2, 1) := by decide +kernel
theorem dX12_prune_39 : decode cX12_prune 39 = .ok (.invokevirtual 254, 3) := by decide +kernel
theorem dX12_prune_42 : decode cX12_prune 42 = .ok (.ifCond .eq 5, 3) := by decide +kernel
theorem dX12_prune_45 : decode cX12_prune 45 = .ok (.iconst 0, 1) := by decide +kernel
theorem dX12_prune_46 : decode cX12_prune 46 = .ok (.ireturn, 1) := by decide +kernel
theorem dX12_prune_47 : decode cX12_prune 47 = .ok (.aload_n 0, 1) := by decide +kernel
theorem dX12_prune_48 : decode cX12_prune 48 = .ok (.invokevirtual 340, 3) := by decide +kernel
theorem dX12_prune_51 : decode cX12_prune 51 = .ok (.aload_n 0, 1) := by decide +kernel
theorem dX12_prune_52 : decode cX12_prune 52 = .ok (.getfield 13, 3) := by decide +kernel
theorem dX12_prune_55 : decode cX12_prune 55 = .ok (.iload_n 1, 1) := by decide +kernel
theorem dX12_prune_56 : decode cX12_prune 56 = .ok (.iconst 0, 1) := by decide +kernel
theorem dX12_prune_57 : decode cX12_prune 57 = .ok (.invokestatic 67, 3) := by decide +kernel
theorem dX12_prune_60 : decode cX12_prune 60 = .ok (.dup2, 1) := by decide +kernel
theorem dX12_prune_61 : decode cX12_prune 61 = .ok (.iaload, 1) := by decide +kernel
theorem dX12_prune_62 : decode cX12_prune 62 = .ok (.iload_n 2, 1) := by decide +kernel
theorem dX12_prune_63 : decode cX12_prune 63 = .ok (.isub, 1) := by decide +kernel
theorem dX12_prune_64 : decode cX12_prune 64 = .ok (.iastore, 1) := by decide +kernel
theorem dX12_prune_65 : decode cX12_prune 65 = .ok (.aload_n 0, 1) := by decide +kernel
theorem dX12_prune_66 : decode cX12_prune 66 = .ok (.iload_n 1, 1) := by decide +kernel
theorem dX12_prune_67 : decode cX12_prune 67 = .ok (.invokevirtual 86, 3) := by decide +kernel
theorem dX12_prune_70 : decode cX12_prune 70 = .ok (.ireturn, 1) := by decide +kernel
theorem dX12_cut_0 : decode cX12_cut 0 = .ok (.aload_n 0, 1) := by decide +kernel
theorem dX12_cut_1 : decode cX12_cut 1 = .ok (.iconst 0, 1) := by decide +kernel
theorem dX12_cut_2 : decode cX12_cut 2 = .ok (.putfield 3, 3) := by decide +kernel
theorem dX12_cut_5 : decode cX12_cut 5 = .ok (.aload_n 0, 1) := by decide +kernel
theorem dX12_cut_6 : decode cX12_cut 6 = .ok (.aload_n 0, 1) := by decide +kernel
theorem dX12_cut_7 : decode cX12_cut 7 = .ok (.iload_n 1, 1) := by decide +kernel
theorem dX12_cut_8 : decode cX12_cut 8 = .ok (.iload_n 2, 1) := by decide +kernel
theorem dX12_cut_9 : decode cX12_cut 9 = .ok (.invokevirtual 324, 3) := by decide +kernel
theorem dX12_cut_12 : decode cX12_cut 12 = .ok (.iconst 1, 1) := by decide +kernel
theorem dX12_cut_13 : decode cX12_cut 13 = .ok (.invokevirtual 254, 3) := by decide +kernel
theorem dX12_cut_16 : decode cX12_cut 16 = .ok (.ifCond .ne 25, 3) := by decide +kernel
theorem dX12_cut_19 : decode cX12_cut 19 = .ok (.aload_n 0, 1) := by decide +kernel
theorem dX12_cut_20 : decode cX12_cut 20 = .ok (.aload_n 0, 1) := by decide +kernel
theorem dX12_cut_21 : decode cX12_cut 21 = .ok (.iload_n 1, 1) := by decide +kernel
theorem dX12_cut_22 : decode cX12_cut 22 = .ok (.invokevirtual 86, 3) := by decide +kernel
theorem dX12_cut_25 : decode cX12_cut 25 = .ok (.iconst 1, 1) := by decide +kernel
theorem dX12_cut_26 : decode cX12_cut 26 = .ok (.if_icmp .ne 7, 3) := by decide +kernel
theorem dX12_cut_29 : decode cX12_cut 29 = .ok (.iconst 1, 1) := by decide +kernel
theorem dX12_cut_30 : decode cX12_cut 30 = .ok (.goto 4, 3) := by decide +kernel
theorem dX12_cut_33 : decode cX12_cut 33 = .ok (.iconst 0, 1) := by decide +kernel
theorem dX12_cut_34 : decode cX12_cut 34 = .ok (.iconst 2, 1) := by decide +kernel
theorem dX12_cut_35 : decode cX12_cut 35 = .ok (.invokevirtual 254, 3) := by decide +kernel
theorem dX12_cut_38 : decode cX12_cut 38 = .ok (.ifCond .eq 5, 3) := by decide +kernel
theorem dX12_cut_41 : decode cX12_cut 41 = .ok (.iconst 0, 1) := by decide +kernel
theorem dX12_cut_42 : decode cX12_cut 42 = .ok (.ireturn, 1) := by decide +kernel
theorem dX12_cut_43 : decode cX12_cut 43 = .ok (.aload_n 0, 1) := by decide +kernel
theorem dX12_cut_44 : decode cX12_cut 44 = .ok (.invokevirtual 340, 3) := by decide +kernel
theorem dX12_cut_47 : decode cX12_cut 47 = .ok (.aload_n 0, 1) := by decide +kernel
theorem dX12_cut_48 : decode cX12_cut 48 = .ok (.iload_n 1, 1) := by decide +kernel
theorem dX12_cut_49 : decode cX12_cut 49 = .ok (.iload_n 2, 1) := by decide +kernel
theorem dX12_cut_50 : decode cX12_cut 50 = .ok (.invokevirtual 286, 3) := by decide +kernel
theorem dX12_cut_53 : decode cX12_cut 53 = .ok (.istore_n 3, 1) := by decide +kernel
theorem dX12_cut_54 : decode cX12_cut 54 = .ok (.iload_n 2, 1) := by decide +kernel
theorem dX12_cut_55 : decode cX12_cut 55 = .ok (.istore 4, 2) := by decide +kernel
theorem dX12_cut_57 : decode cX12_cut 57 = .ok (.iload 4, 2) := by decide +kernel
theorem dX12_cut_59 : decode cX12_cut 59 = .ok (.iconst 1, 1) := by decide +kernel
theorem dX12_cut_60 : decode cX12_cut 60 = .ok (.iadd, 1) := by decide +kernel
theorem dX12_cut_61 : decode cX12_cut 61 = .ok (.aload_n 0, 1) := by decide +kernel
theorem dX12_cut_62 : decode cX12_cut 62 = .ok (.iload_n 1, 1) := by decide +kernel
theorem dX12_cut_63 : decode cX12_cut 63 = .ok (.invokevirtual 86, 3) := by decide +kernel
theorem dX12_cut_66 : decode cX12_cut 66 = .ok (.if_icmp .ge 57, 3) := by decide +kernel
theorem dX12_cut_69 : decode cX12_cut 69 = .ok (.aload_n 0, 1) := by decide +kernel
theorem dX12_cut_70 : decode cX12_cut 70 = .ok (.getfield 13, 3) := by decide +kernel
theorem dX12_cut_73 : decode cX12_cut 73 = .ok (.iload_n 1, 1) := by decide +kernel
theorem dX12_cut_74 : decode cX12_cut 74 = .ok (.iconst 5, 1) := by decide +kernel
theorem dX12_cut_75 : decode cX12_cut 75 = .ok (.iload 4, 2) := by decide +kernel
theorem dX12_cut_77 : decode cX12_cut 77 = .ok (.iadd, 1) := by decide +kernel
theorem dX12_cut_78 : decode cX12_cut 78 = .ok (.invokestatic 67, 3) := by decide +kernel
theorem dX12_cut_81 : decode cX12_cut 81 = .ok (.aload_n 0, 1) := by decide +kernel
theorem dX12_cut_82 : decode cX12_cut 82 = .ok (.iload_n 1, 1) := by decide +kernel
theorem dX12_cut_83 : decode cX12_cut 83 = .ok (.iload 4, 2) := by decide +kernel
theorem dX12_cut_85 : decode cX12_cut 85 = .ok (.iconst 1, 1) := by decide +kernel
theorem dX12_cut_86 : decode cX12_cut 86 = .ok (.iadd, 1) := by decide +kernel
theorem dX12_cut_87 : decode cX12_cut 87 = .ok (.invokevirtual 286, 3) := by decide +kernel
theorem dX12_cut_90 : decode cX12_cut 90 = .ok (.iastore, 1) := by decide +kernel
theorem dX12_cut_91 : decode cX12_cut 91 = .ok (.aload_n 0, 1) := by decide +kernel
theorem dX12_cut_92 : decode cX12_cut 92 = .ok (.getfield 13, 3) := by decide +kernel
theorem dX12_cut_95 : decode cX12_cut 95 = .ok (.iload_n 1, 1) := by decide +kernel
theorem dX12_cut_96 : decode cX12_cut 96 = .ok (.bipush 29, 2) := by decide +kernel
theorem dX12_cut_98 : decode cX12_cut 98 = .ok (.iload 4, 2) := by decide +kernel
theorem dX12_cut_100 : decode cX12_cut 100 = .ok (.iadd, 1) := by decide +kernel
theorem dX12_cut_101 : decode cX12_cut 101 = .ok (.invokestatic 67, 3) := by decide +kernel
theorem dX12_cut_104 : decode cX12_cut 104 = .ok (.aload_n 0, 1) := by decide +kernel
theorem dX12_cut_105 : decode cX12_cut 105 = .ok (.iload_n 1, 1) := by decide +kernel
theorem dX12_cut_106 : decode cX12_cut 106 = .ok (.bipush 29, 2) := by decide +kernel
theorem dX12_cut_108 : decode cX12_cut 108 = .ok (.iload 4, 2) := by decide +kernel
theorem dX12_cut_110 : decode cX12_cut 110 = .ok (.iadd, 1) := by decide +kernel
theorem dX12_cut_111 : decode cX12_cut 111 = .ok (.iconst 1, 1) := by decide +kernel
theorem dX12_cut_112 : decode cX12_cut 112 = .ok (.iadd, 1) := by decide +kernel
theorem dX12_cut_113 : decode cX12_cut 113 = .ok (.invokevirtual 71, 3) := by decide +kernel
theorem dX12_cut_116 : decode cX12_cut 116 = .ok (.iastore, 1) := by decide +kernel
theorem dX12_cut_117 : decode cX12_cut 117 = .ok (.iinc 4 1, 3) := by decide +kernel
theorem dX12_cut_120 : decode cX12_cut 120 = .ok (.goto (-63), 3) := by decide +kernel
theorem dX12_cut_123 : decode cX12_cut 123 = .ok (.aload_n 0, 1) := by decide +kernel
theorem dX12_cut_124 : decode cX12_cut 124 = .ok (.getfield 13, 3) := by decide +kernel
theorem dX12_cut_127 : decode cX12_cut 127 = .ok (.iload_n 1, 1) := by decide +kernel
theorem dX12_cut_128 : decode cX12_cut 128 = .ok (.iconst 0, 1) := by decide +kernel
theorem dX12_cut_129 : decode cX12_cut 129 = .ok (.invokestatic 67, 3) := by decide +kernel
theorem dX12_cut_132 : decode cX12_cut 132 = .ok (.dup2, 1) := by decide +kernel
theorem dX12_cut_133 : decode cX12_cut 133 = .ok (.iaload, 1) := by decide +kernel
theorem dX12_cut_134 : decode cX12_cut 134 = .ok (.iconst 1, 1) := by decide +kernel
theorem dX12_cut_135 : decode cX12_cut 135 = .ok (.isub, 1) := by decide +kernel
theorem dX12_cut_136 : decode cX12_cut 136 = .ok (.iastore, 1) := by decide +kernel
theorem dX12_cut_137 : decode cX12_cut 137 = .ok (.iload_n 3, 1) := by decide +kernel
theorem dX12_cut_138 : decode cX12_cut 138 = .ok (.ireturn, 1) := by decide +kernel
theorem dX12_burn_0 : decode cX12_burn 0 = .ok (.aload_n 0, 1) := by decide +kernel
theorem dX12_burn_1 : decode cX12_burn 1 = .ok (.iconst 0, 1) := by decide +kernel
theorem dX12_burn_2 : decode cX12_burn 2 = .ok (.putfield 3, 3) := by decide +kernel
theorem dX12_burn_5 : decode cX12_burn 5 = .ok (.aload_n 0, 1) := by decide +kernel
theorem dX12_burn_6 : decode cX12_burn 6 = .ok (.aload_n 0, 1) := by decide +kernel
theorem dX12_burn_7 : decode cX12_burn 7 = .ok (.iload_n 1, 1) := by decide +kernel
theorem dX12_burn_8 : decode cX12_burn 8 = .ok (.invokevirtual 82, 3) := by decide +kernel
theorem dX12_burn_11 : decode cX12_burn 11 = .ok (.iconst 1, 1) := by decide +kernel
theorem dX12_burn_12 : decode cX12_burn 12 = .ok (.invokevirtual 254, 3) := by decide +kernel
theorem dX12_burn_15 : decode cX12_burn 15 = .ok (.ifCond .eq 5, 3) := by decide +kernel
theorem dX12_burn_18 : decode cX12_burn 18 = .ok (.iconst 0, 1) := by decide +kernel
theorem dX12_burn_19 : decode cX12_burn 19 = .ok (.ireturn, 1) := by decide +kernel
theorem dX12_burn_20 : decode cX12_burn 20 = .ok (.aload_n 0, 1) := by decide +kernel
theorem dX12_burn_21 : decode cX12_burn 21 = .ok (.invokevirtual 340, 3) := by decide +kernel
theorem dX12_burn_24 : decode cX12_burn 24 = .ok (.iload_n 1, 1) := by decide +kernel
theorem dX12_burn_25 : decode cX12_burn 25 = .ok (.iconst 0, 1) := by decide +kernel
theorem dX12_burn_26 : decode cX12_burn 26 = .ok (.invokestatic 67, 3) := by decide +kernel
theorem dX12_burn_29 : decode cX12_burn 29 = .ok (.istore_n 2, 1) := by decide +kernel
theorem dX12_burn_30 : decode cX12_burn 30 = .ok (.iload_n 2, 1) := by decide +kernel
theorem dX12_burn_31 : decode cX12_burn 31 = .ok (.bipush 53, 2) := by decide +kernel
theorem dX12_burn_33 : decode cX12_burn 33 = .ok (.iadd, 1) := by decide +kernel
theorem dX12_burn_34 : decode cX12_burn 34 = .ok (.sipush 460, 3) := by decide +kernel
theorem dX12_burn_37 : decode cX12_burn 37 = .ok (.if_icmp .ge 24, 3) := by decide +kernel
theorem dX12_burn_40 : decode cX12_burn 40 = .ok (.aload_n 0, 1) := by decide +kernel
theorem dX12_burn_41 : decode cX12_burn 41 = .ok (.getfield 13, 3) := by decide +kernel
theorem dX12_burn_44 : decode cX12_burn 44 = .ok (.iload_n 2, 1) := by decide +kernel
theorem dX12_burn_45 : decode cX12_burn 45 = .ok (.aload_n 0, 1) := by decide +kernel
theorem dX12_burn_46 : decode cX12_burn 46 = .ok (.getfield 13, 3) := by decide +kernel
theorem dX12_burn_49 : decode cX12_burn 49 = .ok (.iload_n 2, 1) := by decide +kernel
theorem dX12_burn_50 : decode cX12_burn 50 = .ok (.bipush 53, 2) := by decide +kernel
theorem dX12_burn_52 : decode cX12_burn 52 = .ok (.iadd, 1) := by decide +kernel
theorem dX12_burn_53 : decode cX12_burn 53 = .ok (.iaload, 1) := by decide +kernel
theorem dX12_burn_54 : decode cX12_burn 54 = .ok (.iastore, 1) := by decide +kernel
theorem dX12_burn_55 : decode cX12_burn 55 = .ok (.iinc 2 1, 3) := by decide +kernel
theorem dX12_burn_58 : decode cX12_burn 58 = .ok (.goto (-28), 3) := by decide +kernel
theorem dX12_burn_61 : decode cX12_burn 61 = .ok (.aload_n 0, 1) := by decide +kernel
theorem dX12_burn_62 : decode cX12_burn 62 = .ok (.getfield 13, 3) := by decide +kernel
theorem dX12_burn_65 : decode cX12_burn 65 = .ok (.iconst 0, 1) := by decide +kernel
theorem dX12_burn_66 : decode cX12_burn 66 = .ok (.dup2, 1) := by decide +kernel
theorem dX12_burn_67 : decode cX12_burn 67 = .ok (.iaload, 1) := by decide +kernel
theorem dX12_burn_68 : decode cX12_burn 68 = .ok (.iconst 1, 1) := by decide +kernel
theorem dX12_burn_69 : decode cX12_burn 69 = .ok (.isub, 1) := by decide +kernel
theorem dX12_burn_70 : decode cX12_burn 70 = .ok (.iastore, 1) := by decide +kernel
theorem dX12_burn_71 : decode cX12_burn 71 = .ok (.aload_n 0, 1) := by decide +kernel
theorem dX12_burn_72 : decode cX12_burn 72 = .ok (.invokevirtual 74, 3) := by decide +kernel
theorem dX12_burn_75 : decode cX12_burn 75 = .ok (.ireturn, 1) := by decide +kernel
theorem dX12_grows_0 : decode cX12_grows 0 = .ok (.aload_n 0, 1) := by decide +kernel
theorem dX12_grows_1 : decode cX12_grows 1 = .ok (.iload_n 1, 1) := by decide +kernel
theorem dX12_grows_2 : decode cX12_grows 2 = .ok (.invokevirtual 311, 3) := by decide +kernel
theorem dX12_grows_5 : decode cX12_grows 5 = .ok (.aload_n 0, 1) := by decide +kernel
theorem dX12_grows_6 : decode cX12_grows 6 = .ok (.invokevirtual 297, 3) := by decide +kernel
theorem dX12_grows_9 : decode cX12_grows 9 = .ok (.ifCond .ne 5, 3) := by decide +kernel
theorem dX12_grows_12 : decode cX12_grows 12 = .ok (.iconst 0, 1) := by decide +kernel
theorem dX12_grows_13 : decode cX12_grows 13 = .ok (.ireturn, 1) := by decide +kernel
theorem dX12_grows_14 : decode cX12_grows 14 = .ok (.aload_n 0, 1) := by decide +kernel
theorem dX12_grows_15 : decode cX12_grows 15 = .ok (.invokevirtual 294, 3) := by decide +kernel
theorem dX12_grows_18 : decode cX12_grows 18 = .ok (.istore_n 2, 1) := by decide +kernel
theorem dX12_grows_19 : decode cX12_grows 19 = .ok (.aload_n 0, 1) := by decide +kernel
theorem dX12_grows_20 : decode cX12_grows 20 = .ok (.bipush 100, 2) := by decide +kernel
theorem dX12_grows_22 : decode cX12_grows 22 = .ok (.invokevirtual 347, 3) := by decide +kernel
theorem dX12_grows_25 : decode cX12_grows 25 = .ok (.aload_n 0, 1) := by decide +kernel
theorem dX12_grows_26 : decode cX12_grows 26 = .ok (.getfield 13, 3) := by decide +kernel
theorem dX12_grows_29 : decode cX12_grows 29 = .ok (.iconst 5, 1) := by decide +kernel
theorem dX12_grows_30 : decode cX12_grows 30 = .ok (.iaload, 1) := by decide +kernel
theorem dX12_grows_31 : decode cX12_grows 31 = .ok (.if_icmp .ge 10, 3) := by decide +kernel
theorem dX12_grows_34 : decode cX12_grows 34 = .ok (.aload_n 0, 1) := by decide +kernel
theorem dX12_grows_35 : decode cX12_grows 35 = .ok (.bipush 12, 2) := by decide +kernel
theorem dX12_grows_37 : decode cX12_grows 37 = .ok (.invokevirtual 347, 3) := by decide +kernel
theorem dX12_grows_40 : decode cX12_grows 40 = .ok (.istore_n 2, 1) := by decide +kernel
theorem dX12_grows_41 : decode cX12_grows 41 = .ok (.aload_n 0, 1) := by decide +kernel
theorem dX12_grows_42 : decode cX12_grows 42 = .ok (.iload_n 1, 1) := by decide +kernel
theorem dX12_grows_43 : decode cX12_grows 43 = .ok (.iload_n 2, 1) := by decide +kernel
theorem dX12_grows_44 : decode cX12_grows 44 = .ok (.invokevirtual 149, 3) := by decide +kernel
theorem dX12_grows_47 : decode cX12_grows 47 = .ok (.iconst 1, 1) := by decide +kernel
theorem dX12_grows_48 : decode cX12_grows 48 = .ok (.ireturn, 1) := by decide +kernel
theorem dX12_oneWeek_0 : decode cX12_oneWeek 0 = .ok (.iconst 0, 1) := by decide +kernel
theorem dX12_oneWeek_1 : decode cX12_oneWeek 1 = .ok (.istore_n 1, 1) := by decide +kernel
theorem dX12_oneWeek_2 : decode cX12_oneWeek 2 = .ok (.iconst 0, 1) := by decide +kernel
theorem dX12_oneWeek_3 : decode cX12_oneWeek 3 = .ok (.istore_n 2, 1) := by decide +kernel
theorem dX12_oneWeek_4 : decode cX12_oneWeek 4 = .ok (.iload_n 2, 1) := by decide +kernel
theorem dX12_oneWeek_5 : decode cX12_oneWeek 5 = .ok (.aload_n 0, 1) := by decide +kernel
theorem dX12_oneWeek_6 : decode cX12_oneWeek 6 = .ok (.invokevirtual 74, 3) := by decide +kernel
theorem dX12_oneWeek_9 : decode cX12_oneWeek 9 = .ok (.if_icmp .ge 39, 3) := by decide +kernel
theorem dX12_oneWeek_12 : decode cX12_oneWeek 12 = .ok (.iload_n 1, 1) := by decide +kernel
theorem dX12_oneWeek_13 : decode cX12_oneWeek 13 = .ok (.aload_n 0, 1) := by decide +kernel
theorem dX12_oneWeek_14 : decode cX12_oneWeek 14 = .ok (.iload_n 2, 1) := by decide +kernel
theorem dX12_oneWeek_15 : decode cX12_oneWeek 15 = .ok (.invokevirtual 350, 3) := by decide +kernel
theorem dX12_oneWeek_18 : decode cX12_oneWeek 18 = .ok (.iadd, 1) := by decide +kernel
theorem dX12_oneWeek_19 : decode cX12_oneWeek 19 = .ok (.istore_n 1, 1) := by decide +kernel
theorem dX12_oneWeek_20 : decode cX12_oneWeek 20 = .ok (.iload_n 1, 1) := by decide +kernel
theorem dX12_oneWeek_21 : decode cX12_oneWeek 21 = .ok (.aload_n 0, 1) := by decide +kernel
theorem dX12_oneWeek_22 : decode cX12_oneWeek 22 = .ok (.iload_n 2, 1) := by decide +kernel
theorem dX12_oneWeek_23 : decode cX12_oneWeek 23 = .ok (.iconst 4, 1) := by decide +kernel
theorem dX12_oneWeek_24 : decode cX12_oneWeek 24 = .ok (.invokevirtual 71, 3) := by decide +kernel
theorem dX12_oneWeek_27 : decode cX12_oneWeek 27 = .ok (.iconst 1, 1) := by decide +kernel
theorem dX12_oneWeek_28 : decode cX12_oneWeek 28 = .ok (.if_icmp .ne 11, 3) := by decide +kernel
theorem dX12_oneWeek_31 : decode cX12_oneWeek 31 = .ok (.aload_n 0, 1) := by decide +kernel
theorem dX12_oneWeek_32 : decode cX12_oneWeek 32 = .ok (.iload_n 2, 1) := by decide +kernel
theorem dX12_oneWeek_33 : decode cX12_oneWeek 33 = .ok (.invokevirtual 350, 3) := by decide +kernel
theorem dX12_oneWeek_36 : decode cX12_oneWeek 36 = .ok (.goto 4, 3) := by decide +kernel
theorem dX12_oneWeek_39 : decode cX12_oneWeek 39 = .ok (.iconst 0, 1) := by decide +kernel
theorem dX12_oneWeek_40 : decode cX12_oneWeek 40 = .ok (.iadd, 1) := by decide +kernel
theorem dX12_oneWeek_41 : decode cX12_oneWeek 41 = .ok (.istore_n 1, 1) := by decide +kernel
theorem dX12_oneWeek_42 : decode cX12_oneWeek 42 = .ok (.iinc 2 1, 3) := by decide +kernel
theorem dX12_oneWeek_45 : decode cX12_oneWeek 45 = .ok (.goto (-41), 3) := by decide +kernel
theorem dX12_oneWeek_48 : decode cX12_oneWeek 48 = .ok (.aload_n 0, 1) := by decide +kernel
theorem dX12_oneWeek_49 : decode cX12_oneWeek 49 = .ok (.getfield 13, 3) := by decide +kernel
theorem dX12_oneWeek_52 : decode cX12_oneWeek 52 = .ok (.bipush 6, 2) := by decide +kernel
theorem dX12_oneWeek_54 : decode cX12_oneWeek 54 = .ok (.dup2, 1) := by decide +kernel
theorem dX12_oneWeek_55 : decode cX12_oneWeek 55 = .ok (.iaload, 1) := by decide +kernel
theorem dX12_oneWeek_56 : decode cX12_oneWeek 56 = .ok (.iload_n 1, 1) := by decide +kernel
theorem dX12_oneWeek_57 : decode cX12_oneWeek 57 = .ok (.iadd, 1) := by decide +kernel
theorem dX12_oneWeek_58 : decode cX12_oneWeek 58 = .ok (.iastore, 1) := by decide +kernel
theorem dX12_oneWeek_59 : decode cX12_oneWeek 59 = .ok (.aload_n 0, 1) := by decide +kernel
theorem dX12_oneWeek_60 : decode cX12_oneWeek 60 = .ok (.getfield 13, 3) := by decide +kernel
theorem dX12_oneWeek_63 : decode cX12_oneWeek 63 = .ok (.iconst 4, 1) := by decide +kernel
theorem dX12_oneWeek_64 : decode cX12_oneWeek 64 = .ok (.sipush 9999, 3) := by decide +kernel
theorem dX12_oneWeek_67 : decode cX12_oneWeek 67 = .ok (.aload_n 0, 1) := by decide +kernel
theorem dX12_oneWeek_68 : decode cX12_oneWeek 68 = .ok (.getfield 13, 3) := by decide +kernel
theorem dX12_oneWeek_71 : decode cX12_oneWeek 71 = .ok (.iconst 4, 1) := by decide +kernel
theorem dX12_oneWeek_72 : decode cX12_oneWeek 72 = .ok (.iaload, 1) := by decide +kernel
theorem dX12_oneWeek_73 : decode cX12_oneWeek 73 = .ok (.iconst 1, 1) := by decide +kernel
theorem dX12_oneWeek_74 : decode cX12_oneWeek 74 = .ok (.iadd, 1) := by decide +kernel
theorem dX12_oneWeek_75 : decode cX12_oneWeek 75 = .ok (.invokestatic 303, 3) := by decide +kernel
theorem dX12_oneWeek_78 : decode cX12_oneWeek 78 = .ok (.iastore, 1) := by decide +kernel
theorem dX12_oneWeek_79 : decode cX12_oneWeek 79 = .ok (.iload_n 1, 1) := by decide +kernel
theorem dX12_oneWeek_80 : decode cX12_oneWeek 80 = .ok (.ireturn, 1) := by decide +kernel
theorem dX12_weeks_0 : decode cX12_weeks 0 = .ok (.aload_n 0, 1) := by decide +kernel
theorem dX12_weeks_1 : decode cX12_weeks 1 = .ok (.iconst 0, 1) := by decide +kernel
theorem dX12_weeks_2 : decode cX12_weeks 2 = .ok (.putfield 3, 3) := by decide +kernel
theorem dX12_weeks_5 : decode cX12_weeks 5 = .ok (.aload_n 0, 1) := by decide +kernel
theorem dX12_weeks_6 : decode cX12_weeks 6 = .ok (.iload_n 1, 1) := by decide +kernel
theorem dX12_weeks_7 : decode cX12_weeks 7 = .ok (.iconst 1, 1) := by decide +kernel
theorem dX12_weeks_8 : decode cX12_weeks 8 = .ok (.bipush 60, 2) := by decide +kernel
theorem dX12_weeks_10 : decode cX12_weeks 10 = .ok (.invokestatic 78, 3) := by decide +kernel
theorem dX12_weeks_13 : decode cX12_weeks 13 = .ok (.ifCond .ne 7, 3) := by decide +kernel
theorem dX12_weeks_16 : decode cX12_weeks 16 = .ok (.iconst 1, 1) := by decide +kernel
theorem dX12_weeks_17 : decode cX12_weeks 17 = .ok (.goto 4, 3) := by decide +kernel
theorem dX12_weeks_20 : decode cX12_weeks 20 = .ok (.iconst 0, 1) := by decide +kernel
theorem dX12_weeks_21 : decode cX12_weeks 21 = .ok (.iconst 1, 1) := by decide +kernel
theorem dX12_weeks_22 : decode cX12_weeks 22 = .ok (.invokevirtual 254, 3) := by decide +kernel
theorem dX12_weeks_25 : decode cX12_weeks 25 = .ok (.ifCond .eq 5, 3) := by decide +kernel
theorem dX12_weeks_28 : decode cX12_weeks 28 = .ok (.iconst 0, 1) := by decide +kernel
theorem dX12_weeks_29 : decode cX12_weeks 29 = .ok (.ireturn, 1) := by decide +kernel
theorem dX12_weeks_30 : decode cX12_weeks 30 = .ok (.aload_n 0, 1) := by decide +kernel
theorem dX12_weeks_31 : decode cX12_weeks 31 = .ok (.invokevirtual 340, 3) := by decide +kernel
theorem dX12_weeks_34 : decode cX12_weeks 34 = .ok (.iconst 0, 1) := by decide +kernel
theorem dX12_weeks_35 : decode cX12_weeks 35 = .ok (.istore_n 2, 1) := by decide +kernel
theorem dX12_weeks_36 : decode cX12_weeks 36 = .ok (.iconst 0, 1) := by decide +kernel
theorem dX12_weeks_37 : decode cX12_weeks 37 = .ok (.istore_n 3, 1) := by decide +kernel
theorem dX12_weeks_38 : decode cX12_weeks 38 = .ok (.iload_n 3, 1) := by decide +kernel
theorem dX12_weeks_39 : decode cX12_weeks 39 = .ok (.iload_n 1, 1) := by decide +kernel
theorem dX12_weeks_40 : decode cX12_weeks 40 = .ok (.if_icmp .ge 16, 3) := by decide +kernel
theorem dX12_weeks_43 : decode cX12_weeks 43 = .ok (.iload_n 2, 1) := by decide +kernel
theorem dX12_weeks_44 : decode cX12_weeks 44 = .ok (.aload_n 0, 1) := by decide +kernel
theorem dX12_weeks_45 : decode cX12_weeks 45 = .ok (.invokevirtual 353, 3) := by decide +kernel
theorem dX12_weeks_48 : decode cX12_weeks 48 = .ok (.iadd, 1) := by decide +kernel
theorem dX12_weeks_49 : decode cX12_weeks 49 = .ok (.istore_n 2, 1) := by decide +kernel
theorem dX12_weeks_50 : decode cX12_weeks 50 = .ok (.iinc 3 1, 3) := by decide +kernel
theorem dX12_weeks_53 : decode cX12_weeks 53 = .ok (.goto (-15), 3) := by decide +kernel
theorem dX12_weeks_56 : decode cX12_weeks 56 = .ok (.iload_n 2, 1) := by decide +kernel
theorem dX12_weeks_57 : decode cX12_weeks 57 = .ok (.ireturn, 1) := by decide +kernel
theorem dX12_ahead_0 : decode cX12_ahead 0 = .ok (.aload_n 0, 1) := by decide +kernel
theorem dX12_ahead_1 : decode cX12_ahead 1 = .ok (.iconst 0, 1) := by decide +kernel
theorem dX12_ahead_2 : decode cX12_ahead 2 = .ok (.putfield 3, 3) := by decide +kernel
theorem dX12_ahead_5 : decode cX12_ahead 5 = .ok (.aload_n 0, 1) := by decide +kernel
theorem dX12_ahead_6 : decode cX12_ahead 6 = .ok (.aload_n 0, 1) := by decide +kernel
theorem dX12_ahead_7 : decode cX12_ahead 7 = .ok (.iload_n 1, 1) := by decide +kernel
theorem dX12_ahead_8 : decode cX12_ahead 8 = .ok (.invokevirtual 82, 3) := by decide +kernel
theorem dX12_ahead_11 : decode cX12_ahead 11 = .ok (.iconst 1, 1) := by decide +kernel
theorem dX12_ahead_12 : decode cX12_ahead 12 = .ok (.invokevirtual 254, 3) := by decide +kernel
theorem dX12_ahead_15 : decode cX12_ahead 15 = .ok (.ifCond .ne 37, 3) := by decide +kernel
theorem dX12_ahead_18 : decode cX12_ahead 18 = .ok (.aload_n 0, 1) := by decide +kernel
theorem dX12_ahead_19 : decode cX12_ahead 19 = .ok (.iload_n 2, 1) := by decide +kernel
theorem dX12_ahead_20 : decode cX12_ahead 20 = .ok (.invokestatic 356, 3) := by decide +kernel
theorem dX12_ahead_23 : decode cX12_ahead 23 = .ok (.iconst 2, 1) := by decide +kernel
theorem dX12_ahead_24 : decode cX12_ahead 24 = .ok (.invokevirtual 254, 3) := by decide +kernel
theorem dX12_ahead_27 : decode cX12_ahead 27 = .ok (.ifCond .ne 25, 3) := by decide +kernel
theorem dX12_ahead_30 : decode cX12_ahead 30 = .ok (.aload_n 0, 1) := by decide +kernel
theorem dX12_ahead_31 : decode cX12_ahead 31 = .ok (.iload_n 3, 1) := by decide +kernel
theorem dX12_ahead_32 : decode cX12_ahead 32 = .ok (.iconst 0, 1) := by decide +kernel
theorem dX12_ahead_33 : decode cX12_ahead 33 = .ok (.iconst 2, 1) := by decide +kernel
theorem dX12_ahead_34 : decode cX12_ahead 34 = .ok (.invokestatic 78, 3) := by decide +kernel
theorem dX12_ahead_37 : decode cX12_ahead 37 = .ok (.ifCond .ne 7, 3) := by decide +kernel
theorem dX12_ahead_40 : decode cX12_ahead 40 = .ok (.iconst 1, 1) := by decide +kernel
theorem dX12_ahead_41 : decode cX12_ahead 41 = .ok (.goto 4, 3) := by decide +kernel
theorem dX12_ahead_44 : decode cX12_ahead 44 = .ok (.iconst 0, 1) := by decide +kernel
theorem dX12_ahead_45 : decode cX12_ahead 45 = .ok (.iconst 3, 1) := by decide +kernel
theorem dX12_ahead_46 : decode cX12_ahead 46 = .ok (.invokevirtual 254, 3) := by decide +kernel
theorem dX12_ahead_49 : decode cX12_ahead 49 = .ok (.ifCond .eq 5, 3) := by decide +kernel
theorem dX12_ahead_52 : decode cX12_ahead 52 = .ok (.iconst 0, 1) := by decide +kernel
theorem dX12_ahead_53 : decode cX12_ahead 53 = .ok (.ireturn, 1) := by decide +kernel
theorem dX12_ahead_54 : decode cX12_ahead 54 = .ok (.aload_n 0, 1) := by decide +kernel
theorem dX12_ahead_55 : decode cX12_ahead 55 = .ok (.iload_n 1, 1) := by decide +kernel
theorem dX12_ahead_56 : decode cX12_ahead 56 = .ok (.iload_n 2, 1) := by decide +kernel
theorem dX12_ahead_57 : decode cX12_ahead 57 = .ok (.invokevirtual 359, 3) := by decide +kernel
theorem dX12_ahead_60 : decode cX12_ahead 60 = .ok (.iload_n 3, 1) := by decide +kernel
theorem dX12_ahead_61 : decode cX12_ahead 61 = .ok (.ifCond .ne 10, 3) := by decide +kernel
theorem dX12_ahead_64 : decode cX12_ahead 64 = .ok (.aload_n 0, 1) := by decide +kernel
theorem dX12_ahead_65 : decode cX12_ahead 65 = .ok (.invokevirtual 321, 3) := by decide +kernel
theorem dX12_ahead_68 : decode cX12_ahead 68 = .ok (.goto 19, 3) := by decide +kernel
theorem dX12_ahead_71 : decode cX12_ahead 71 = .ok (.iload_n 3, 1) := by decide +kernel
theorem dX12_ahead_72 : decode cX12_ahead 72 = .ok (.iconst 1, 1) := by decide +kernel
theorem dX12_ahead_73 : decode cX12_ahead 73 = .ok (.if_icmp .ne 10, 3) := by decide +kernel
theorem dX12_ahead_76 : decode cX12_ahead 76 = .ok (.aload_n 0, 1) := by decide +kernel
theorem dX12_ahead_77 : decode cX12_ahead 77 = .ok (.getfield 257, 3) := by decide +kernel
theorem dX12_ahead_80 : decode cX12_ahead 80 = .ok (.goto 7, 3) := by decide +kernel
theorem dX12_ahead_83 : decode cX12_ahead 83 = .ok (.aload_n 0, 1) := by decide +kernel
theorem dX12_ahead_84 : decode cX12_ahead 84 = .ok (.invokevirtual 318, 3) := by decide +kernel
theorem dX12_ahead_87 : decode cX12_ahead 87 = .ok (.ireturn, 1) := by decide +kernel
theorem dX12_holdsKind_0 : decode cX12_holdsKind 0 = .ok (.iconst 0, 1) := by decide +kernel
theorem dX12_holdsKind_1 : decode cX12_holdsKind 1 = .ok (.istore_n 2, 1) := by decide +kernel
theorem dX12_holdsKind_2 : decode cX12_holdsKind 2 = .ok (.iconst 0, 1) := by decide +kernel
theorem dX12_holdsKind_3 : decode cX12_holdsKind 3 = .ok (.istore_n 3, 1) := by decide +kernel
theorem dX12_holdsKind_4 : decode cX12_holdsKind 4 = .ok (.iload_n 3, 1) := by decide +kernel
theorem dX12_holdsKind_5 : decode cX12_holdsKind 5 = .ok (.aload_n 0, 1) := by decide +kernel
theorem dX12_holdsKind_6 : decode cX12_holdsKind 6 = .ok (.getfield 257, 3) := by decide +kernel
theorem dX12_holdsKind_9 : decode cX12_holdsKind 9 = .ok (.if_icmp .ge 29, 3) := by decide +kernel
theorem dX12_holdsKind_12 : decode cX12_holdsKind 12 = .ok (.iload_n 2, 1) := by decide +kernel
theorem dX12_holdsKind_13 : decode cX12_holdsKind 13 = .ok (.ifCond .ne 13, 3) := by decide +kernel
theorem dX12_holdsKind_16 : decode cX12_holdsKind 16 = .ok (.aload_n 0, 1) := by decide +kernel
theorem dX12_holdsKind_17 : decode cX12_holdsKind 17 = .ok (.getfield 42, 3) := by decide +kernel
theorem dX12_holdsKind_20 : decode cX12_holdsKind 20 = .ok (.iload_n 3, 1) := by decide +kernel
theorem dX12_holdsKind_21 : decode cX12_holdsKind 21 = .ok (.iaload, 1) := by decide +kernel
theorem dX12_holdsKind_22 : decode cX12_holdsKind 22 = .ok (.iload_n 1, 1) := by decide +kernel
theorem dX12_holdsKind_23 : decode cX12_holdsKind 23 = .ok (.if_icmp .ne 7, 3) := by decide +kernel
theorem dX12_holdsKind_26 : decode cX12_holdsKind 26 = .ok (.iconst 1, 1) := by decide +kernel
theorem dX12_holdsKind_27 : decode cX12_holdsKind 27 = .ok (.goto 4, 3) := by decide +kernel
theorem dX12_holdsKind_30 : decode cX12_holdsKind 30 = .ok (.iconst 0, 1) := by decide +kernel
theorem dX12_holdsKind_31 : decode cX12_holdsKind 31 = .ok (.istore_n 2, 1) := by decide +kernel
theorem dX12_holdsKind_32 : decode cX12_holdsKind 32 = .ok (.iinc 3 1, 3) := by decide +kernel
theorem dX12_holdsKind_35 : decode cX12_holdsKind 35 = .ok (.goto (-31), 3) := by decide +kernel
theorem dX12_holdsKind_38 : decode cX12_holdsKind 38 = .ok (.iload_n 2, 1) := by decide +kernel
theorem dX12_holdsKind_39 : decode cX12_holdsKind 39 = .ok (.ireturn, 1) := by decide +kernel
theorem dX12_saysBy_0 : decode cX12_saysBy 0 = .ok (.aload_n 0, 1) := by decide +kernel
theorem dX12_saysBy_1 : decode cX12_saysBy 1 = .ok (.iload_n 1, 1) := by decide +kernel
theorem dX12_saysBy_2 : decode cX12_saysBy 2 = .ok (.invokevirtual 311, 3) := by decide +kernel
theorem dX12_saysBy_5 : decode cX12_saysBy 5 = .ok (.iconst 0, 1) := by decide +kernel
theorem dX12_saysBy_6 : decode cX12_saysBy 6 = .ok (.istore 4, 2) := by decide +kernel
theorem dX12_saysBy_8 : decode cX12_saysBy 8 = .ok (.iload 4, 2) := by decide +kernel
theorem dX12_saysBy_10 : decode cX12_saysBy 10 = .ok (.bipush 40, 2) := by decide +kernel
theorem dX12_saysBy_12 : decode cX12_saysBy 12 = .ok (.if_icmp .gt 39, 3) := by decide +kernel
theorem dX12_saysBy_15 : decode cX12_saysBy 15 = .ok (.iload_n 3, 1) := by decide +kernel
theorem dX12_saysBy_16 : decode cX12_saysBy 16 = .ok (.ifCond .eq 14, 3) := by decide +kernel
theorem dX12_saysBy_19 : decode cX12_saysBy 19 = .ok (.aload_n 0, 1) := by decide +kernel
theorem dX12_saysBy_20 : decode cX12_saysBy 20 = .ok (.iload_n 2, 1) := by decide +kernel
theorem dX12_saysBy_21 : decode cX12_saysBy 21 = .ok (.invokevirtual 362, 3) := by decide +kernel
theorem dX12_saysBy_24 : decode cX12_saysBy 24 = .ok (.ifCond .eq 17, 3) := by decide +kernel
theorem dX12_saysBy_27 : decode cX12_saysBy 27 = .ok (.goto 11, 3) := by decide +kernel
theorem dX12_saysBy_30 : decode cX12_saysBy 30 = .ok (.aload_n 0, 1) := by decide +kernel
theorem dX12_saysBy_31 : decode cX12_saysBy 31 = .ok (.invokevirtual 321, 3) := by decide +kernel
theorem dX12_saysBy_34 : decode cX12_saysBy 34 = .ok (.iload_n 2, 1) := by decide +kernel
theorem dX12_saysBy_35 : decode cX12_saysBy 35 = .ok (.if_icmp .ne 6, 3) := by decide +kernel
theorem dX12_saysBy_38 : decode cX12_saysBy 38 = .ok (.iload 4, 2) := by decide +kernel
theorem dX12_saysBy_40 : decode cX12_saysBy 40 = .ok (.ireturn, 1) := by decide +kernel
theorem dX12_saysBy_41 : decode cX12_saysBy 41 = .ok (.aload_n 0, 1) := by decide +kernel
theorem dX12_saysBy_42 : decode cX12_saysBy 42 = .ok (.invokevirtual 308, 3) := by decide +kernel
theorem dX12_saysBy_45 : decode cX12_saysBy 45 = .ok (.iinc 4 1, 3) := by decide +kernel
theorem dX12_saysBy_48 : decode cX12_saysBy 48 = .ok (.goto (-40), 3) := by decide +kernel
theorem dX12_saysBy_51 : decode cX12_saysBy 51 = .ok (.iconst (-1), 1) := by decide +kernel
theorem dX12_saysBy_52 : decode cX12_saysBy 52 = .ok (.ireturn, 1) := by decide +kernel
theorem dX12_says_0 : decode cX12_says 0 = .ok (.aload_n 0, 1) := by decide +kernel
theorem dX12_says_1 : decode cX12_says 1 = .ok (.iconst 0, 1) := by decide +kernel
theorem dX12_says_2 : decode cX12_says 2 = .ok (.putfield 3, 3) := by decide +kernel
theorem dX12_says_5 : decode cX12_says 5 = .ok (.aload_n 0, 1) := by decide +kernel
theorem dX12_says_6 : decode cX12_says 6 = .ok (.aload_n 0, 1) := by decide +kernel
theorem dX12_says_7 : decode cX12_says 7 = .ok (.iload_n 1, 1) := by decide +kernel
theorem dX12_says_8 : decode cX12_says 8 = .ok (.invokevirtual 82, 3) := by decide +kernel
theorem dX12_says_11 : decode cX12_says 11 = .ok (.ifCond .ne 10, 3) := by decide +kernel
theorem dX12_says_14 : decode cX12_says 14 = .ok (.iload_n 2, 1) := by decide +kernel
theorem dX12_says_15 : decode cX12_says 15 = .ok (.invokestatic 327, 3) := by decide +kernel
theorem dX12_says_18 : decode cX12_says 18 = .ok (.ifCond .eq 7, 3) := by decide +kernel
theorem dX12_says_21 : decode cX12_says 21 = .ok (.iconst 1, 1) := by decide +kernel
theorem dX12_says_22 : decode cX12_says 22 = .ok (.goto 4, 3) := by decide +kernel
theorem dX12_says_25 : decode cX12_says 25 = .ok (.iconst 0, 1) := by decide +kernel
theorem dX12_says_26 : decode cX12_says 26 = .ok (.iconst 1, 1) := by decide +kernel
theorem dX12_says_27 : decode cX12_says 27 = .ok (.invokevirtual 254, 3) := by decide +kernel
theorem dX12_says_30 : decode cX12_says 30 = .ok (.ifCond .eq 7, 3) := by decide +kernel
theorem dX12_says_33 : decode cX12_says 33 = .ok (.iconst 0, 1) := by decide +kernel
theorem dX12_says_34 : decode cX12_says 34 = .ok (.goto 10, 3) := by decide +kernel
theorem dX12_says_37 : decode cX12_says 37 = .ok (.aload_n 0, 1) := by decide +kernel
theorem dX12_says_38 : decode cX12_says 38 = .ok (.iload_n 1, 1) := by decide +kernel
theorem dX12_says_39 : decode cX12_says 39 = .ok (.iload_n 2, 1) := by decide +kernel
theorem dX12_says_40 : decode cX12_says 40 = .ok (.iload_n 3, 1) := by decide +kernel
theorem dX12_says_41 : decode cX12_says 41 = .ok (.invokevirtual 365, 3) := by decide +kernel
theorem dX12_says_44 : decode cX12_says 44 = .ok (.ireturn, 1) := by decide +kernel
theorem dX12_stops_0 : decode cX12_stops 0 = .ok (.aload_n 0, 1) := by decide +kernel
theorem dX12_stops_1 : decode cX12_stops 1 = .ok (.iconst 0, 1) := by decide +kernel
theorem dX12_stops_2 : decode cX12_stops 2 = .ok (.putfield 3, 3) := by decide +kernel
theorem dX12_stops_5 : decode cX12_stops 5 = .ok (.aload_n 0, 1) := by decide +kernel
theorem dX12_stops_6 : decode cX12_stops 6 = .ok (.aload_n 0, 1) := by decide +kernel
theorem dX12_stops_7 : decode cX12_stops 7 = .ok (.iload_n 1, 1) := by decide +kernel
theorem dX12_stops_8 : decode cX12_stops 8 = .ok (.invokevirtual 82, 3) := by decide +kernel
theorem dX12_stops_11 : decode cX12_stops 11 = .ok (.iconst 1, 1) := by decide +kernel
theorem dX12_stops_12 : decode cX12_stops 12 = .ok (.invokevirtual 254, 3) := by decide +kernel
theorem dX12_stops_15 : decode cX12_stops 15 = .ok (.ifCond .eq 5, 3) := by decide +kernel
theorem dX12_stops_18 : decode cX12_stops 18 = .ok (.iconst 0, 1) := by decide +kernel
theorem dX12_stops_19 : decode cX12_stops 19 = .ok (.ireturn, 1) := by decide +kernel
theorem dX12_stops_20 : decode cX12_stops 20 = .ok (.aload_n 0, 1) := by decide +kernel
theorem dX12_stops_21 : decode cX12_stops 21 = .ok (.iload_n 1, 1) := by decide +kernel
theorem dX12_stops_22 : decode cX12_stops 22 = .ok (.invokevirtual 311, 3) := by decide +kernel
theorem dX12_stops_25 : decode cX12_stops 25 = .ok (.iconst 0, 1) := by decide +kernel
theorem dX12_stops_26 : decode cX12_stops 26 = .ok (.istore_n 2, 1) := by decide +kernel
theorem dX12_stops_27 : decode cX12_stops 27 = .ok (.iload_n 2, 1) := by decide +kernel
theorem dX12_stops_28 : decode cX12_stops 28 = .ok (.bipush 40, 2) := by decide +kernel
theorem dX12_stops_30 : decode cX12_stops 30 = .ok (.if_icmp .gt 22, 3) := by decide +kernel
theorem dX12_stops_33 : decode cX12_stops 33 = .ok (.aload_n 0, 1) := by decide +kernel
theorem dX12_stops_34 : decode cX12_stops 34 = .ok (.invokevirtual 297, 3) := by decide +kernel
theorem dX12_stops_37 : decode cX12_stops 37 = .ok (.ifCond .ne 5, 3) := by decide +kernel
theorem dX12_stops_40 : decode cX12_stops 40 = .ok (.iload_n 2, 1) := by decide +kernel
theorem dX12_stops_41 : decode cX12_stops 41 = .ok (.ireturn, 1) := by decide +kernel
theorem dX12_stops_42 : decode cX12_stops 42 = .ok (.aload_n 0, 1) := by decide +kernel
theorem dX12_stops_43 : decode cX12_stops 43 = .ok (.invokevirtual 308, 3) := by decide +kernel
theorem dX12_stops_46 : decode cX12_stops 46 = .ok (.iinc 2 1, 3) := by decide +kernel
theorem dX12_stops_49 : decode cX12_stops 49 = .ok (.goto (-22), 3) := by decide +kernel
theorem dX12_stops_52 : decode cX12_stops 52 = .ok (.iconst (-1), 1) := by decide +kernel
theorem dX12_stops_53 : decode cX12_stops 53 = .ok (.ireturn, 1) := by decide +kernel
theorem dX12_stays_0 : decode cX12_stays 0 = .ok (.aload_n 0, 1) := by decide +kernel
theorem dX12_stays_1 : decode cX12_stays 1 = .ok (.iconst 0, 1) := by decide +kernel
theorem dX12_stays_2 : decode cX12_stays 2 = .ok (.putfield 3, 3) := by decide +kernel
theorem dX12_stays_5 : decode cX12_stays 5 = .ok (.aload_n 0, 1) := by decide +kernel
theorem dX12_stays_6 : decode cX12_stays 6 = .ok (.aload_n 0, 1) := by decide +kernel
theorem dX12_stays_7 : decode cX12_stays 7 = .ok (.iload_n 1, 1) := by decide +kernel
theorem dX12_stays_8 : decode cX12_stays 8 = .ok (.invokevirtual 82, 3) := by decide +kernel
theorem dX12_stays_11 : decode cX12_stays 11 = .ok (.ifCond .ne 10, 3) := by decide +kernel
theorem dX12_stays_14 : decode cX12_stays 14 = .ok (.iload_n 2, 1) := by decide +kernel
theorem dX12_stays_15 : decode cX12_stays 15 = .ok (.invokestatic 327, 3) := by decide +kernel
theorem dX12_stays_18 : decode cX12_stays 18 = .ok (.ifCond .eq 7, 3) := by decide +kernel
theorem dX12_stays_21 : decode cX12_stays 21 = .ok (.iconst 1, 1) := by decide +kernel
theorem dX12_stays_22 : decode cX12_stays 22 = .ok (.goto 4, 3) := by decide +kernel
theorem dX12_stays_25 : decode cX12_stays 25 = .ok (.iconst 0, 1) := by decide +kernel
theorem dX12_stays_26 : decode cX12_stays 26 = .ok (.iconst 1, 1) := by decide +kernel
theorem dX12_stays_27 : decode cX12_stays 27 = .ok (.invokevirtual 254, 3) := by decide +kernel
theorem dX12_stays_30 : decode cX12_stays 30 = .ok (.ifCond .eq 5, 3) := by decide +kernel
theorem dX12_stays_33 : decode cX12_stays 33 = .ok (.iconst 0, 1) := by decide +kernel
theorem dX12_stays_34 : decode cX12_stays 34 = .ok (.ireturn, 1) := by decide +kernel
theorem dX12_stays_35 : decode cX12_stays 35 = .ok (.aload_n 0, 1) := by decide +kernel
theorem dX12_stays_36 : decode cX12_stays 36 = .ok (.iload_n 1, 1) := by decide +kernel
theorem dX12_stays_37 : decode cX12_stays 37 = .ok (.iload_n 2, 1) := by decide +kernel
theorem dX12_stays_38 : decode cX12_stays 38 = .ok (.iconst 0, 1) := by decide +kernel
theorem dX12_stays_39 : decode cX12_stays 39 = .ok (.invokevirtual 365, 3) := by decide +kernel
theorem dX12_stays_42 : decode cX12_stays 42 = .ok (.istore_n 3, 1) := by decide +kernel
theorem dX12_stays_43 : decode cX12_stays 43 = .ok (.iload_n 3, 1) := by decide +kernel
theorem dX12_stays_44 : decode cX12_stays 44 = .ok (.ifCond .ge 5, 3) := by decide +kernel
theorem dX12_stays_47 : decode cX12_stays 47 = .ok (.iconst 0, 1) := by decide +kernel
theorem dX12_stays_48 : decode cX12_stays 48 = .ok (.ireturn, 1) := by decide +kernel
theorem dX12_stays_49 : decode cX12_stays 49 = .ok (.aload_n 0, 1) := by decide +kernel
theorem dX12_stays_50 : decode cX12_stays 50 = .ok (.iload_n 1, 1) := by decide +kernel
theorem dX12_stays_51 : decode cX12_stays 51 = .ok (.iload_n 3, 1) := by decide +kernel
theorem dX12_stays_52 : decode cX12_stays 52 = .ok (.invokevirtual 359, 3) := by decide +kernel
theorem dX12_stays_55 : decode cX12_stays 55 = .ok (.iconst 0, 1) := by decide +kernel
theorem dX12_stays_56 : decode cX12_stays 56 = .ok (.istore 4, 2) := by decide +kernel
theorem dX12_stays_58 : decode cX12_stays 58 = .ok (.iload_n 3, 1) := by decide +kernel
theorem dX12_stays_59 : decode cX12_stays 59 = .ok (.iload 4, 2) := by decide +kernel
theorem dX12_stays_61 : decode cX12_stays 61 = .ok (.iadd, 1) := by decide +kernel
theorem dX12_stays_62 : decode cX12_stays 62 = .ok (.bipush 40, 2) := by decide +kernel
theorem dX12_stays_64 : decode cX12_stays 64 = .ok (.if_icmp .gt 21, 3) := by decide +kernel
theorem dX12_stays_67 : decode cX12_stays 67 = .ok (.aload_n 0, 1) := by decide +kernel
theorem dX12_stays_68 : decode cX12_stays 68 = .ok (.invokevirtual 321, 3) := by decide +kernel
theorem dX12_stays_71 : decode cX12_stays 71 = .ok (.iload_n 2, 1) := by decide +kernel
theorem dX12_stays_72 : decode cX12_stays 72 = .ok (.if_icmp .ne 13, 3) := by decide +kernel
theorem dX12_stays_75 : decode cX12_stays 75 = .ok (.iinc 4 1, 3) := by decide +kernel
theorem dX12_stays_78 : decode cX12_stays 78 = .ok (.aload_n 0, 1) := by decide +kernel
theorem dX12_stays_79 : decode cX12_stays 79 = .ok (.invokevirtual 308, 3) := by decide +kernel
theorem dX12_stays_82 : decode cX12_stays 82 = .ok (.goto (-24), 3) := by decide +kernel
theorem dX12_stays_85 : decode cX12_stays 85 = .ok (.iload 4, 2) := by decide +kernel
theorem dX12_stays_87 : decode cX12_stays 87 = .ok (.ireturn, 1) := by decide +kernel
theorem dX12_leads_0 : decode cX12_leads 0 = .ok (.aload_n 0, 1) := by decide +kernel
theorem dX12_leads_1 : decode cX12_leads 1 = .ok (.iload_n 1, 1) := by decide +kernel
theorem dX12_leads_2 : decode cX12_leads 2 = .ok (.bipush 12, 2) := by decide +kernel
theorem dX12_leads_4 : decode cX12_leads 4 = .ok (.if_icmp .ge 7, 3) := by decide +kernel
theorem dX12_leads_7 : decode cX12_leads 7 = .ok (.iconst 1, 1) := by decide +kernel
theorem dX12_leads_8 : decode cX12_leads 8 = .ok (.goto 4, 3) := by decide +kernel
theorem dX12_leads_11 : decode cX12_leads 11 = .ok (.iconst 2, 1) := by decide +kernel
theorem dX12_leads_12 : decode cX12_leads 12 = .ok (.putfield 257, 3) := by decide +kernel
theorem dX12_leads_15 : decode cX12_leads 15 = .ok (.aload_n 0, 1) := by decide +kernel
theorem dX12_leads_16 : decode cX12_leads 16 = .ok (.getfield 42, 3) := by decide +kernel
theorem dX12_leads_19 : decode cX12_leads 19 = .ok (.iconst 0, 1) := by decide +kernel
theorem dX12_leads_20 : decode cX12_leads 20 = .ok (.iload_n 1, 1) := by decide +kernel
theorem dX12_leads_21 : decode cX12_leads 21 = .ok (.bipush 12, 2) := by decide +kernel
theorem dX12_leads_23 : decode cX12_leads 23 = .ok (.if_icmp .ge 7, 3) := by decide +kernel
theorem dX12_leads_26 : decode cX12_leads 26 = .ok (.iload_n 1, 1) := by decide +kernel
theorem dX12_leads_27 : decode cX12_leads 27 = .ok (.goto 10, 3) := by decide +kernel
theorem dX12_leads_30 : decode cX12_leads 30 = .ok (.iload_n 1, 1) := by decide +kernel
theorem dX12_leads_31 : decode cX12_leads 31 = .ok (.bipush 12, 2) := by decide +kernel
theorem dX12_leads_33 : decode cX12_leads 33 = .ok (.isub, 1) := by decide +kernel
theorem dX12_leads_34 : decode cX12_leads 34 = .ok (.bipush 12, 2) := by decide +kernel
theorem dX12_leads_36 : decode cX12_leads 36 = .ok (.idiv, 1) := by decide +kernel
theorem dX12_leads_37 : decode cX12_leads 37 = .ok (.iastore, 1) := by decide +kernel
theorem dX12_leads_38 : decode cX12_leads 38 = .ok (.aload_n 0, 1) := by decide +kernel
theorem dX12_leads_39 : decode cX12_leads 39 = .ok (.getfield 42, 3) := by decide +kernel
theorem dX12_leads_42 : decode cX12_leads 42 = .ok (.iconst 1, 1) := by decide +kernel
theorem dX12_leads_43 : decode cX12_leads 43 = .ok (.iload_n 1, 1) := by decide +kernel
theorem dX12_leads_44 : decode cX12_leads 44 = .ok (.bipush 12, 2) := by decide +kernel
theorem dX12_leads_46 : decode cX12_leads 46 = .ok (.irem, 1) := by decide +kernel
theorem dX12_leads_47 : decode cX12_leads 47 = .ok (.iastore, 1) := by decide +kernel
theorem dX12_leads_48 : decode cX12_leads 48 = .ok (.aload_n 0, 1) := by decide +kernel
theorem dX12_leads_49 : decode cX12_leads 49 = .ok (.iload_n 3, 1) := by decide +kernel
theorem dX12_leads_50 : decode cX12_leads 50 = .ok (.putfield 260, 3) := by decide +kernel
theorem dX12_leads_53 : decode cX12_leads 53 = .ok (.aload_n 0, 1) := by decide +kernel
theorem dX12_leads_54 : decode cX12_leads 54 = .ok (.iload_n 2, 1) := by decide +kernel
theorem dX12_leads_55 : decode cX12_leads 55 = .ok (.putfield 267, 3) := by decide +kernel
theorem dX12_leads_58 : decode cX12_leads 58 = .ok (.aload_n 0, 1) := by decide +kernel
theorem dX12_leads_59 : decode cX12_leads 59 = .ok (.iconst 0, 1) := by decide +kernel
theorem dX12_leads_60 : decode cX12_leads 60 = .ok (.putfield 292, 3) := by decide +kernel
theorem dX12_leads_63 : decode cX12_leads 63 = .ok (.aload_n 0, 1) := by decide +kernel
theorem dX12_leads_64 : decode cX12_leads 64 = .ok (.iconst 0, 1) := by decide +kernel
theorem dX12_leads_65 : decode cX12_leads 65 = .ok (.putfield 269, 3) := by decide +kernel
theorem dX12_leads_68 : decode cX12_leads 68 = .ok (.aload_n 0, 1) := by decide +kernel
theorem dX12_leads_69 : decode cX12_leads 69 = .ok (.aload_n 0, 1) := by decide +kernel
theorem dX12_leads_70 : decode cX12_leads 70 = .ok (.getfield 13, 3) := by decide +kernel
theorem dX12_leads_73 : decode cX12_leads 73 = .ok (.iconst 4, 1) := by decide +kernel
theorem dX12_leads_74 : decode cX12_leads 74 = .ok (.iaload, 1) := by decide +kernel
theorem dX12_leads_75 : decode cX12_leads 75 = .ok (.putfield 262, 3) := by decide +kernel
theorem dX12_leads_78 : decode cX12_leads 78 = .ok (.aload_n 0, 1) := by decide +kernel
theorem dX12_leads_79 : decode cX12_leads 79 = .ok (.iload 5, 2) := by decide +kernel
theorem dX12_leads_81 : decode cX12_leads 81 = .ok (.invokevirtual 315, 3) := by decide +kernel
theorem dX12_leads_84 : decode cX12_leads 84 = .ok (.aload_n 0, 1) := by decide +kernel
theorem dX12_leads_85 : decode cX12_leads 85 = .ok (.invokevirtual 321, 3) := by decide +kernel
theorem dX12_leads_88 : decode cX12_leads 88 = .ok (.iload 4, 2) := by decide +kernel
theorem dX12_leads_90 : decode cX12_leads 90 = .ok (.if_icmp .ne 7, 3) := by decide +kernel
theorem dX12_leads_93 : decode cX12_leads 93 = .ok (.iconst 1, 1) := by decide +kernel
theorem dX12_leads_94 : decode cX12_leads 94 = .ok (.goto 4, 3) := by decide +kernel
theorem dX12_leads_97 : decode cX12_leads 97 = .ok (.iconst 0, 1) := by decide +kernel
theorem dX12_leads_98 : decode cX12_leads 98 = .ok (.ireturn, 1) := by decide +kernel
theorem dX12_send_0 : decode cX12_send 0 = .ok (.aload_n 0, 1) := by decide +kernel
theorem dX12_send_1 : decode cX12_send 1 = .ok (.iconst 0, 1) := by decide +kernel
theorem dX12_send_2 : decode cX12_send 2 = .ok (.putfield 3, 3) := by decide +kernel
theorem dX12_send_5 : decode cX12_send 5 = .ok (.aload_n 0, 1) := by decide +kernel
theorem dX12_send_6 : decode cX12_send 6 = .ok (.iload_n 3, 1) := by decide +kernel
theorem dX12_send_7 : decode cX12_send 7 = .ok (.invokestatic 327, 3) := by decide +kernel
theorem dX12_send_10 : decode cX12_send 10 = .ok (.iconst 1, 1) := by decide +kernel
theorem dX12_send_11 : decode cX12_send 11 = .ok (.invokevirtual 254, 3) := by decide +kernel
theorem dX12_send_14 : decode cX12_send 14 = .ok (.ifCond .ne 32, 3) := by decide +kernel
theorem dX12_send_17 : decode cX12_send 17 = .ok (.aload_n 0, 1) := by decide +kernel
theorem dX12_send_18 : decode cX12_send 18 = .ok (.iload_n 1, 1) := by decide +kernel
theorem dX12_send_19 : decode cX12_send 19 = .ok (.iload_n 2, 1) := by decide +kernel
theorem dX12_send_20 : decode cX12_send 20 = .ok (.invokestatic 337, 3) := by decide +kernel
theorem dX12_send_23 : decode cX12_send 23 = .ok (.ifCond .ne 11, 3) := by decide +kernel
theorem dX12_send_26 : decode cX12_send 26 = .ok (.iload 4, 2) := by decide +kernel
theorem dX12_send_28 : decode cX12_send 28 = .ok (.invokestatic 356, 3) := by decide +kernel
theorem dX12_send_31 : decode cX12_send 31 = .ok (.ifCond .eq 7, 3) := by decide +kernel
theorem dX12_send_34 : decode cX12_send 34 = .ok (.iconst 1, 1) := by decide +kernel
theorem dX12_send_35 : decode cX12_send 35 = .ok (.goto 4, 3) := by decide +kernel
theorem dX12_send_38 : decode cX12_send 38 = .ok (.iconst 0, 1) := by decide +kernel
theorem dX12_send_39 : decode cX12_send 39 = .ok (.iconst 2, 1) := by decide +kernel
theorem dX12_send_40 : decode cX12_send 40 = .ok (.invokevirtual 254, 3) := by decide +kernel
theorem dX12_send_43 : decode cX12_send 43 = .ok (.ifCond .eq 5, 3) := by decide +kernel
theorem dX12_send_46 : decode cX12_send 46 = .ok (.iconst 0, 1) := by decide +kernel
theorem dX12_send_47 : decode cX12_send 47 = .ok (.ireturn, 1) := by decide +kernel
theorem dX12_send_48 : decode cX12_send 48 = .ok (.iconst (-1), 1) := by decide +kernel
theorem dX12_send_49 : decode cX12_send 49 = .ok (.istore 6, 2) := by decide +kernel
theorem dX12_send_51 : decode cX12_send 51 = .ok (.iconst 0, 1) := by decide +kernel
theorem dX12_send_52 : decode cX12_send 52 = .ok (.istore 7, 2) := by decide +kernel
theorem dX12_send_54 : decode cX12_send 54 = .ok (.iconst 0, 1) := by decide +kernel
theorem dX12_send_55 : decode cX12_send 55 = .ok (.istore 8, 2) := by decide +kernel
theorem dX12_send_57 : decode cX12_send 57 = .ok (.iload 8, 2) := by decide +kernel
theorem dX12_send_59 : decode cX12_send 59 = .ok (.sipush 156, 3) := by decide +kernel
theorem dX12_send_62 : decode cX12_send 62 = .ok (.if_icmp .ge 43, 3) := by decide +kernel
theorem dX12_send_65 : decode cX12_send 65 = .ok (.aload_n 0, 1) := by decide +kernel
theorem dX12_send_66 : decode cX12_send 66 = .ok (.iload 8, 2) := by decide +kernel
theorem dX12_send_68 : decode cX12_send 68 = .ok (.iload_n 1, 1) := by decide +kernel
theorem dX12_send_69 : decode cX12_send 69 = .ok (.iload_n 2, 1) := by decide +kernel
theorem dX12_send_70 : decode cX12_send 70 = .ok (.iload_n 3, 1) := by decide +kernel
theorem dX12_send_71 : decode cX12_send 71 = .ok (.iload 4, 2) := by decide +kernel
theorem dX12_send_73 : decode cX12_send 73 = .ok (.invokevirtual 369, 3) := by decide +kernel
theorem dX12_send_76 : decode cX12_send 76 = .ok (.ifCond .ne 6, 3) := by decide +kernel
theorem dX12_send_79 : decode cX12_send 79 = .ok (.goto 20, 3) := by decide +kernel
theorem dX12_send_82 : decode cX12_send 82 = .ok (.iload 6, 2) := by decide +kernel
theorem dX12_send_84 : decode cX12_send 84 = .ok (.ifCond .ge 8, 3) := by decide +kernel
theorem dX12_send_87 : decode cX12_send 87 = .ok (.iload 8, 2) := by decide +kernel
theorem dX12_send_89 : decode cX12_send 89 = .ok (.goto 5, 3) := by decide +kernel
theorem dX12_send_92 : decode cX12_send 92 = .ok (.iload 6, 2) := by decide +kernel
theorem dX12_send_94 : decode cX12_send 94 = .ok (.istore 6, 2) := by decide +kernel
theorem dX12_send_96 : decode cX12_send 96 = .ok (.iinc 7 1, 3) := by decide +kernel
theorem dX12_send_99 : decode cX12_send 99 = .ok (.iinc 8 1, 3) := by decide +kernel
theorem dX12_send_102 : decode cX12_send 102 = .ok (.goto (-45), 3) := by decide +kernel
theorem dX12_send_105 : decode cX12_send 105 = .ok (.iload 5, 2) := by decide +kernel
theorem dX12_send_107 : decode cX12_send 107 = .ok (.ifCond .eq 8, 3) := by decide +kernel
theorem dX12_send_110 : decode cX12_send 110 = .ok (.iload 7, 2) := by decide +kernel
theorem dX12_send_112 : decode cX12_send 112 = .ok (.goto 5, 3) := by decide +kernel
theorem dX12_send_115 : decode cX12_send 115 = .ok (.iload 6, 2) := by decide +kernel
theorem dX12_send_117 : decode cX12_send 117 = .ok (.ireturn, 1) := by decide +kernel
theorem dX12_cuts_0 : decode cX12_cuts 0 = .ok (.aload_n 0, 1) := by decide +kernel
theorem dX12_cuts_1 : decode cX12_cuts 1 = .ok (.iconst 0, 1) := by decide +kernel
theorem dX12_cuts_2 : decode cX12_cuts 2 = .ok (.putfield 3, 3) := by decide +kernel
theorem dX12_cuts_5 : decode cX12_cuts 5 = .ok (.aload_n 0, 1) := by decide +kernel
theorem dX12_cuts_6 : decode cX12_cuts 6 = .ok (.aload_n 0, 1) := by decide +kernel
theorem dX12_cuts_7 : decode cX12_cuts 7 = .ok (.iload_n 1, 1) := by decide +kernel
theorem dX12_cuts_8 : decode cX12_cuts 8 = .ok (.invokevirtual 82, 3) := by decide +kernel
theorem dX12_cuts_11 : decode cX12_cuts 11 = .ok (.ifCond .ne 10, 3) := by decide +kernel
theorem dX12_cuts_14 : decode cX12_cuts 14 = .ok (.iload_n 2, 1) := by decide +kernel
theorem dX12_cuts_15 : decode cX12_cuts 15 = .ok (.invokestatic 327, 3) := by decide +kernel
theorem dX12_cuts_18 : decode cX12_cuts 18 = .ok (.ifCond .eq 7, 3) := by decide +kernel
theorem dX12_cuts_21 : decode cX12_cuts 21 = .ok (.iconst 1, 1) := by decide +kernel
theorem dX12_cuts_22 : decode cX12_cuts 22 = .ok (.goto 4, 3) := by decide +kernel
theorem dX12_cuts_25 : decode cX12_cuts 25 = .ok (.iconst 0, 1) := by decide +kernel
theorem dX12_cuts_26 : decode cX12_cuts 26 = .ok (.iconst 1, 1) := by decide +kernel
theorem dX12_cuts_27 : decode cX12_cuts 27 = .ok (.invokevirtual 254, 3) := by decide +kernel
theorem dX12_cuts_30 : decode cX12_cuts 30 = .ok (.ifCond .ne 15, 3) := by decide +kernel
theorem dX12_cuts_33 : decode cX12_cuts 33 = .ok (.aload_n 0, 1) := by decide +kernel
theorem dX12_cuts_34 : decode cX12_cuts 34 = .ok (.iload_n 3, 1) := by decide +kernel
theorem dX12_cuts_35 : decode cX12_cuts 35 = .ok (.invokestatic 356, 3) := by decide +kernel
theorem dX12_cuts_38 : decode cX12_cuts 38 = .ok (.iconst 2, 1) := by decide +kernel
theorem dX12_cuts_39 : decode cX12_cuts 39 = .ok (.invokevirtual 254, 3) := by decide +kernel
theorem dX12_cuts_42 : decode cX12_cuts 42 = .ok (.ifCond .eq 5, 3) := by decide +kernel
theorem dX12_cuts_45 : decode cX12_cuts 45 = .ok (.iconst 0, 1) := by decide +kernel
theorem dX12_cuts_46 : decode cX12_cuts 46 = .ok (.ireturn, 1) := by decide +kernel
theorem dX12_cuts_47 : decode cX12_cuts 47 = .ok (.iconst 0, 1) := by decide +kernel
theorem dX12_cuts_48 : decode cX12_cuts 48 = .ok (.istore 5, 2) := by decide +kernel
theorem dX12_cuts_50 : decode cX12_cuts 50 = .ok (.iload 5, 2) := by decide +kernel
theorem dX12_cuts_52 : decode cX12_cuts 52 = .ok (.aload_n 0, 1) := by decide +kernel
theorem dX12_cuts_53 : decode cX12_cuts 53 = .ok (.iload_n 1, 1) := by decide +kernel
theorem dX12_cuts_54 : decode cX12_cuts 54 = .ok (.invokevirtual 86, 3) := by decide +kernel
theorem dX12_cuts_57 : decode cX12_cuts 57 = .ok (.if_icmp .ge 51, 3) := by decide +kernel
theorem dX12_cuts_60 : decode cX12_cuts 60 = .ok (.aload_n 0, 1) := by decide +kernel
theorem dX12_cuts_61 : decode cX12_cuts 61 = .ok (.iload_n 1, 1) := by decide +kernel
theorem dX12_cuts_62 : decode cX12_cuts 62 = .ok (.invokevirtual 311, 3) := by decide +kernel
theorem dX12_cuts_65 : decode cX12_cuts 65 = .ok (.aload_n 0, 1) := by decide +kernel
theorem dX12_cuts_66 : decode cX12_cuts 66 = .ok (.dup, 1) := by decide +kernel
theorem dX12_cuts_67 : decode cX12_cuts 67 = .ok (.getfield 257, 3) := by decide +kernel
theorem dX12_cuts_70 : decode cX12_cuts 70 = .ok (.iload 5, 2) := by decide +kernel
theorem dX12_cuts_72 : decode cX12_cuts 72 = .ok (.isub, 1) := by decide +kernel
theorem dX12_cuts_73 : decode cX12_cuts 73 = .ok (.putfield 257, 3) := by decide +kernel
theorem dX12_cuts_76 : decode cX12_cuts 76 = .ok (.aload_n 0, 1) := by decide +kernel
theorem dX12_cuts_77 : decode cX12_cuts 77 = .ok (.iload_n 3, 1) := by decide +kernel
theorem dX12_cuts_78 : decode cX12_cuts 78 = .ok (.invokevirtual 315, 3) := by decide +kernel
theorem dX12_cuts_81 : decode cX12_cuts 81 = .ok (.aload_n 0, 1) := by decide +kernel
theorem dX12_cuts_82 : decode cX12_cuts 82 = .ok (.invokevirtual 321, 3) := by decide +kernel
theorem dX12_cuts_85 : decode cX12_cuts 85 = .ok (.iload_n 2, 1) := by decide +kernel
theorem dX12_cuts_86 : decode cX12_cuts 86 = .ok (.if_icmp .ne 7, 3) := by decide +kernel
theorem dX12_cuts_89 : decode cX12_cuts 89 = .ok (.iconst 1, 1) := by decide +kernel
theorem dX12_cuts_90 : decode cX12_cuts 90 = .ok (.goto 4, 3) := by decide +kernel
theorem dX12_cuts_93 : decode cX12_cuts 93 = .ok (.iconst 0, 1) := by decide +kernel
theorem dX12_cuts_94 : decode cX12_cuts 94 = .ok (.iload 4, 2) := by decide +kernel
theorem dX12_cuts_96 : decode cX12_cuts 96 = .ok (.if_icmp .eq 6, 3) := by decide +kernel
theorem dX12_cuts_99 : decode cX12_cuts 99 = .ok (.iload 5, 2) := by decide +kernel
theorem dX12_cuts_101 : decode cX12_cuts 101 = .ok (.ireturn, 1) := by decide +kernel
theorem dX12_cuts_102 : decode cX12_cuts 102 = .ok (.iinc 5 1, 3) := by decide +kernel
theorem dX12_cuts_105 : decode cX12_cuts 105 = .ok (.goto (-55), 3) := by decide +kernel
theorem dX12_cuts_108 : decode cX12_cuts 108 = .ok (.iconst (-1), 1) := by decide +kernel
theorem dX12_cuts_109 : decode cX12_cuts 109 = .ok (.ireturn, 1) := by decide +kernel
theorem dX12_out_0 : decode cX12_out 0 = .ok (.aload_n 0, 1) := by decide +kernel
theorem dX12_out_1 : decode cX12_out 1 = .ok (.iconst 0, 1) := by decide +kernel
theorem dX12_out_2 : decode cX12_out 2 = .ok (.putfield 3, 3) := by decide +kernel
theorem dX12_out_5 : decode cX12_out 5 = .ok (.aload_n 0, 1) := by decide +kernel
theorem dX12_out_6 : decode cX12_out 6 = .ok (.aload_n 0, 1) := by decide +kernel
theorem dX12_out_7 : decode cX12_out 7 = .ok (.iload_n 1, 1) := by decide +kernel
theorem dX12_out_8 : decode cX12_out 8 = .ok (.invokevirtual 82, 3) := by decide +kernel
theorem dX12_out_11 : decode cX12_out 11 = .ok (.ifCond .ne 10, 3) := by decide +kernel
theorem dX12_out_14 : decode cX12_out 14 = .ok (.iload_n 2, 1) := by decide +kernel
theorem dX12_out_15 : decode cX12_out 15 = .ok (.invokestatic 327, 3) := by decide +kernel
theorem dX12_out_18 : decode cX12_out 18 = .ok (.ifCond .eq 7, 3) := by decide +kernel
theorem dX12_out_21 : decode cX12_out 21 = .ok (.iconst 1, 1) := by decide +kernel
theorem dX12_out_22 : decode cX12_out 22 = .ok (.goto 4, 3) := by decide +kernel
theorem dX12_out_25 : decode cX12_out 25 = .ok (.iconst 0, 1) := by decide +kernel
theorem dX12_out_26 : decode cX12_out 26 = .ok (.iconst 1, 1) := by decide +kernel
theorem dX12_out_27 : decode cX12_out 27 = .ok (.invokevirtual 254, 3) := by decide +kernel
theorem dX12_out_30 : decode cX12_out 30 = .ok (.ifCond .ne 15, 3) := by decide +kernel
theorem dX12_out_33 : decode cX12_out 33 = .ok (.aload_n 0, 1) := by decide +kernel
theorem dX12_out_34 : decode cX12_out 34 = .ok (.iload_n 3, 1) := by decide +kernel
theorem dX12_out_35 : decode cX12_out 35 = .ok (.invokestatic 356, 3) := by decide +kernel
theorem dX12_out_38 : decode cX12_out 38 = .ok (.iconst 2, 1) := by decide +kernel
theorem dX12_out_39 : decode cX12_out 39 = .ok (.invokevirtual 254, 3) := by decide +kernel
theorem dX12_out_42 : decode cX12_out 42 = .ok (.ifCond .eq 5, 3) := by decide +kernel
theorem dX12_out_45 : decode cX12_out 45 = .ok (.iconst 0, 1) := by decide +kernel
theorem dX12_out_46 : decode cX12_out 46 = .ok (.ireturn, 1) := by decide +kernel
theorem dX12_out_47 : decode cX12_out 47 = .ok (.iconst 0, 1) := by decide +kernel
theorem dX12_out_48 : decode cX12_out 48 = .ok (.istore 5, 2) := by decide +kernel
theorem dX12_out_50 : decode cX12_out 50 = .ok (.iconst 0, 1) := by decide +kernel
theorem dX12_out_51 : decode cX12_out 51 = .ok (.istore 6, 2) := by decide +kernel
theorem dX12_out_53 : decode cX12_out 53 = .ok (.iload 6, 2) := by decide +kernel
theorem dX12_out_55 : decode cX12_out 55 = .ok (.aload_n 0, 1) := by decide +kernel
theorem dX12_out_56 : decode cX12_out 56 = .ok (.iload_n 1, 1) := by decide +kernel
theorem dX12_out_57 : decode cX12_out 57 = .ok (.invokevirtual 86, 3) := by decide +kernel
theorem dX12_out_60 : decode cX12_out 60 = .ok (.if_icmp .ge 106, 3) := by decide +kernel
theorem dX12_out_63 : decode cX12_out 63 = .ok (.aload_n 0, 1) := by decide +kernel
theorem dX12_out_64 : decode cX12_out 64 = .ok (.iload_n 1, 1) := by decide +kernel
theorem dX12_out_65 : decode cX12_out 65 = .ok (.invokevirtual 86, 3) := by decide +kernel
theorem dX12_out_68 : decode cX12_out 68 = .ok (.iconst 1, 1) := by decide +kernel
theorem dX12_out_69 : decode cX12_out 69 = .ok (.if_icmp .le 97, 3) := by decide +kernel
theorem dX12_out_72 : decode cX12_out 72 = .ok (.aload_n 0, 1) := by decide +kernel
theorem dX12_out_73 : decode cX12_out 73 = .ok (.iload_n 1, 1) := by decide +kernel
theorem dX12_out_74 : decode cX12_out 74 = .ok (.invokevirtual 311, 3) := by decide +kernel
theorem dX12_out_77 : decode cX12_out 77 = .ok (.iload 6, 2) := by decide +kernel
theorem dX12_out_79 : decode cX12_out 79 = .ok (.istore 7, 2) := by decide +kernel
theorem dX12_out_81 : decode cX12_out 81 = .ok (.iload 7, 2) := by decide +kernel
theorem dX12_out_83 : decode cX12_out 83 = .ok (.iconst 1, 1) := by decide +kernel
theorem dX12_out_84 : decode cX12_out 84 = .ok (.iadd, 1) := by decide +kernel
theorem dX12_out_85 : decode cX12_out 85 = .ok (.aload_n 0, 1) := by decide +kernel
theorem dX12_out_86 : decode cX12_out 86 = .ok (.getfield 257, 3) := by decide +kernel
theorem dX12_out_89 : decode cX12_out 89 = .ok (.if_icmp .ge 25, 3) := by decide +kernel
theorem dX12_out_92 : decode cX12_out 92 = .ok (.aload_n 0, 1) := by decide +kernel
theorem dX12_out_93 : decode cX12_out 93 = .ok (.getfield 42, 3) := by decide +kernel
theorem dX12_out_96 : decode cX12_out 96 = .ok (.iload 7, 2) := by decide +kernel
theorem dX12_out_98 : decode cX12_out 98 = .ok (.aload_n 0, 1) := by decide +kernel
theorem dX12_out_99 : decode cX12_out 99 = .ok (.getfield 42, 3) := by decide +kernel
theorem dX12_out_102 : decode cX12_out 102 = .ok (.iload 7, 2) := by decide +kernel
theorem dX12_out_104 : decode cX12_out 104 = .ok (.iconst 1, 1) := by decide +kernel
theorem dX12_out_105 : decode cX12_out 105 = .ok (.iadd, 1) := by decide +kernel
theorem dX12_out_106 : decode cX12_out 106 = .ok (.iaload, 1) := by decide +kernel
theorem dX12_out_107 : decode cX12_out 107 = .ok (.iastore, 1) := by decide +kernel
theorem dX12_out_108 : decode cX12_out 108 = .ok (.iinc 7 1, 3) := by decide +kernel
theorem dX12_out_111 : decode cX12_out 111 = .ok (.goto (-30), 3) := by decide +kernel
theorem dX12_out_114 : decode cX12_out 114 = .ok (.aload_n 0, 1) := by decide +kernel
theorem dX12_out_115 : decode cX12_out 115 = .ok (.dup, 1) := by decide +kernel
theorem dX12_out_116 : decode cX12_out 116 = .ok (.getfield 257, 3) := by decide +kernel
theorem dX12_out_119 : decode cX12_out 119 = .ok (.iconst 1, 1) := by decide +kernel
theorem dX12_out_120 : decode cX12_out 120 = .ok (.isub, 1) := by decide +kernel
theorem dX12_out_121 : decode cX12_out 121 = .ok (.putfield 257, 3) := by decide +kernel
theorem dX12_out_124 : decode cX12_out 124 = .ok (.aload_n 0, 1) := by decide +kernel
theorem dX12_out_125 : decode cX12_out 125 = .ok (.iload_n 3, 1) := by decide +kernel
theorem dX12_out_126 : decode cX12_out 126 = .ok (.invokevirtual 315, 3) := by decide +kernel
theorem dX12_out_129 : decode cX12_out 129 = .ok (.iload 5, 2) := by decide +kernel
theorem dX12_out_131 : decode cX12_out 131 = .ok (.aload_n 0, 1) := by decide +kernel
theorem dX12_out_132 : decode cX12_out 132 = .ok (.invokevirtual 321, 3) := by decide +kernel
theorem dX12_out_135 : decode cX12_out 135 = .ok (.iload_n 2, 1) := by decide +kernel
theorem dX12_out_136 : decode cX12_out 136 = .ok (.if_icmp .ne 7, 3) := by decide +kernel
theorem dX12_out_139 : decode cX12_out 139 = .ok (.iconst 1, 1) := by decide +kernel
theorem dX12_out_140 : decode cX12_out 140 = .ok (.goto 4, 3) := by decide +kernel
theorem dX12_out_143 : decode cX12_out 143 = .ok (.iconst 0, 1) := by decide +kernel
theorem dX12_out_144 : decode cX12_out 144 = .ok (.iload 4, 2) := by decide +kernel
theorem dX12_out_146 : decode cX12_out 146 = .ok (.if_icmp .eq 10, 3) := by decide +kernel
theorem dX12_out_149 : decode cX12_out 149 = .ok (.iconst 1, 1) := by decide +kernel
theorem dX12_out_150 : decode cX12_out 150 = .ok (.iload 6, 2) := by decide +kernel
theorem dX12_out_152 : decode cX12_out 152 = .ok (.ishl, 1) := by decide +kernel
theorem dX12_out_153 : decode cX12_out 153 = .ok (.goto 4, 3) := by decide +kernel
theorem dX12_out_156 : decode cX12_out 156 = .ok (.iconst 0, 1) := by decide +kernel
theorem dX12_out_157 : decode cX12_out 157 = .ok (.ior, 1) := by decide +kernel
theorem dX12_out_158 : decode cX12_out 158 = .ok (.istore 5, 2) := by decide +kernel
theorem dX12_out_160 : decode cX12_out 160 = .ok (.iinc 6 1, 3) := by decide +kernel
theorem dX12_out_163 : decode cX12_out 163 = .ok (.goto (-110), 3) := by decide +kernel
theorem dX12_out_166 : decode cX12_out 166 = .ok (.iload 5, 2) := by decide +kernel
theorem dX12_out_168 : decode cX12_out 168 = .ok (.ireturn, 1) := by decide +kernel
theorem dX12_astrayOf_0 : decode cX12_astrayOf 0 = .ok (.iconst 0, 1) := by decide +kernel
theorem dX12_astrayOf_1 : decode cX12_astrayOf 1 = .ok (.istore_n 2, 1) := by decide +kernel
theorem dX12_astrayOf_2 : decode cX12_astrayOf 2 = .ok (.aload_n 0, 1) := by decide +kernel
theorem dX12_astrayOf_3 : decode cX12_astrayOf 3 = .ok (.iload_n 1, 1) := by decide +kernel
theorem dX12_astrayOf_4 : decode cX12_astrayOf 4 = .ok (.invokevirtual 86, 3) := by decide +kernel
theorem dX12_astrayOf_7 : decode cX12_astrayOf 7 = .ok (.istore_n 3, 1) := by decide +kernel
theorem dX12_astrayOf_8 : decode cX12_astrayOf 8 = .ok (.iconst 1, 1) := by decide +kernel
theorem dX12_astrayOf_9 : decode cX12_astrayOf 9 = .ok (.istore 4, 2) := by decide +kernel
theorem dX12_astrayOf_11 : decode cX12_astrayOf 11 = .ok (.iload 4, 2) := by decide +kernel
theorem dX12_astrayOf_13 : decode cX12_astrayOf 13 = .ok (.iload_n 3, 1) := by decide +kernel
theorem dX12_astrayOf_14 : decode cX12_astrayOf 14 = .ok (.if_icmp .ge 54, 3) := by decide +kernel
theorem dX12_astrayOf_17 : decode cX12_astrayOf 17 = .ok (.aload_n 0, 1) := by decide +kernel
theorem dX12_astrayOf_18 : decode cX12_astrayOf 18 = .ok (.iload 4, 2) := by decide +kernel
theorem dX12_astrayOf_20 : decode cX12_astrayOf 20 = .ok (.putfield 257, 3) := by decide +kernel
theorem dX12_astrayOf_23 : decode cX12_astrayOf 23 = .ok (.aload_n 0, 1) := by decide +kernel
theorem dX12_astrayOf_24 : decode cX12_astrayOf 24 = .ok (.aload_n 0, 1) := by decide +kernel
theorem dX12_astrayOf_25 : decode cX12_astrayOf 25 = .ok (.iload_n 1, 1) := by decide +kernel
theorem dX12_astrayOf_26 : decode cX12_astrayOf 26 = .ok (.bipush 29, 2) := by decide +kernel
theorem dX12_astrayOf_28 : decode cX12_astrayOf 28 = .ok (.iload 4, 2) := by decide +kernel
theorem dX12_astrayOf_30 : decode cX12_astrayOf 30 = .ok (.iadd, 1) := by decide +kernel
theorem dX12_astrayOf_31 : decode cX12_astrayOf 31 = .ok (.invokevirtual 71, 3) := by decide +kernel
theorem dX12_astrayOf_34 : decode cX12_astrayOf 34 = .ok (.putfield 262, 3) := by decide +kernel
theorem dX12_astrayOf_37 : decode cX12_astrayOf 37 = .ok (.iload_n 2, 1) := by decide +kernel
theorem dX12_astrayOf_38 : decode cX12_astrayOf 38 = .ok (.aload_n 0, 1) := by decide +kernel
theorem dX12_astrayOf_39 : decode cX12_astrayOf 39 = .ok (.invokevirtual 294, 3) := by decide +kernel
theorem dX12_astrayOf_42 : decode cX12_astrayOf 42 = .ok (.aload_n 0, 1) := by decide +kernel
theorem dX12_astrayOf_43 : decode cX12_astrayOf 43 = .ok (.iload_n 1, 1) := by decide +kernel
theorem dX12_astrayOf_44 : decode cX12_astrayOf 44 = .ok (.iload 4, 2) := by decide +kernel
theorem dX12_astrayOf_46 : decode cX12_astrayOf 46 = .ok (.invokevirtual 286, 3) := by decide +kernel
theorem dX12_astrayOf_49 : decode cX12_astrayOf 49 = .ok (.if_icmp .eq 10, 3) := by decide +kernel
theorem dX12_astrayOf_52 : decode cX12_astrayOf 52 = .ok (.iconst 1, 1) := by decide +kernel
theorem dX12_astrayOf_53 : decode cX12_astrayOf 53 = .ok (.iload 4, 2) := by decide +kernel
theorem dX12_astrayOf_55 : decode cX12_astrayOf 55 = .ok (.ishl, 1) := by decide +kernel
theorem dX12_astrayOf_56 : decode cX12_astrayOf 56 = .ok (.goto 4, 3) := by decide +kernel
theorem dX12_astrayOf_59 : decode cX12_astrayOf 59 = .ok (.iconst 0, 1) := by decide +kernel
theorem dX12_astrayOf_60 : decode cX12_astrayOf 60 = .ok (.ior, 1) := by decide +kernel
theorem dX12_astrayOf_61 : decode cX12_astrayOf 61 = .ok (.istore_n 2, 1) := by decide +kernel
theorem dX12_astrayOf_62 : decode cX12_astrayOf 62 = .ok (.iinc 4 1, 3) := by decide +kernel
theorem dX12_astrayOf_65 : decode cX12_astrayOf 65 = .ok (.goto (-54), 3) := by decide +kernel
theorem dX12_astrayOf_68 : decode cX12_astrayOf 68 = .ok (.iload_n 2, 1) := by decide +kernel
theorem dX12_astrayOf_69 : decode cX12_astrayOf 69 = .ok (.ireturn, 1) := by decide +kernel
theorem dX12_astray_0 : decode cX12_astray 0 = .ok (.aload_n 0, 1) := by decide +kernel
theorem dX12_astray_1 : decode cX12_astray 1 = .ok (.iconst 0, 1) := by decide +kernel
theorem dX12_astray_2 : decode cX12_astray 2 = .ok (.putfield 3, 3) := by decide +kernel
theorem dX12_astray_5 : decode cX12_astray 5 = .ok (.aload_n 0, 1) := by decide +kernel
theorem dX12_astray_6 : decode cX12_astray 6 = .ok (.aload_n 0, 1) := by decide +kernel
theorem dX12_astray_7 : decode cX12_astray 7 = .ok (.iload_n 1, 1) := by decide +kernel
theorem dX12_astray_8 : decode cX12_astray 8 = .ok (.invokevirtual 82, 3) := by decide +kernel
theorem dX12_astray_11 : decode cX12_astray 11 = .ok (.iconst 1, 1) := by decide +kernel
theorem dX12_astray_12 : decode cX12_astray 12 = .ok (.invokevirtual 254, 3) := by decide +kernel
theorem dX12_astray_15 : decode cX12_astray 15 = .ok (.ifCond .eq 5, 3) := by decide +kernel
theorem dX12_astray_18 : decode cX12_astray 18 = .ok (.iconst 0, 1) := by decide +kernel
theorem dX12_astray_19 : decode cX12_astray 19 = .ok (.ireturn, 1) := by decide +kernel
theorem dX12_astray_20 : decode cX12_astray 20 = .ok (.aload_n 0, 1) := by decide +kernel
theorem dX12_astray_21 : decode cX12_astray 21 = .ok (.iload_n 1, 1) := by decide +kernel
theorem dX12_astray_22 : decode cX12_astray 22 = .ok (.invokevirtual 311, 3) := by decide +kernel
theorem dX12_astray_25 : decode cX12_astray 25 = .ok (.aload_n 0, 1) := by decide +kernel
theorem dX12_astray_26 : decode cX12_astray 26 = .ok (.iload_n 1, 1) := by decide +kernel
theorem dX12_astray_27 : decode cX12_astray 27 = .ok (.invokevirtual 373, 3) := by decide +kernel
theorem dX12_astray_30 : decode cX12_astray 30 = .ok (.ireturn, 1) := by decide +kernel
theorem dX12_written_0 : decode cX12_written 0 = .ok (.aload_n 0, 1) := by decide +kernel
theorem dX12_written_1 : decode cX12_written 1 = .ok (.iconst 0, 1) := by decide +kernel
theorem dX12_written_2 : decode cX12_written 2 = .ok (.putfield 3, 3) := by decide +kernel
theorem dX12_written_5 : decode cX12_written 5 = .ok (.aload_n 0, 1) := by decide +kernel
theorem dX12_written_6 : decode cX12_written 6 = .ok (.aload_n 0, 1) := by decide +kernel
theorem dX12_written_7 : decode cX12_written 7 = .ok (.iload_n 1, 1) := by decide +kernel
theorem dX12_written_8 : decode cX12_written 8 = .ok (.invokevirtual 82, 3) := by decide +kernel
theorem dX12_written_11 : decode cX12_written 11 = .ok (.iconst 1, 1) := by decide +kernel
theorem dX12_written_12 : decode cX12_written 12 = .ok (.invokevirtual 254, 3) := by decide +kernel
theorem dX12_written_15 : decode cX12_written 15 = .ok (.ifCond .eq 5, 3) := by decide +kernel
theorem dX12_written_18 : decode cX12_written 18 = .ok (.iconst 0, 1) := by decide +kernel
theorem dX12_written_19 : decode cX12_written 19 = .ok (.ireturn, 1) := by decide +kernel
theorem dX12_written_20 : decode cX12_written 20 = .ok (.aload_n 0, 1) := by decide +kernel
theorem dX12_written_21 : decode cX12_written 21 = .ok (.iload_n 1, 1) := by decide +kernel
theorem dX12_written_22 : decode cX12_written 22 = .ok (.invokevirtual 311, 3) := by decide +kernel
theorem dX12_written_25 : decode cX12_written 25 = .ok (.aload_n 0, 1) := by decide +kernel
theorem dX12_written_26 : decode cX12_written 26 = .ok (.iload_n 1, 1) := by decide +kernel
theorem dX12_written_27 : decode cX12_written 27 = .ok (.invokevirtual 373, 3) := by decide +kernel
theorem dX12_written_30 : decode cX12_written 30 = .ok (.istore_n 2, 1) := by decide +kernel
theorem dX12_written_31 : decode cX12_written 31 = .ok (.iload_n 2, 1) := by decide +kernel
theorem dX12_written_32 : decode cX12_written 32 = .ok (.ifCond .ne 7, 3) := by decide +kernel
theorem dX12_written_35 : decode cX12_written 35 = .ok (.iconst 1, 1) := by decide +kernel
theorem dX12_written_36 : decode cX12_written 36 = .ok (.goto 10, 3) := by decide +kernel
theorem dX12_written_39 : decode cX12_written 39 = .ok (.bipush 32, 2) := by decide +kernel
theorem dX12_written_41 : decode cX12_written 41 = .ok (.iload_n 2, 1) := by decide +kernel
theorem dX12_written_42 : decode cX12_written 42 = .ok (.invokestatic 376, 3) := by decide +kernel
theorem dX12_written_45 : decode cX12_written 45 = .ok (.isub, 1) := by decide +kernel
theorem dX12_written_46 : decode cX12_written 46 = .ok (.ireturn, 1) := by decide +kernel
theorem dX12_hasSense_0 : decode cX12_hasSense 0 = .ok (.iconst 0, 1) := by decide +kernel
theorem dX12_hasSense_1 : decode cX12_hasSense 1 = .ok (.istore_n 3, 1) := by decide +kernel
theorem dX12_hasSense_2 : decode cX12_hasSense 2 = .ok (.iconst 0, 1) := by decide +kernel
theorem dX12_hasSense_3 : decode cX12_hasSense 3 = .ok (.istore 4, 2) := by decide +kernel
theorem dX12_hasSense_5 : decode cX12_hasSense 5 = .ok (.iload 4, 2) := by decide +kernel
theorem dX12_hasSense_7 : decode cX12_hasSense 7 = .ok (.aload_n 0, 1) := by decide +kernel
theorem dX12_hasSense_8 : decode cX12_hasSense 8 = .ok (.invokevirtual 274, 3) := by decide +kernel
theorem dX12_hasSense_11 : decode cX12_hasSense 11 = .ok (.if_icmp .ge 39, 3) := by decide +kernel
theorem dX12_hasSense_14 : decode cX12_hasSense 14 = .ok (.iload_n 3, 1) := by decide +kernel
theorem dX12_hasSense_15 : decode cX12_hasSense 15 = .ok (.ifCond .ne 23, 3) := by decide +kernel
theorem dX12_hasSense_18 : decode cX12_hasSense 18 = .ok (.aload_n 0, 1) := by decide +kernel
theorem dX12_hasSense_19 : decode cX12_hasSense 19 = .ok (.iload 4, 2) := by decide +kernel
theorem dX12_hasSense_21 : decode cX12_hasSense 21 = .ok (.invokevirtual 277, 3) := by decide +kernel
theorem dX12_hasSense_24 : decode cX12_hasSense 24 = .ok (.iload_n 1, 1) := by decide +kernel
theorem dX12_hasSense_25 : decode cX12_hasSense 25 = .ok (.if_icmp .ne 17, 3) := by decide +kernel
theorem dX12_hasSense_28 : decode cX12_hasSense 28 = .ok (.aload_n 0, 1) := by decide +kernel
theorem dX12_hasSense_29 : decode cX12_hasSense 29 = .ok (.iload 4, 2) := by decide +kernel
theorem dX12_hasSense_31 : decode cX12_hasSense 31 = .ok (.invokevirtual 283, 3) := by decide +kernel
theorem dX12_hasSense_34 : decode cX12_hasSense 34 = .ok (.iload_n 2, 1) := by decide +kernel
theorem dX12_hasSense_35 : decode cX12_hasSense 35 = .ok (.if_icmp .ne 7, 3) := by decide +kernel
theorem dX12_hasSense_38 : decode cX12_hasSense 38 = .ok (.iconst 1, 1) := by decide +kernel
theorem dX12_hasSense_39 : decode cX12_hasSense 39 = .ok (.goto 4, 3) := by decide +kernel
theorem dX12_hasSense_42 : decode cX12_hasSense 42 = .ok (.iconst 0, 1) := by decide +kernel
theorem dX12_hasSense_43 : decode cX12_hasSense 43 = .ok (.istore_n 3, 1) := by decide +kernel
theorem dX12_hasSense_44 : decode cX12_hasSense 44 = .ok (.iinc 4 1, 3) := by decide +kernel
theorem dX12_hasSense_47 : decode cX12_hasSense 47 = .ok (.goto (-42), 3) := by decide +kernel
theorem dX12_hasSense_50 : decode cX12_hasSense 50 = .ok (.iload_n 3, 1) := by decide +kernel
theorem dX12_hasSense_51 : decode cX12_hasSense 51 = .ok (.ireturn, 1) := by decide +kernel
theorem dX12_senseless_0 : decode cX12_senseless 0 = .ok (.aload_n 0, 1) := by decide +kernel
theorem dX12_senseless_1 : decode cX12_senseless 1 = .ok (.iconst 0, 1) := by decide +kernel
theorem dX12_senseless_2 : decode cX12_senseless 2 = .ok (.putfield 3, 3) := by decide +kernel
theorem dX12_senseless_5 : decode cX12_senseless 5 = .ok (.aload_n 0, 1) := by decide +kernel
theorem dX12_senseless_6 : decode cX12_senseless 6 = .ok (.aload_n 0, 1) := by decide +kernel
theorem dX12_senseless_7 : decode cX12_senseless 7 = .ok (.iload_n 1, 1) := by decide +kernel
theorem dX12_senseless_8 : decode cX12_senseless 8 = .ok (.invokevirtual 82, 3) := by decide +kernel
theorem dX12_senseless_11 : decode cX12_senseless 11 = .ok (.iconst 1, 1) := by decide +kernel
theorem dX12_senseless_12 : decode cX12_senseless 12 = .ok (.invokevirtual 254, 3) := by decide +kernel
theorem dX12_senseless_15 : decode cX12_senseless 15 = .ok (.ifCond .eq 5, 3) := by decide +kernel
theorem dX12_senseless_18 : decode cX12_senseless 18 = .ok (.iconst 0, 1) := by decide +kernel
theorem dX12_senseless_19 : decode cX12_senseless 19 = .ok (.ireturn, 1) := by decide +kernel
theorem dX12_senseless_20 : decode cX12_senseless 20 = .ok (.iconst 1, 1) := by decide +kernel
theorem dX12_senseless_21 : decode cX12_senseless 21 = .ok (.istore_n 2, 1) := by decide +kernel
theorem dX12_senseless_22 : decode cX12_senseless 22 = .ok (.iload_n 2, 1) := by decide +kernel
theorem dX12_senseless_23 : decode cX12_senseless 23 = .ok (.aload_n 0, 1) := by decide +kernel
theorem dX12_senseless_24 : decode cX12_senseless 24 = .ok (.iload_n 1, 1) := by decide +kernel
theorem dX12_senseless_25 : decode cX12_senseless 25 = .ok (.invokevirtual 86, 3) := by decide +kernel
theorem dX12_senseless_28 : decode cX12_senseless 28 = .ok (.if_icmp .ge 32, 3) := by decide +kernel
theorem dX12_senseless_31 : decode cX12_senseless 31 = .ok (.aload_n 0, 1) := by decide +kernel
theorem dX12_senseless_32 : decode cX12_senseless 32 = .ok (.aload_n 0, 1) := by decide +kernel
theorem dX12_senseless_33 : decode cX12_senseless 33 = .ok (.iload_n 1, 1) := by decide +kernel
theorem dX12_senseless_34 : decode cX12_senseless 34 = .ok (.iload_n 2, 1) := by decide +kernel
theorem dX12_senseless_35 : decode cX12_senseless 35 = .ok (.iconst 1, 1) := by decide +kernel
theorem dX12_senseless_36 : decode cX12_senseless 36 = .ok (.isub, 1) := by decide +kernel
theorem dX12_senseless_37 : decode cX12_senseless 37 = .ok (.invokevirtual 286, 3) := by decide +kernel
theorem dX12_senseless_40 : decode cX12_senseless 40 = .ok (.aload_n 0, 1) := by decide +kernel
theorem dX12_senseless_41 : decode cX12_senseless 41 = .ok (.iload_n 1, 1) := by decide +kernel
theorem dX12_senseless_42 : decode cX12_senseless 42 = .ok (.iload_n 2, 1) := by decide +kernel
theorem dX12_senseless_43 : decode cX12_senseless 43 = .ok (.invokevirtual 286, 3) := by decide +kernel
theorem dX12_senseless_46 : decode cX12_senseless 46 = .ok (.invokevirtual 381, 3) := by decide +kernel
theorem dX12_senseless_49 : decode cX12_senseless 49 = .ok (.ifCond .ne 5, 3) := by decide +kernel
theorem dX12_senseless_52 : decode cX12_senseless 52 = .ok (.iload_n 2, 1) := by decide +kernel
theorem dX12_senseless_53 : decode cX12_senseless 53 = .ok (.ireturn, 1) := by decide +kernel
theorem dX12_senseless_54 : decode cX12_senseless 54 = .ok (.iinc 2 1, 3) := by decide +kernel
theorem dX12_senseless_57 : decode cX12_senseless 57 = .ok (.goto (-35), 3) := by decide +kernel
theorem dX12_senseless_60 : decode cX12_senseless 60 = .ok (.iconst (-1), 1) := by decide +kernel
theorem dX12_senseless_61 : decode cX12_senseless 61 = .ok (.ireturn, 1) := by decide +kernel
theorem dX12_author_0 : decode cX12_author 0 = .ok (.aload_n 0, 1) := by decide +kernel
theorem dX12_author_1 : decode cX12_author 1 = .ok (.iconst 0, 1) := by decide +kernel
theorem dX12_author_2 : decode cX12_author 2 = .ok (.putfield 3, 3) := by decide +kernel
theorem dX12_author_5 : decode cX12_author 5 = .ok (.aload_n 0, 1) := by decide +kernel
theorem dX12_author_6 : decode cX12_author 6 = .ok (.aload_n 0, 1) := by decide +kernel
theorem dX12_author_7 : decode cX12_author 7 = .ok (.iload_n 1, 1) := by decide +kernel
theorem dX12_author_8 : decode cX12_author 8 = .ok (.invokevirtual 82, 3) := by decide +kernel
theorem dX12_author_11 : decode cX12_author 11 = .ok (.iconst 1, 1) := by decide +kernel
theorem dX12_author_12 : decode cX12_author 12 = .ok (.invokevirtual 254, 3) := by decide +kernel
theorem dX12_author_15 : decode cX12_author 15 = .ok (.ifCond .eq 5, 3) := by decide +kernel
theorem dX12_author_18 : decode cX12_author 18 = .ok (.iconst 0, 1) := by decide +kernel
theorem dX12_author_19 : decode cX12_author 19 = .ok (.ireturn, 1) := by decide +kernel
theorem dX12_author_20 : decode cX12_author 20 = .ok (.iconst 0, 1) := by decide +kernel
theorem dX12_author_21 : decode cX12_author 21 = .ok (.istore_n 3, 1) := by decide +kernel
theorem dX12_author_22 : decode cX12_author 22 = .ok (.sipush 1000, 3) := by decide +kernel
theorem dX12_author_25 : decode cX12_author 25 = .ok (.istore 4, 2) := by decide +kernel
theorem dX12_author_27 : decode cX12_author 27 = .ok (.iconst 0, 1) := by decide +kernel
theorem dX12_author_28 : decode cX12_author 28 = .ok (.istore 5, 2) := by decide +kernel
theorem dX12_author_30 : decode cX12_author 30 = .ok (.iload 5, 2) := by decide +kernel
theorem dX12_author_32 : decode cX12_author 32 = .ok (.bipush 10, 2) := by decide +kernel
theorem dX12_author_34 : decode cX12_author 34 = .ok (.if_icmp .ge 75, 3) := by decide +kernel
theorem dX12_author_37 : decode cX12_author 37 = .ok (.aload_n 0, 1) := by decide +kernel
theorem dX12_author_38 : decode cX12_author 38 = .ok (.iload_n 1, 1) := by decide +kernel
theorem dX12_author_39 : decode cX12_author 39 = .ok (.invokevirtual 311, 3) := by decide +kernel
theorem dX12_author_42 : decode cX12_author 42 = .ok (.aload_n 0, 1) := by decide +kernel
theorem dX12_author_43 : decode cX12_author 43 = .ok (.iload_n 2, 1) := by decide +kernel
theorem dX12_author_44 : decode cX12_author 44 = .ok (.ifCond .eq 8, 3) := by decide +kernel
theorem dX12_author_47 : decode cX12_author 47 = .ok (.iload 5, 2) := by decide +kernel
theorem dX12_author_49 : decode cX12_author 49 = .ok (.goto 7, 3) := by decide +kernel
theorem dX12_author_52 : decode cX12_author 52 = .ok (.aload_n 0, 1) := by decide +kernel
theorem dX12_author_53 : decode cX12_author 53 = .ok (.getfield 267, 3) := by decide +kernel
theorem dX12_author_56 : decode cX12_author 56 = .ok (.putfield 267, 3) := by decide +kernel
theorem dX12_author_59 : decode cX12_author 59 = .ok (.aload_n 0, 1) := by decide +kernel
theorem dX12_author_60 : decode cX12_author 60 = .ok (.iload_n 2, 1) := by decide +kernel
theorem dX12_author_61 : decode cX12_author 61 = .ok (.ifCond .eq 10, 3) := by decide +kernel
theorem dX12_author_64 : decode cX12_author 64 = .ok (.aload_n 0, 1) := by decide +kernel
theorem dX12_author_65 : decode cX12_author 65 = .ok (.getfield 260, 3) := by decide +kernel
theorem dX12_author_68 : decode cX12_author 68 = .ok (.goto 5, 3) := by decide +kernel
theorem dX12_author_71 : decode cX12_author 71 = .ok (.iload 5, 2) := by decide +kernel
theorem dX12_author_73 : decode cX12_author 73 = .ok (.putfield 260, 3) := by decide +kernel
theorem dX12_author_76 : decode cX12_author 76 = .ok (.aload_n 0, 1) := by decide +kernel
theorem dX12_author_77 : decode cX12_author 77 = .ok (.iload_n 1, 1) := by decide +kernel
theorem dX12_author_78 : decode cX12_author 78 = .ok (.invokevirtual 373, 3) := by decide +kernel
theorem dX12_author_81 : decode cX12_author 81 = .ok (.invokestatic 384, 3) := by decide +kernel
theorem dX12_author_84 : decode cX12_author 84 = .ok (.istore 6, 2) := by decide +kernel
theorem dX12_author_86 : decode cX12_author 86 = .ok (.iload 6, 2) := by decide +kernel
theorem dX12_author_88 : decode cX12_author 88 = .ok (.iload 4, 2) := by decide +kernel
theorem dX12_author_90 : decode cX12_author 90 = .ok (.if_icmp .lt 6, 3) := by decide +kernel
theorem dX12_author_93 : decode cX12_author 93 = .ok (.goto 10, 3) := by decide +kernel
theorem dX12_author_96 : decode cX12_author 96 = .ok (.iload 5, 2) := by decide +kernel
theorem dX12_author_98 : decode cX12_author 98 = .ok (.istore_n 3, 1) := by decide +kernel
theorem dX12_author_99 : decode cX12_author 99 = .ok (.iload 6, 2) := by decide +kernel
theorem dX12_author_101 : decode cX12_author 101 = .ok (.istore 4, 2) := by decide +kernel
theorem dX12_author_103 : decode cX12_author 103 = .ok (.iinc 5 1, 3) := by decide +kernel
theorem dX12_author_106 : decode cX12_author 106 = .ok (.goto (-76), 3) := by decide +kernel
theorem dX12_author_109 : decode cX12_author 109 = .ok (.iload_n 3, 1) := by decide +kernel
theorem dX12_author_110 : decode cX12_author 110 = .ok (.ireturn, 1) := by decide +kernel
theorem dX12_growsAll_0 : decode cX12_growsAll 0 = .ok (.aload_n 0, 1) := by decide +kernel
theorem dX12_growsAll_1 : decode cX12_growsAll 1 = .ok (.iload_n 1, 1) := by decide +kernel
theorem dX12_growsAll_2 : decode cX12_growsAll 2 = .ok (.invokevirtual 311, 3) := by decide +kernel
theorem dX12_growsAll_5 : decode cX12_growsAll 5 = .ok (.iconst 0, 1) := by decide +kernel
theorem dX12_growsAll_6 : decode cX12_growsAll 6 = .ok (.istore_n 2, 1) := by decide +kernel
theorem dX12_growsAll_7 : decode cX12_growsAll 7 = .ok (.iload_n 2, 1) := by decide +kernel
theorem dX12_growsAll_8 : decode cX12_growsAll 8 = .ok (.bipush 40, 2) := by decide +kernel
theorem dX12_growsAll_10 : decode cX12_growsAll 10 = .ok (.if_icmp .gt 23, 3) := by decide +kernel
theorem dX12_growsAll_13 : decode cX12_growsAll 13 = .ok (.aload_n 0, 1) := by decide +kernel
theorem dX12_growsAll_14 : decode cX12_growsAll 14 = .ok (.getfield 48, 3) := by decide +kernel
theorem dX12_growsAll_17 : decode cX12_growsAll 17 = .ok (.iload_n 2, 1) := by decide +kernel
theorem dX12_growsAll_18 : decode cX12_growsAll 18 = .ok (.aload_n 0, 1) := by decide +kernel
theorem dX12_growsAll_19 : decode cX12_growsAll 19 = .ok (.getfield 257, 3) := by decide +kernel
theorem dX12_growsAll_22 : decode cX12_growsAll 22 = .ok (.iastore, 1) := by decide +kernel
theorem dX12_growsAll_23 : decode cX12_growsAll 23 = .ok (.aload_n 0, 1) := by decide +kernel
theorem dX12_growsAll_24 : decode cX12_growsAll 24 = .ok (.invokevirtual 308, 3) := by decide +kernel
theorem dX12_growsAll_27 : decode cX12_growsAll 27 = .ok (.iinc 2 1, 3) := by decide +kernel
theorem dX12_growsAll_30 : decode cX12_growsAll 30 = .ok (.goto (-23), 3) := by decide +kernel
theorem dX12_growsAll_33 : decode cX12_growsAll 33 = .ok (.iconst 0, 1) := by decide +kernel
theorem dX12_growsAll_34 : decode cX12_growsAll 34 = .ok (.istore_n 2, 1) := by decide +kernel
theorem dX12_growsAll_35 : decode cX12_growsAll 35 = .ok (.iload_n 2, 1) := by decide +kernel
theorem dX12_growsAll_36 : decode cX12_growsAll 36 = .ok (.aload_n 0, 1) := by decide +kernel
theorem dX12_growsAll_37 : decode cX12_growsAll 37 = .ok (.getfield 257, 3) := by decide +kernel
